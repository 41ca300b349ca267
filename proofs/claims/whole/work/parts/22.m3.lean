variable {p : Program} {l : Launch} {e : Env} {s : State} {m : MethodId} {av : Array Value} {below : List Frame} {meth : Method} {c : Code} {g : GX} {q : Nat → Nat} {A : Nat → Prop}
theorem d_M_test_0 : decode prog_13_method_40_code 0 = .ok (.iconst 1, 1) := by decide +kernel
theorem d_M_test_1 : decode prog_13_method_40_code 1 = .ok (.istore_n 1, 1) := by decide +kernel
theorem d_M_test_2 : decode prog_13_method_40_code 2 = .ok (.iload_n 1, 1) := by decide +kernel
theorem d_M_test_3 : decode prog_13_method_40_code 3 = .ok (.ifCond .eq 107, 3) := by decide +kernel
theorem d_M_test_6 : decode prog_13_method_40_code 6 = .ok (.aload_n 0, 1) := by decide +kernel
theorem d_M_test_7 : decode prog_13_method_40_code 7 = .ok (.getfield 158, 3) := by decide +kernel
theorem d_M_test_10 : decode prog_13_method_40_code 10 = .ok (.ifCond .ne 100, 3) := by decide +kernel
theorem d_M_test_13 : decode prog_13_method_40_code 13 = .ok (.aload_n 0, 1) := by decide +kernel
theorem d_M_test_14 : decode prog_13_method_40_code 14 = .ok (.invokevirtual 170, 3) := by decide +kernel
theorem d_M_test_17 : decode prog_13_method_40_code 17 = .ok (.istore_n 2, 1) := by decide +kernel
theorem d_M_test_18 : decode prog_13_method_40_code 18 = .ok (.iload_n 2, 1) := by decide +kernel
theorem d_M_test_19 : decode prog_13_method_40_code 19 = .ok (.bipush 91, 2) := by decide +kernel
theorem d_M_test_21 : decode prog_13_method_40_code 21 = .ok (.if_icmp .ne 26, 3) := by decide +kernel
theorem d_M_test_24 : decode prog_13_method_40_code 24 = .ok (.aload_n 0, 1) := by decide +kernel
theorem d_M_test_25 : decode prog_13_method_40_code 25 = .ok (.bipush 25, 2) := by decide +kernel
theorem d_M_test_27 : decode prog_13_method_40_code 27 = .ok (.aload_n 0, 1) := by decide +kernel
theorem d_M_test_28 : decode prog_13_method_40_code 28 = .ok (.getfield 164, 3) := by decide +kernel
theorem d_M_test_31 : decode prog_13_method_40_code 31 = .ok (.invokevirtual 293, 3) := by decide +kernel
theorem d_M_test_34 : decode prog_13_method_40_code 34 = .ok (.aload_n 0, 1) := by decide +kernel
theorem d_M_test_35 : decode prog_13_method_40_code 35 = .ok (.dup, 1) := by decide +kernel
theorem d_M_test_36 : decode prog_13_method_40_code 36 = .ok (.getfield 164, 3) := by decide +kernel
theorem d_M_test_39 : decode prog_13_method_40_code 39 = .ok (.iconst 1, 1) := by decide +kernel
theorem d_M_test_40 : decode prog_13_method_40_code 40 = .ok (.iadd, 1) := by decide +kernel
theorem d_M_test_41 : decode prog_13_method_40_code 41 = .ok (.putfield 164, 3) := by decide +kernel
theorem d_M_test_44 : decode prog_13_method_40_code 44 = .ok (.goto (-42), 3) := by decide +kernel
theorem d_M_test_47 : decode prog_13_method_40_code 47 = .ok (.aload_n 0, 1) := by decide +kernel
theorem d_M_test_48 : decode prog_13_method_40_code 48 = .ok (.aload_n 0, 1) := by decide +kernel
theorem d_M_test_49 : decode prog_13_method_40_code 49 = .ok (.getfield 90, 3) := by decide +kernel
theorem d_M_test_52 : decode prog_13_method_40_code 52 = .ok (.invokevirtual 181, 3) := by decide +kernel
theorem d_M_test_55 : decode prog_13_method_40_code 55 = .ok (.ifCond .eq 24, 3) := by decide +kernel
theorem d_M_test_58 : decode prog_13_method_40_code 58 = .ok (.aload_n 0, 1) := by decide +kernel
theorem d_M_test_59 : decode prog_13_method_40_code 59 = .ok (.bipush 18, 2) := by decide +kernel
theorem d_M_test_61 : decode prog_13_method_40_code 61 = .ok (.aload_n 0, 1) := by decide +kernel
theorem d_M_test_62 : decode prog_13_method_40_code 62 = .ok (.getfield 164, 3) := by decide +kernel
theorem d_M_test_65 : decode prog_13_method_40_code 65 = .ok (.invokevirtual 293, 3) := by decide +kernel
theorem d_M_test_68 : decode prog_13_method_40_code 68 = .ok (.aload_n 0, 1) := by decide +kernel
theorem d_M_test_69 : decode prog_13_method_40_code 69 = .ok (.aload_n 0, 1) := by decide +kernel
theorem d_M_test_70 : decode prog_13_method_40_code 70 = .ok (.getfield 90, 3) := by decide +kernel
theorem d_M_test_73 : decode prog_13_method_40_code 73 = .ok (.invokevirtual 224, 3) := by decide +kernel
theorem d_M_test_76 : decode prog_13_method_40_code 76 = .ok (.goto (-74), 3) := by decide +kernel
theorem d_M_test_79 : decode prog_13_method_40_code 79 = .ok (.aload_n 0, 1) := by decide +kernel
theorem d_M_test_80 : decode prog_13_method_40_code 80 = .ok (.invokevirtual 314, 3) := by decide +kernel
theorem d_M_test_83 : decode prog_13_method_40_code 83 = .ok (.aload_n 0, 1) := by decide +kernel
theorem d_M_test_84 : decode prog_13_method_40_code 84 = .ok (.invokevirtual 317, 3) := by decide +kernel
theorem d_M_test_87 : decode prog_13_method_40_code 87 = .ok (.aload_n 0, 1) := by decide +kernel
theorem d_M_test_88 : decode prog_13_method_40_code 88 = .ok (.getfield 158, 3) := by decide +kernel
theorem d_M_test_91 : decode prog_13_method_40_code 91 = .ok (.ifCond .ne 14, 3) := by decide +kernel
theorem d_M_test_94 : decode prog_13_method_40_code 94 = .ok (.aload_n 0, 1) := by decide +kernel
theorem d_M_test_95 : decode prog_13_method_40_code 95 = .ok (.invokevirtual 320, 3) := by decide +kernel
theorem d_M_test_98 : decode prog_13_method_40_code 98 = .ok (.ifCond .eq 7, 3) := by decide +kernel
theorem d_M_test_101 : decode prog_13_method_40_code 101 = .ok (.iconst 1, 1) := by decide +kernel
theorem d_M_test_102 : decode prog_13_method_40_code 102 = .ok (.goto 4, 3) := by decide +kernel
theorem d_M_test_105 : decode prog_13_method_40_code 105 = .ok (.iconst 0, 1) := by decide +kernel
theorem d_M_test_106 : decode prog_13_method_40_code 106 = .ok (.istore_n 1, 1) := by decide +kernel
theorem d_M_test_107 : decode prog_13_method_40_code 107 = .ok (.goto (-105), 3) := by decide +kernel
theorem d_M_test_110 : decode prog_13_method_40_code 110 = .ok (.aload_n 0, 1) := by decide +kernel
theorem d_M_test_111 : decode prog_13_method_40_code 111 = .ok (.getfield 158, 3) := by decide +kernel
theorem d_M_test_114 : decode prog_13_method_40_code 114 = .ok (.ifCond .ne 17, 3) := by decide +kernel
theorem d_M_test_117 : decode prog_13_method_40_code 117 = .ok (.aload_n 0, 1) := by decide +kernel
theorem d_M_test_118 : decode prog_13_method_40_code 118 = .ok (.getfield 232, 3) := by decide +kernel
theorem d_M_test_121 : decode prog_13_method_40_code 121 = .ok (.ifCond .le 10, 3) := by decide +kernel
theorem d_M_test_124 : decode prog_13_method_40_code 124 = .ok (.aload_n 0, 1) := by decide +kernel
theorem d_M_test_125 : decode prog_13_method_40_code 125 = .ok (.invokevirtual 290, 3) := by decide +kernel
theorem d_M_test_128 : decode prog_13_method_40_code 128 = .ok (.goto (-18), 3) := by decide +kernel
theorem d_M_test_131 : decode prog_13_method_40_code 131 = .ok (.return_, 1) := by decide +kernel
theorem d_M_ruleTold_0 : decode prog_13_method_22_code 0 = .ok (.aload_n 0, 1) := by decide +kernel
theorem d_M_ruleTold_1 : decode prog_13_method_22_code 1 = .ok (.iconst 2, 1) := by decide +kernel
theorem d_M_ruleTold_2 : decode prog_13_method_22_code 2 = .ok (.bipush 6, 2) := by decide +kernel
theorem d_M_ruleTold_4 : decode prog_13_method_22_code 4 = .ok (.iload_n 1, 1) := by decide +kernel
theorem d_M_ruleTold_5 : decode prog_13_method_22_code 5 = .ok (.invokevirtual 217, 3) := by decide +kernel
theorem d_M_ruleTold_8 : decode prog_13_method_22_code 8 = .ok (.ifCond .eq 4, 3) := by decide +kernel
theorem d_M_ruleTold_11 : decode prog_13_method_22_code 11 = .ok (.return_, 1) := by decide +kernel
theorem d_M_ruleTold_12 : decode prog_13_method_22_code 12 = .ok (.aload_n 0, 1) := by decide +kernel
theorem d_M_ruleTold_13 : decode prog_13_method_22_code 13 = .ok (.getfield 102, 3) := by decide +kernel
theorem d_M_ruleTold_16 : decode prog_13_method_22_code 16 = .ok (.iconst 2, 1) := by decide +kernel
theorem d_M_ruleTold_17 : decode prog_13_method_22_code 17 = .ok (.iaload, 1) := by decide +kernel
theorem d_M_ruleTold_18 : decode prog_13_method_22_code 18 = .ok (.istore_n 2, 1) := by decide +kernel
theorem d_M_ruleTold_19 : decode prog_13_method_22_code 19 = .ok (.aload_n 0, 1) := by decide +kernel
theorem d_M_ruleTold_20 : decode prog_13_method_22_code 20 = .ok (.aload_n 0, 1) := by decide +kernel
theorem d_M_ruleTold_21 : decode prog_13_method_22_code 21 = .ok (.getfield 51, 3) := by decide +kernel
theorem d_M_ruleTold_24 : decode prog_13_method_22_code 24 = .ok (.invokevirtual 224, 3) := by decide +kernel
theorem d_M_ruleTold_27 : decode prog_13_method_22_code 27 = .ok (.aload_n 0, 1) := by decide +kernel
theorem d_M_ruleTold_28 : decode prog_13_method_22_code 28 = .ok (.getfield 124, 3) := by decide +kernel
theorem d_M_ruleTold_31 : decode prog_13_method_22_code 31 = .ok (.iload_n 2, 1) := by decide +kernel
theorem d_M_ruleTold_32 : decode prog_13_method_22_code 32 = .ok (.aload_n 0, 1) := by decide +kernel
theorem d_M_ruleTold_33 : decode prog_13_method_22_code 33 = .ok (.getfield 241, 3) := by decide +kernel
theorem d_M_ruleTold_36 : decode prog_13_method_22_code 36 = .ok (.iastore, 1) := by decide +kernel
theorem d_M_ruleTold_37 : decode prog_13_method_22_code 37 = .ok (.aload_n 0, 1) := by decide +kernel
theorem d_M_ruleTold_38 : decode prog_13_method_22_code 38 = .ok (.invokevirtual 244, 3) := by decide +kernel
theorem d_M_ruleTold_41 : decode prog_13_method_22_code 41 = .ok (.aload_n 0, 1) := by decide +kernel
theorem d_M_ruleTold_42 : decode prog_13_method_22_code 42 = .ok (.getfield 158, 3) := by decide +kernel
theorem d_M_ruleTold_45 : decode prog_13_method_22_code 45 = .ok (.ifCond .ne 7, 3) := by decide +kernel
theorem d_M_ruleTold_48 : decode prog_13_method_22_code 48 = .ok (.aload_n 0, 1) := by decide +kernel
theorem d_M_ruleTold_49 : decode prog_13_method_22_code 49 = .ok (.invokevirtual 247, 3) := by decide +kernel
theorem d_M_ruleTold_52 : decode prog_13_method_22_code 52 = .ok (.aload_n 0, 1) := by decide +kernel
theorem d_M_ruleTold_53 : decode prog_13_method_22_code 53 = .ok (.getfield 127, 3) := by decide +kernel
theorem d_M_ruleTold_56 : decode prog_13_method_22_code 56 = .ok (.iload_n 2, 1) := by decide +kernel
theorem d_M_ruleTold_57 : decode prog_13_method_22_code 57 = .ok (.aload_n 0, 1) := by decide +kernel
theorem d_M_ruleTold_58 : decode prog_13_method_22_code 58 = .ok (.getfield 241, 3) := by decide +kernel
theorem d_M_ruleTold_61 : decode prog_13_method_22_code 61 = .ok (.iastore, 1) := by decide +kernel
theorem d_M_ruleTold_62 : decode prog_13_method_22_code 62 = .ok (.aload_n 0, 1) := by decide +kernel
theorem d_M_ruleTold_63 : decode prog_13_method_22_code 63 = .ok (.getfield 102, 3) := by decide +kernel
theorem d_M_ruleTold_66 : decode prog_13_method_22_code 66 = .ok (.iconst 2, 1) := by decide +kernel
theorem d_M_ruleTold_67 : decode prog_13_method_22_code 67 = .ok (.dup2, 1) := by decide +kernel
theorem d_M_ruleTold_68 : decode prog_13_method_22_code 68 = .ok (.iaload, 1) := by decide +kernel
theorem d_M_ruleTold_69 : decode prog_13_method_22_code 69 = .ok (.iconst 1, 1) := by decide +kernel
theorem d_M_ruleTold_70 : decode prog_13_method_22_code 70 = .ok (.iadd, 1) := by decide +kernel
theorem d_M_ruleTold_71 : decode prog_13_method_22_code 71 = .ok (.iastore, 1) := by decide +kernel
theorem d_M_ruleTold_72 : decode prog_13_method_22_code 72 = .ok (.return_, 1) := by decide +kernel
theorem d_M_isOwnHere_0 : decode prog_13_method_15_code 0 = .ok (.aload_n 0, 1) := by decide +kernel
theorem d_M_isOwnHere_1 : decode prog_13_method_15_code 1 = .ok (.aload_n 0, 1) := by decide +kernel
theorem d_M_isOwnHere_2 : decode prog_13_method_15_code 2 = .ok (.getfield 20, 3) := by decide +kernel
theorem d_M_isOwnHere_5 : decode prog_13_method_15_code 5 = .ok (.invokevirtual 181, 3) := by decide +kernel
theorem d_M_isOwnHere_8 : decode prog_13_method_15_code 8 = .ok (.ifCond .ne 58, 3) := by decide +kernel
theorem d_M_isOwnHere_11 : decode prog_13_method_15_code 11 = .ok (.aload_n 0, 1) := by decide +kernel
theorem d_M_isOwnHere_12 : decode prog_13_method_15_code 12 = .ok (.aload_n 0, 1) := by decide +kernel
theorem d_M_isOwnHere_13 : decode prog_13_method_15_code 13 = .ok (.getfield 24, 3) := by decide +kernel
theorem d_M_isOwnHere_16 : decode prog_13_method_15_code 16 = .ok (.invokevirtual 181, 3) := by decide +kernel
theorem d_M_isOwnHere_19 : decode prog_13_method_15_code 19 = .ok (.ifCond .ne 47, 3) := by decide +kernel
theorem d_M_isOwnHere_22 : decode prog_13_method_15_code 22 = .ok (.aload_n 0, 1) := by decide +kernel
theorem d_M_isOwnHere_23 : decode prog_13_method_15_code 23 = .ok (.aload_n 0, 1) := by decide +kernel
theorem d_M_isOwnHere_24 : decode prog_13_method_15_code 24 = .ok (.getfield 27, 3) := by decide +kernel
theorem d_M_isOwnHere_27 : decode prog_13_method_15_code 27 = .ok (.invokevirtual 181, 3) := by decide +kernel
theorem d_M_isOwnHere_30 : decode prog_13_method_15_code 30 = .ok (.ifCond .ne 36, 3) := by decide +kernel
theorem d_M_isOwnHere_33 : decode prog_13_method_15_code 33 = .ok (.aload_n 0, 1) := by decide +kernel
theorem d_M_isOwnHere_34 : decode prog_13_method_15_code 34 = .ok (.aload_n 0, 1) := by decide +kernel
theorem d_M_isOwnHere_35 : decode prog_13_method_15_code 35 = .ok (.getfield 30, 3) := by decide +kernel
theorem d_M_isOwnHere_38 : decode prog_13_method_15_code 38 = .ok (.invokevirtual 181, 3) := by decide +kernel
theorem d_M_isOwnHere_41 : decode prog_13_method_15_code 41 = .ok (.ifCond .ne 25, 3) := by decide +kernel
theorem d_M_isOwnHere_44 : decode prog_13_method_15_code 44 = .ok (.aload_n 0, 1) := by decide +kernel
theorem d_M_isOwnHere_45 : decode prog_13_method_15_code 45 = .ok (.aload_n 0, 1) := by decide +kernel
theorem d_M_isOwnHere_46 : decode prog_13_method_15_code 46 = .ok (.getfield 33, 3) := by decide +kernel
theorem d_M_isOwnHere_49 : decode prog_13_method_15_code 49 = .ok (.invokevirtual 181, 3) := by decide +kernel
theorem d_M_isOwnHere_52 : decode prog_13_method_15_code 52 = .ok (.ifCond .ne 14, 3) := by decide +kernel
theorem d_M_isOwnHere_55 : decode prog_13_method_15_code 55 = .ok (.aload_n 0, 1) := by decide +kernel
theorem d_M_isOwnHere_56 : decode prog_13_method_15_code 56 = .ok (.aload_n 0, 1) := by decide +kernel
theorem d_M_isOwnHere_57 : decode prog_13_method_15_code 57 = .ok (.getfield 36, 3) := by decide +kernel
theorem d_M_isOwnHere_60 : decode prog_13_method_15_code 60 = .ok (.invokevirtual 181, 3) := by decide +kernel
theorem d_M_isOwnHere_63 : decode prog_13_method_15_code 63 = .ok (.ifCond .eq 7, 3) := by decide +kernel
theorem d_M_isOwnHere_66 : decode prog_13_method_15_code 66 = .ok (.iconst 1, 1) := by decide +kernel
theorem d_M_isOwnHere_67 : decode prog_13_method_15_code 67 = .ok (.goto 4, 3) := by decide +kernel
theorem d_M_isOwnHere_70 : decode prog_13_method_15_code 70 = .ok (.iconst 0, 1) := by decide +kernel
theorem d_M_isOwnHere_71 : decode prog_13_method_15_code 71 = .ok (.istore_n 1, 1) := by decide +kernel
theorem d_M_isOwnHere_72 : decode prog_13_method_15_code 72 = .ok (.iload_n 1, 1) := by decide +kernel
theorem d_M_isOwnHere_73 : decode prog_13_method_15_code 73 = .ok (.ifCond .ne 69, 3) := by decide +kernel
theorem d_M_isOwnHere_76 : decode prog_13_method_15_code 76 = .ok (.aload_n 0, 1) := by decide +kernel
theorem d_M_isOwnHere_77 : decode prog_13_method_15_code 77 = .ok (.aload_n 0, 1) := by decide +kernel
theorem d_M_isOwnHere_78 : decode prog_13_method_15_code 78 = .ok (.getfield 39, 3) := by decide +kernel
theorem d_M_isOwnHere_81 : decode prog_13_method_15_code 81 = .ok (.invokevirtual 181, 3) := by decide +kernel
theorem d_M_isOwnHere_84 : decode prog_13_method_15_code 84 = .ok (.ifCond .ne 58, 3) := by decide +kernel
theorem d_M_isOwnHere_87 : decode prog_13_method_15_code 87 = .ok (.aload_n 0, 1) := by decide +kernel
theorem d_M_isOwnHere_88 : decode prog_13_method_15_code 88 = .ok (.aload_n 0, 1) := by decide +kernel
theorem d_M_isOwnHere_89 : decode prog_13_method_15_code 89 = .ok (.getfield 42, 3) := by decide +kernel
theorem d_M_isOwnHere_92 : decode prog_13_method_15_code 92 = .ok (.invokevirtual 181, 3) := by decide +kernel
theorem d_M_isOwnHere_95 : decode prog_13_method_15_code 95 = .ok (.ifCond .ne 47, 3) := by decide +kernel
theorem d_M_isOwnHere_98 : decode prog_13_method_15_code 98 = .ok (.aload_n 0, 1) := by decide +kernel
theorem d_M_isOwnHere_99 : decode prog_13_method_15_code 99 = .ok (.aload_n 0, 1) := by decide +kernel
theorem d_M_isOwnHere_100 : decode prog_13_method_15_code 100 = .ok (.getfield 45, 3) := by decide +kernel
theorem d_M_isOwnHere_103 : decode prog_13_method_15_code 103 = .ok (.invokevirtual 181, 3) := by decide +kernel
theorem d_M_isOwnHere_106 : decode prog_13_method_15_code 106 = .ok (.ifCond .ne 36, 3) := by decide +kernel
theorem d_M_isOwnHere_109 : decode prog_13_method_15_code 109 = .ok (.aload_n 0, 1) := by decide +kernel
theorem d_M_isOwnHere_110 : decode prog_13_method_15_code 110 = .ok (.aload_n 0, 1) := by decide +kernel
theorem d_M_isOwnHere_111 : decode prog_13_method_15_code 111 = .ok (.getfield 48, 3) := by decide +kernel
theorem d_M_isOwnHere_114 : decode prog_13_method_15_code 114 = .ok (.invokevirtual 181, 3) := by decide +kernel
theorem d_M_isOwnHere_117 : decode prog_13_method_15_code 117 = .ok (.ifCond .ne 25, 3) := by decide +kernel
theorem d_M_isOwnHere_120 : decode prog_13_method_15_code 120 = .ok (.aload_n 0, 1) := by decide +kernel
theorem d_M_isOwnHere_121 : decode prog_13_method_15_code 121 = .ok (.aload_n 0, 1) := by decide +kernel
theorem d_M_isOwnHere_122 : decode prog_13_method_15_code 122 = .ok (.getfield 51, 3) := by decide +kernel
theorem d_M_isOwnHere_125 : decode prog_13_method_15_code 125 = .ok (.invokevirtual 181, 3) := by decide +kernel
theorem d_M_isOwnHere_128 : decode prog_13_method_15_code 128 = .ok (.ifCond .ne 14, 3) := by decide +kernel
theorem d_M_isOwnHere_131 : decode prog_13_method_15_code 131 = .ok (.aload_n 0, 1) := by decide +kernel
theorem d_M_isOwnHere_132 : decode prog_13_method_15_code 132 = .ok (.aload_n 0, 1) := by decide +kernel
theorem d_M_isOwnHere_133 : decode prog_13_method_15_code 133 = .ok (.getfield 54, 3) := by decide +kernel
theorem d_M_isOwnHere_136 : decode prog_13_method_15_code 136 = .ok (.invokevirtual 181, 3) := by decide +kernel
theorem d_M_isOwnHere_139 : decode prog_13_method_15_code 139 = .ok (.ifCond .eq 7, 3) := by decide +kernel
theorem d_M_isOwnHere_142 : decode prog_13_method_15_code 142 = .ok (.iconst 1, 1) := by decide +kernel
theorem d_M_isOwnHere_143 : decode prog_13_method_15_code 143 = .ok (.goto 4, 3) := by decide +kernel
theorem d_M_isOwnHere_146 : decode prog_13_method_15_code 146 = .ok (.iconst 0, 1) := by decide +kernel
theorem d_M_isOwnHere_147 : decode prog_13_method_15_code 147 = .ok (.istore_n 1, 1) := by decide +kernel
theorem d_M_isOwnHere_148 : decode prog_13_method_15_code 148 = .ok (.iload_n 1, 1) := by decide +kernel
theorem d_M_isOwnHere_149 : decode prog_13_method_15_code 149 = .ok (.ifCond .ne 69, 3) := by decide +kernel
theorem d_M_isOwnHere_152 : decode prog_13_method_15_code 152 = .ok (.aload_n 0, 1) := by decide +kernel
theorem d_M_isOwnHere_153 : decode prog_13_method_15_code 153 = .ok (.aload_n 0, 1) := by decide +kernel
theorem d_M_isOwnHere_154 : decode prog_13_method_15_code 154 = .ok (.getfield 57, 3) := by decide +kernel
theorem d_M_isOwnHere_157 : decode prog_13_method_15_code 157 = .ok (.invokevirtual 181, 3) := by decide +kernel
theorem d_M_isOwnHere_160 : decode prog_13_method_15_code 160 = .ok (.ifCond .ne 58, 3) := by decide +kernel
theorem d_M_isOwnHere_163 : decode prog_13_method_15_code 163 = .ok (.aload_n 0, 1) := by decide +kernel
theorem d_M_isOwnHere_164 : decode prog_13_method_15_code 164 = .ok (.aload_n 0, 1) := by decide +kernel
theorem d_M_isOwnHere_165 : decode prog_13_method_15_code 165 = .ok (.getfield 60, 3) := by decide +kernel
theorem d_M_isOwnHere_168 : decode prog_13_method_15_code 168 = .ok (.invokevirtual 181, 3) := by decide +kernel
theorem d_M_isOwnHere_171 : decode prog_13_method_15_code 171 = .ok (.ifCond .ne 47, 3) := by decide +kernel
theorem d_M_isOwnHere_174 : decode prog_13_method_15_code 174 = .ok (.aload_n 0, 1) := by decide +kernel
theorem d_M_isOwnHere_175 : decode prog_13_method_15_code 175 = .ok (.aload_n 0, 1) := by decide +kernel
theorem d_M_isOwnHere_176 : decode prog_13_method_15_code 176 = .ok (.getfield 63, 3) := by decide +kernel
theorem d_M_isOwnHere_179 : decode prog_13_method_15_code 179 = .ok (.invokevirtual 181, 3) := by decide +kernel
theorem d_M_isOwnHere_182 : decode prog_13_method_15_code 182 = .ok (.ifCond .ne 36, 3) := by decide +kernel
theorem d_M_isOwnHere_185 : decode prog_13_method_15_code 185 = .ok (.aload_n 0, 1) := by decide +kernel
theorem d_M_isOwnHere_186 : decode prog_13_method_15_code 186 = .ok (.aload_n 0, 1) := by decide +kernel
theorem d_M_isOwnHere_187 : decode prog_13_method_15_code 187 = .ok (.getfield 66, 3) := by decide +kernel
theorem d_M_isOwnHere_190 : decode prog_13_method_15_code 190 = .ok (.invokevirtual 181, 3) := by decide +kernel
theorem d_M_isOwnHere_193 : decode prog_13_method_15_code 193 = .ok (.ifCond .ne 25, 3) := by decide +kernel
theorem d_M_isOwnHere_196 : decode prog_13_method_15_code 196 = .ok (.aload_n 0, 1) := by decide +kernel
theorem d_M_isOwnHere_197 : decode prog_13_method_15_code 197 = .ok (.aload_n 0, 1) := by decide +kernel
theorem d_M_isOwnHere_198 : decode prog_13_method_15_code 198 = .ok (.getfield 69, 3) := by decide +kernel
theorem d_M_isOwnHere_201 : decode prog_13_method_15_code 201 = .ok (.invokevirtual 181, 3) := by decide +kernel
theorem d_M_isOwnHere_204 : decode prog_13_method_15_code 204 = .ok (.ifCond .ne 14, 3) := by decide +kernel
theorem d_M_isOwnHere_207 : decode prog_13_method_15_code 207 = .ok (.aload_n 0, 1) := by decide +kernel
theorem d_M_isOwnHere_208 : decode prog_13_method_15_code 208 = .ok (.aload_n 0, 1) := by decide +kernel
theorem d_M_isOwnHere_209 : decode prog_13_method_15_code 209 = .ok (.getfield 72, 3) := by decide +kernel
theorem d_M_isOwnHere_212 : decode prog_13_method_15_code 212 = .ok (.invokevirtual 181, 3) := by decide +kernel
theorem d_M_isOwnHere_215 : decode prog_13_method_15_code 215 = .ok (.ifCond .eq 7, 3) := by decide +kernel
theorem d_M_isOwnHere_218 : decode prog_13_method_15_code 218 = .ok (.iconst 1, 1) := by decide +kernel
theorem d_M_isOwnHere_219 : decode prog_13_method_15_code 219 = .ok (.goto 4, 3) := by decide +kernel
theorem d_M_isOwnHere_222 : decode prog_13_method_15_code 222 = .ok (.iconst 0, 1) := by decide +kernel
theorem d_M_isOwnHere_223 : decode prog_13_method_15_code 223 = .ok (.istore_n 1, 1) := by decide +kernel
theorem d_M_isOwnHere_224 : decode prog_13_method_15_code 224 = .ok (.iload_n 1, 1) := by decide +kernel
theorem d_M_isOwnHere_225 : decode prog_13_method_15_code 225 = .ok (.ifCond .ne 69, 3) := by decide +kernel
theorem d_M_isOwnHere_228 : decode prog_13_method_15_code 228 = .ok (.aload_n 0, 1) := by decide +kernel
theorem d_M_isOwnHere_229 : decode prog_13_method_15_code 229 = .ok (.aload_n 0, 1) := by decide +kernel
theorem d_M_isOwnHere_230 : decode prog_13_method_15_code 230 = .ok (.getfield 75, 3) := by decide +kernel
theorem d_M_isOwnHere_233 : decode prog_13_method_15_code 233 = .ok (.invokevirtual 181, 3) := by decide +kernel
theorem d_M_isOwnHere_236 : decode prog_13_method_15_code 236 = .ok (.ifCond .ne 58, 3) := by decide +kernel
theorem d_M_isOwnHere_239 : decode prog_13_method_15_code 239 = .ok (.aload_n 0, 1) := by decide +kernel
theorem d_M_isOwnHere_240 : decode prog_13_method_15_code 240 = .ok (.aload_n 0, 1) := by decide +kernel
theorem d_M_isOwnHere_241 : decode prog_13_method_15_code 241 = .ok (.getfield 78, 3) := by decide +kernel
theorem d_M_isOwnHere_244 : decode prog_13_method_15_code 244 = .ok (.invokevirtual 181, 3) := by decide +kernel
theorem d_M_isOwnHere_247 : decode prog_13_method_15_code 247 = .ok (.ifCond .ne 47, 3) := by decide +kernel
theorem d_M_isOwnHere_250 : decode prog_13_method_15_code 250 = .ok (.aload_n 0, 1) := by decide +kernel
theorem d_M_isOwnHere_251 : decode prog_13_method_15_code 251 = .ok (.aload_n 0, 1) := by decide +kernel
theorem d_M_isOwnHere_252 : decode prog_13_method_15_code 252 = .ok (.getfield 81, 3) := by decide +kernel
theorem d_M_isOwnHere_255 : decode prog_13_method_15_code 255 = .ok (.invokevirtual 181, 3) := by decide +kernel
theorem d_M_isOwnHere_258 : decode prog_13_method_15_code 258 = .ok (.ifCond .ne 36, 3) := by decide +kernel
theorem d_M_isOwnHere_261 : decode prog_13_method_15_code 261 = .ok (.aload_n 0, 1) := by decide +kernel
theorem d_M_isOwnHere_262 : decode prog_13_method_15_code 262 = .ok (.aload_n 0, 1) := by decide +kernel
theorem d_M_isOwnHere_263 : decode prog_13_method_15_code 263 = .ok (.getfield 84, 3) := by decide +kernel
theorem d_M_isOwnHere_266 : decode prog_13_method_15_code 266 = .ok (.invokevirtual 181, 3) := by decide +kernel
theorem d_M_isOwnHere_269 : decode prog_13_method_15_code 269 = .ok (.ifCond .ne 25, 3) := by decide +kernel
theorem d_M_isOwnHere_272 : decode prog_13_method_15_code 272 = .ok (.aload_n 0, 1) := by decide +kernel
theorem d_M_isOwnHere_273 : decode prog_13_method_15_code 273 = .ok (.aload_n 0, 1) := by decide +kernel
theorem d_M_isOwnHere_274 : decode prog_13_method_15_code 274 = .ok (.getfield 87, 3) := by decide +kernel
theorem d_M_isOwnHere_277 : decode prog_13_method_15_code 277 = .ok (.invokevirtual 181, 3) := by decide +kernel
theorem d_M_isOwnHere_280 : decode prog_13_method_15_code 280 = .ok (.ifCond .ne 14, 3) := by decide +kernel
theorem d_M_isOwnHere_283 : decode prog_13_method_15_code 283 = .ok (.aload_n 0, 1) := by decide +kernel
theorem d_M_isOwnHere_284 : decode prog_13_method_15_code 284 = .ok (.aload_n 0, 1) := by decide +kernel
theorem d_M_isOwnHere_285 : decode prog_13_method_15_code 285 = .ok (.getfield 90, 3) := by decide +kernel
theorem d_M_isOwnHere_288 : decode prog_13_method_15_code 288 = .ok (.invokevirtual 181, 3) := by decide +kernel
theorem d_M_isOwnHere_291 : decode prog_13_method_15_code 291 = .ok (.ifCond .eq 7, 3) := by decide +kernel
theorem d_M_isOwnHere_294 : decode prog_13_method_15_code 294 = .ok (.iconst 1, 1) := by decide +kernel
theorem d_M_isOwnHere_295 : decode prog_13_method_15_code 295 = .ok (.goto 4, 3) := by decide +kernel
theorem d_M_isOwnHere_298 : decode prog_13_method_15_code 298 = .ok (.iconst 0, 1) := by decide +kernel
theorem d_M_isOwnHere_299 : decode prog_13_method_15_code 299 = .ok (.istore_n 1, 1) := by decide +kernel
theorem d_M_isOwnHere_300 : decode prog_13_method_15_code 300 = .ok (.iload_n 1, 1) := by decide +kernel
theorem d_M_isOwnHere_301 : decode prog_13_method_15_code 301 = .ok (.ifCond .ne 36, 3) := by decide +kernel
theorem d_M_isOwnHere_304 : decode prog_13_method_15_code 304 = .ok (.aload_n 0, 1) := by decide +kernel
theorem d_M_isOwnHere_305 : decode prog_13_method_15_code 305 = .ok (.aload_n 0, 1) := by decide +kernel
theorem d_M_isOwnHere_306 : decode prog_13_method_15_code 306 = .ok (.getfield 93, 3) := by decide +kernel
theorem d_M_isOwnHere_309 : decode prog_13_method_15_code 309 = .ok (.invokevirtual 181, 3) := by decide +kernel
theorem d_M_isOwnHere_312 : decode prog_13_method_15_code 312 = .ok (.ifCond .ne 25, 3) := by decide +kernel
theorem d_M_isOwnHere_315 : decode prog_13_method_15_code 315 = .ok (.aload_n 0, 1) := by decide +kernel
theorem d_M_isOwnHere_316 : decode prog_13_method_15_code 316 = .ok (.aload_n 0, 1) := by decide +kernel
theorem d_M_isOwnHere_317 : decode prog_13_method_15_code 317 = .ok (.getfield 96, 3) := by decide +kernel
theorem d_M_isOwnHere_320 : decode prog_13_method_15_code 320 = .ok (.invokevirtual 181, 3) := by decide +kernel
theorem d_M_isOwnHere_323 : decode prog_13_method_15_code 323 = .ok (.ifCond .ne 14, 3) := by decide +kernel
theorem d_M_isOwnHere_326 : decode prog_13_method_15_code 326 = .ok (.aload_n 0, 1) := by decide +kernel
theorem d_M_isOwnHere_327 : decode prog_13_method_15_code 327 = .ok (.aload_n 0, 1) := by decide +kernel
theorem d_M_isOwnHere_328 : decode prog_13_method_15_code 328 = .ok (.getfield 99, 3) := by decide +kernel
theorem d_M_isOwnHere_331 : decode prog_13_method_15_code 331 = .ok (.invokevirtual 181, 3) := by decide +kernel
theorem d_M_isOwnHere_334 : decode prog_13_method_15_code 334 = .ok (.ifCond .eq 7, 3) := by decide +kernel
theorem d_M_isOwnHere_337 : decode prog_13_method_15_code 337 = .ok (.iconst 1, 1) := by decide +kernel
theorem d_M_isOwnHere_338 : decode prog_13_method_15_code 338 = .ok (.goto 4, 3) := by decide +kernel
theorem d_M_isOwnHere_341 : decode prog_13_method_15_code 341 = .ok (.iconst 0, 1) := by decide +kernel
theorem d_M_isOwnHere_342 : decode prog_13_method_15_code 342 = .ok (.istore_n 1, 1) := by decide +kernel
theorem d_M_isOwnHere_343 : decode prog_13_method_15_code 343 = .ok (.iload_n 1, 1) := by decide +kernel
theorem d_M_isOwnHere_344 : decode prog_13_method_15_code 344 = .ok (.ireturn, 1) := by decide +kernel
theorem d_M_name_0 : decode prog_13_method_16_code 0 = .ok (.aload_n 0, 1) := by decide +kernel
theorem d_M_name_1 : decode prog_13_method_16_code 1 = .ok (.getfield 158, 3) := by decide +kernel
theorem d_M_name_4 : decode prog_13_method_16_code 4 = .ok (.ifCond .eq 5, 3) := by decide +kernel
theorem d_M_name_7 : decode prog_13_method_16_code 7 = .ok (.lconst 0, 1) := by decide +kernel
theorem d_M_name_8 : decode prog_13_method_16_code 8 = .ok (.lreturn, 1) := by decide +kernel
theorem d_M_name_9 : decode prog_13_method_16_code 9 = .ok (.aload_n 0, 1) := by decide +kernel
theorem d_M_name_10 : decode prog_13_method_16_code 10 = .ok (.invokevirtual 170, 3) := by decide +kernel
theorem d_M_name_13 : decode prog_13_method_16_code 13 = .ok (.invokestatic 174, 3) := by decide +kernel
theorem d_M_name_16 : decode prog_13_method_16_code 16 = .ok (.ifCond .eq 21, 3) := by decide +kernel
theorem d_M_name_19 : decode prog_13_method_16_code 19 = .ok (.aload_n 0, 1) := by decide +kernel
theorem d_M_name_20 : decode prog_13_method_16_code 20 = .ok (.getfield 164, 3) := by decide +kernel
theorem d_M_name_23 : decode prog_13_method_16_code 23 = .ok (.aload_n 0, 1) := by decide +kernel
theorem d_M_name_24 : decode prog_13_method_16_code 24 = .ok (.getfield 178, 3) := by decide +kernel
theorem d_M_name_27 : decode prog_13_method_16_code 27 = .ok (.if_icmp .eq 10, 3) := by decide +kernel
theorem d_M_name_30 : decode prog_13_method_16_code 30 = .ok (.aload_n 0, 1) := by decide +kernel
theorem d_M_name_31 : decode prog_13_method_16_code 31 = .ok (.invokevirtual 202, 3) := by decide +kernel
theorem d_M_name_34 : decode prog_13_method_16_code 34 = .ok (.ifCond .eq 14, 3) := by decide +kernel
theorem d_M_name_37 : decode prog_13_method_16_code 37 = .ok (.aload_n 0, 1) := by decide +kernel
theorem d_M_name_38 : decode prog_13_method_16_code 38 = .ok (.iconst 1, 1) := by decide +kernel
theorem d_M_name_39 : decode prog_13_method_16_code 39 = .ok (.aload_n 0, 1) := by decide +kernel
theorem d_M_name_40 : decode prog_13_method_16_code 40 = .ok (.getfield 164, 3) := by decide +kernel
theorem d_M_name_43 : decode prog_13_method_16_code 43 = .ok (.invokevirtual 188, 3) := by decide +kernel
theorem d_M_name_46 : decode prog_13_method_16_code 46 = .ok (.lconst 0, 1) := by decide +kernel
theorem d_M_name_47 : decode prog_13_method_16_code 47 = .ok (.lreturn, 1) := by decide +kernel
theorem d_M_name_48 : decode prog_13_method_16_code 48 = .ok (.aload_n 0, 1) := by decide +kernel
theorem d_M_name_49 : decode prog_13_method_16_code 49 = .ok (.aload_n 0, 1) := by decide +kernel
theorem d_M_name_50 : decode prog_13_method_16_code 50 = .ok (.getfield 164, 3) := by decide +kernel
theorem d_M_name_53 : decode prog_13_method_16_code 53 = .ok (.putfield 206, 3) := by decide +kernel
theorem d_M_name_56 : decode prog_13_method_16_code 56 = .ok (.lconst 0, 1) := by decide +kernel
theorem d_M_name_57 : decode prog_13_method_16_code 57 = .ok (.lstore_n 1, 1) := by decide +kernel
theorem d_M_name_58 : decode prog_13_method_16_code 58 = .ok (.aload_n 0, 1) := by decide +kernel
theorem d_M_name_59 : decode prog_13_method_16_code 59 = .ok (.getfield 164, 3) := by decide +kernel
theorem d_M_name_62 : decode prog_13_method_16_code 62 = .ok (.aload_n 0, 1) := by decide +kernel
theorem d_M_name_63 : decode prog_13_method_16_code 63 = .ok (.getfield 167, 3) := by decide +kernel
theorem d_M_name_66 : decode prog_13_method_16_code 66 = .ok (.if_icmp .ge 79, 3) := by decide +kernel
theorem d_M_name_69 : decode prog_13_method_16_code 69 = .ok (.aload_n 0, 1) := by decide +kernel
theorem d_M_name_70 : decode prog_13_method_16_code 70 = .ok (.getfield 7, 3) := by decide +kernel
theorem d_M_name_73 : decode prog_13_method_16_code 73 = .ok (.aload_n 0, 1) := by decide +kernel
theorem d_M_name_74 : decode prog_13_method_16_code 74 = .ok (.getfield 164, 3) := by decide +kernel
theorem d_M_name_77 : decode prog_13_method_16_code 77 = .ok (.iaload, 1) := by decide +kernel
theorem d_M_name_78 : decode prog_13_method_16_code 78 = .ok (.invokestatic 174, 3) := by decide +kernel
theorem d_M_name_81 : decode prog_13_method_16_code 81 = .ok (.ifCond .eq 64, 3) := by decide +kernel
theorem d_M_name_84 : decode prog_13_method_16_code 84 = .ok (.aload_n 0, 1) := by decide +kernel
theorem d_M_name_85 : decode prog_13_method_16_code 85 = .ok (.getfield 164, 3) := by decide +kernel
theorem d_M_name_88 : decode prog_13_method_16_code 88 = .ok (.aload_n 0, 1) := by decide +kernel
theorem d_M_name_89 : decode prog_13_method_16_code 89 = .ok (.getfield 206, 3) := by decide +kernel
theorem d_M_name_92 : decode prog_13_method_16_code 92 = .ok (.isub, 1) := by decide +kernel
theorem d_M_name_93 : decode prog_13_method_16_code 93 = .ok (.bipush 6, 2) := by decide +kernel
theorem d_M_name_95 : decode prog_13_method_16_code 95 = .ok (.if_icmp .ne 14, 3) := by decide +kernel
theorem d_M_name_98 : decode prog_13_method_16_code 98 = .ok (.aload_n 0, 1) := by decide +kernel
theorem d_M_name_99 : decode prog_13_method_16_code 99 = .ok (.iconst 1, 1) := by decide +kernel
theorem d_M_name_100 : decode prog_13_method_16_code 100 = .ok (.aload_n 0, 1) := by decide +kernel
theorem d_M_name_101 : decode prog_13_method_16_code 101 = .ok (.getfield 164, 3) := by decide +kernel
theorem d_M_name_104 : decode prog_13_method_16_code 104 = .ok (.invokevirtual 188, 3) := by decide +kernel
theorem d_M_name_107 : decode prog_13_method_16_code 107 = .ok (.lconst 0, 1) := by decide +kernel
theorem d_M_name_108 : decode prog_13_method_16_code 108 = .ok (.lreturn, 1) := by decide +kernel
theorem d_M_name_109 : decode prog_13_method_16_code 109 = .ok (.ldc2_w 209, 3) := by decide +kernel
theorem d_M_name_112 : decode prog_13_method_16_code 112 = .ok (.lload_n 1, 1) := by decide +kernel
theorem d_M_name_113 : decode prog_13_method_16_code 113 = .ok (.lmul, 1) := by decide +kernel
theorem d_M_name_114 : decode prog_13_method_16_code 114 = .ok (.aload_n 0, 1) := by decide +kernel
theorem d_M_name_115 : decode prog_13_method_16_code 115 = .ok (.getfield 7, 3) := by decide +kernel
theorem d_M_name_118 : decode prog_13_method_16_code 118 = .ok (.aload_n 0, 1) := by decide +kernel
theorem d_M_name_119 : decode prog_13_method_16_code 119 = .ok (.getfield 164, 3) := by decide +kernel
theorem d_M_name_122 : decode prog_13_method_16_code 122 = .ok (.iaload, 1) := by decide +kernel
theorem d_M_name_123 : decode prog_13_method_16_code 123 = .ok (.i2l, 1) := by decide +kernel
theorem d_M_name_124 : decode prog_13_method_16_code 124 = .ok (.ladd, 1) := by decide +kernel
theorem d_M_name_125 : decode prog_13_method_16_code 125 = .ok (.ldc2_w 211, 3) := by decide +kernel
theorem d_M_name_128 : decode prog_13_method_16_code 128 = .ok (.lsub, 1) := by decide +kernel
theorem d_M_name_129 : decode prog_13_method_16_code 129 = .ok (.lconst 1, 1) := by decide +kernel
theorem d_M_name_130 : decode prog_13_method_16_code 130 = .ok (.ladd, 1) := by decide +kernel
theorem d_M_name_131 : decode prog_13_method_16_code 131 = .ok (.lstore_n 1, 1) := by decide +kernel
theorem d_M_name_132 : decode prog_13_method_16_code 132 = .ok (.aload_n 0, 1) := by decide +kernel
theorem d_M_name_133 : decode prog_13_method_16_code 133 = .ok (.dup, 1) := by decide +kernel
theorem d_M_name_134 : decode prog_13_method_16_code 134 = .ok (.getfield 164, 3) := by decide +kernel
theorem d_M_name_137 : decode prog_13_method_16_code 137 = .ok (.iconst 1, 1) := by decide +kernel
theorem d_M_name_138 : decode prog_13_method_16_code 138 = .ok (.iadd, 1) := by decide +kernel
theorem d_M_name_139 : decode prog_13_method_16_code 139 = .ok (.putfield 164, 3) := by decide +kernel
theorem d_M_name_142 : decode prog_13_method_16_code 142 = .ok (.goto (-84), 3) := by decide +kernel
theorem d_M_name_145 : decode prog_13_method_16_code 145 = .ok (.aload_n 0, 1) := by decide +kernel
theorem d_M_name_146 : decode prog_13_method_16_code 146 = .ok (.aload_n 0, 1) := by decide +kernel
theorem d_M_name_147 : decode prog_13_method_16_code 147 = .ok (.getfield 164, 3) := by decide +kernel
theorem d_M_name_150 : decode prog_13_method_16_code 150 = .ok (.putfield 178, 3) := by decide +kernel
theorem d_M_name_153 : decode prog_13_method_16_code 153 = .ok (.lload_n 1, 1) := by decide +kernel
theorem d_M_name_154 : decode prog_13_method_16_code 154 = .ok (.lreturn, 1) := by decide +kernel
theorem d_M_newName_0 : decode prog_13_method_18_code 0 = .ok (.aload_n 0, 1) := by decide +kernel
theorem d_M_newName_1 : decode prog_13_method_18_code 1 = .ok (.invokevirtual 213, 3) := by decide +kernel
theorem d_M_newName_4 : decode prog_13_method_18_code 4 = .ok (.lstore_n 1, 1) := by decide +kernel
theorem d_M_newName_5 : decode prog_13_method_18_code 5 = .ok (.iconst 0, 1) := by decide +kernel
theorem d_M_newName_6 : decode prog_13_method_18_code 6 = .ok (.istore_n 3, 1) := by decide +kernel
theorem d_M_newName_7 : decode prog_13_method_18_code 7 = .ok (.iload_n 3, 1) := by decide +kernel
theorem d_M_newName_8 : decode prog_13_method_18_code 8 = .ok (.bipush 16, 2) := by decide +kernel
theorem d_M_newName_10 : decode prog_13_method_18_code 10 = .ok (.if_icmp .ge 52, 3) := by decide +kernel
theorem d_M_newName_13 : decode prog_13_method_18_code 13 = .ok (.aload_n 0, 1) := by decide +kernel
theorem d_M_newName_14 : decode prog_13_method_18_code 14 = .ok (.getfield 158, 3) := by decide +kernel
theorem d_M_newName_17 : decode prog_13_method_18_code 17 = .ok (.ifCond .ne 39, 3) := by decide +kernel
theorem d_M_newName_20 : decode prog_13_method_18_code 20 = .ok (.iload_n 3, 1) := by decide +kernel
theorem d_M_newName_21 : decode prog_13_method_18_code 21 = .ok (.bipush 8, 2) := by decide +kernel
theorem d_M_newName_23 : decode prog_13_method_18_code 23 = .ok (.irem, 1) := by decide +kernel
theorem d_M_newName_24 : decode prog_13_method_18_code 24 = .ok (.aload_n 0, 1) := by decide +kernel
theorem d_M_newName_25 : decode prog_13_method_18_code 25 = .ok (.getfield 102, 3) := by decide +kernel
theorem d_M_newName_28 : decode prog_13_method_18_code 28 = .ok (.iload_n 3, 1) := by decide +kernel
theorem d_M_newName_29 : decode prog_13_method_18_code 29 = .ok (.bipush 8, 2) := by decide +kernel
theorem d_M_newName_31 : decode prog_13_method_18_code 31 = .ok (.idiv, 1) := by decide +kernel
theorem d_M_newName_32 : decode prog_13_method_18_code 32 = .ok (.iaload, 1) := by decide +kernel
theorem d_M_newName_33 : decode prog_13_method_18_code 33 = .ok (.if_icmp .ge 23, 3) := by decide +kernel
theorem d_M_newName_36 : decode prog_13_method_18_code 36 = .ok (.aload_n 0, 1) := by decide +kernel
theorem d_M_newName_37 : decode prog_13_method_18_code 37 = .ok (.getfield 105, 3) := by decide +kernel
theorem d_M_newName_40 : decode prog_13_method_18_code 40 = .ok (.iload_n 3, 1) := by decide +kernel
theorem d_M_newName_41 : decode prog_13_method_18_code 41 = .ok (.laload, 1) := by decide +kernel
theorem d_M_newName_42 : decode prog_13_method_18_code 42 = .ok (.lload_n 1, 1) := by decide +kernel
theorem d_M_newName_43 : decode prog_13_method_18_code 43 = .ok (.lcmp, 1) := by decide +kernel
theorem d_M_newName_44 : decode prog_13_method_18_code 44 = .ok (.ifCond .ne 12, 3) := by decide +kernel
theorem d_M_newName_47 : decode prog_13_method_18_code 47 = .ok (.aload_n 0, 1) := by decide +kernel
theorem d_M_newName_48 : decode prog_13_method_18_code 48 = .ok (.iconst 3, 1) := by decide +kernel
theorem d_M_newName_49 : decode prog_13_method_18_code 49 = .ok (.aload_n 0, 1) := by decide +kernel
theorem d_M_newName_50 : decode prog_13_method_18_code 50 = .ok (.getfield 206, 3) := by decide +kernel
theorem d_M_newName_53 : decode prog_13_method_18_code 53 = .ok (.invokevirtual 188, 3) := by decide +kernel
theorem d_M_newName_56 : decode prog_13_method_18_code 56 = .ok (.iinc 3 1, 3) := by decide +kernel
theorem d_M_newName_59 : decode prog_13_method_18_code 59 = .ok (.goto (-52), 3) := by decide +kernel
theorem d_M_newName_62 : decode prog_13_method_18_code 62 = .ok (.lload_n 1, 1) := by decide +kernel
theorem d_M_newName_63 : decode prog_13_method_18_code 63 = .ok (.lreturn, 1) := by decide +kernel
theorem d_M_trierTold_0 : decode prog_13_method_20_code 0 = .ok (.aload_n 0, 1) := by decide +kernel
theorem d_M_trierTold_1 : decode prog_13_method_20_code 1 = .ok (.iconst 1, 1) := by decide +kernel
theorem d_M_trierTold_2 : decode prog_13_method_20_code 2 = .ok (.bipush 8, 2) := by decide +kernel
theorem d_M_trierTold_4 : decode prog_13_method_20_code 4 = .ok (.iload_n 1, 1) := by decide +kernel
theorem d_M_trierTold_5 : decode prog_13_method_20_code 5 = .ok (.invokevirtual 217, 3) := by decide +kernel
theorem d_M_trierTold_8 : decode prog_13_method_20_code 8 = .ok (.ifCond .eq 4, 3) := by decide +kernel
theorem d_M_trierTold_11 : decode prog_13_method_20_code 11 = .ok (.return_, 1) := by decide +kernel
theorem d_M_trierTold_12 : decode prog_13_method_20_code 12 = .ok (.bipush 6, 2) := by decide +kernel
theorem d_M_trierTold_14 : decode prog_13_method_20_code 14 = .ok (.aload_n 0, 1) := by decide +kernel
theorem d_M_trierTold_15 : decode prog_13_method_20_code 15 = .ok (.getfield 102, 3) := by decide +kernel
theorem d_M_trierTold_18 : decode prog_13_method_20_code 18 = .ok (.iconst 1, 1) := by decide +kernel
theorem d_M_trierTold_19 : decode prog_13_method_20_code 19 = .ok (.iaload, 1) := by decide +kernel
theorem d_M_trierTold_20 : decode prog_13_method_20_code 20 = .ok (.imul, 1) := by decide +kernel
theorem d_M_trierTold_21 : decode prog_13_method_20_code 21 = .ok (.istore_n 2, 1) := by decide +kernel
theorem d_M_trierTold_22 : decode prog_13_method_20_code 22 = .ok (.aload_n 0, 1) := by decide +kernel
theorem d_M_trierTold_23 : decode prog_13_method_20_code 23 = .ok (.invokevirtual 221, 3) := by decide +kernel
theorem d_M_trierTold_26 : decode prog_13_method_20_code 26 = .ok (.lstore_n 3, 1) := by decide +kernel
theorem d_M_trierTold_27 : decode prog_13_method_20_code 27 = .ok (.aload_n 0, 1) := by decide +kernel
theorem d_M_trierTold_28 : decode prog_13_method_20_code 28 = .ok (.aload_n 0, 1) := by decide +kernel
theorem d_M_trierTold_29 : decode prog_13_method_20_code 29 = .ok (.getfield 30, 3) := by decide +kernel
theorem d_M_trierTold_32 : decode prog_13_method_20_code 32 = .ok (.invokevirtual 224, 3) := by decide +kernel
theorem d_M_trierTold_35 : decode prog_13_method_20_code 35 = .ok (.aload_n 0, 1) := by decide +kernel
theorem d_M_trierTold_36 : decode prog_13_method_20_code 36 = .ok (.iconst 1, 1) := by decide +kernel
theorem d_M_trierTold_37 : decode prog_13_method_20_code 37 = .ok (.bipush 99, 2) := by decide +kernel
theorem d_M_trierTold_39 : decode prog_13_method_20_code 39 = .ok (.invokevirtual 228, 3) := by decide +kernel
theorem d_M_trierTold_42 : decode prog_13_method_20_code 42 = .ok (.istore 5, 2) := by decide +kernel
theorem d_M_trierTold_44 : decode prog_13_method_20_code 44 = .ok (.aload_n 0, 1) := by decide +kernel
theorem d_M_trierTold_45 : decode prog_13_method_20_code 45 = .ok (.aload_n 0, 1) := by decide +kernel
theorem d_M_trierTold_46 : decode prog_13_method_20_code 46 = .ok (.getfield 33, 3) := by decide +kernel
theorem d_M_trierTold_49 : decode prog_13_method_20_code 49 = .ok (.invokevirtual 224, 3) := by decide +kernel
theorem d_M_trierTold_52 : decode prog_13_method_20_code 52 = .ok (.aload_n 0, 1) := by decide +kernel
theorem d_M_trierTold_53 : decode prog_13_method_20_code 53 = .ok (.iconst 0, 1) := by decide +kernel
theorem d_M_trierTold_54 : decode prog_13_method_20_code 54 = .ok (.iconst 5, 1) := by decide +kernel
theorem d_M_trierTold_55 : decode prog_13_method_20_code 55 = .ok (.invokevirtual 228, 3) := by decide +kernel
theorem d_M_trierTold_58 : decode prog_13_method_20_code 58 = .ok (.istore 6, 2) := by decide +kernel
theorem d_M_trierTold_60 : decode prog_13_method_20_code 60 = .ok (.aload_n 0, 1) := by decide +kernel
theorem d_M_trierTold_61 : decode prog_13_method_20_code 61 = .ok (.aload_n 0, 1) := by decide +kernel
theorem d_M_trierTold_62 : decode prog_13_method_20_code 62 = .ok (.getfield 36, 3) := by decide +kernel
theorem d_M_trierTold_65 : decode prog_13_method_20_code 65 = .ok (.invokevirtual 224, 3) := by decide +kernel
theorem d_M_trierTold_68 : decode prog_13_method_20_code 68 = .ok (.aload_n 0, 1) := by decide +kernel
theorem d_M_trierTold_69 : decode prog_13_method_20_code 69 = .ok (.iconst 0, 1) := by decide +kernel
theorem d_M_trierTold_70 : decode prog_13_method_20_code 70 = .ok (.bipush 20, 2) := by decide +kernel
theorem d_M_trierTold_72 : decode prog_13_method_20_code 72 = .ok (.invokevirtual 228, 3) := by decide +kernel
theorem d_M_trierTold_75 : decode prog_13_method_20_code 75 = .ok (.istore 7, 2) := by decide +kernel
theorem d_M_trierTold_77 : decode prog_13_method_20_code 77 = .ok (.aload_n 0, 1) := by decide +kernel
theorem d_M_trierTold_78 : decode prog_13_method_20_code 78 = .ok (.aload_n 0, 1) := by decide +kernel
theorem d_M_trierTold_79 : decode prog_13_method_20_code 79 = .ok (.getfield 39, 3) := by decide +kernel
theorem d_M_trierTold_82 : decode prog_13_method_20_code 82 = .ok (.invokevirtual 224, 3) := by decide +kernel
theorem d_M_trierTold_85 : decode prog_13_method_20_code 85 = .ok (.aload_n 0, 1) := by decide +kernel
theorem d_M_trierTold_86 : decode prog_13_method_20_code 86 = .ok (.iconst 0, 1) := by decide +kernel
theorem d_M_trierTold_87 : decode prog_13_method_20_code 87 = .ok (.bipush 99, 2) := by decide +kernel
theorem d_M_trierTold_89 : decode prog_13_method_20_code 89 = .ok (.invokevirtual 228, 3) := by decide +kernel
theorem d_M_trierTold_92 : decode prog_13_method_20_code 92 = .ok (.istore 8, 2) := by decide +kernel
theorem d_M_trierTold_94 : decode prog_13_method_20_code 94 = .ok (.aload_n 0, 1) := by decide +kernel
theorem d_M_trierTold_95 : decode prog_13_method_20_code 95 = .ok (.aload_n 0, 1) := by decide +kernel
theorem d_M_trierTold_96 : decode prog_13_method_20_code 96 = .ok (.getfield 42, 3) := by decide +kernel
theorem d_M_trierTold_99 : decode prog_13_method_20_code 99 = .ok (.invokevirtual 224, 3) := by decide +kernel
theorem d_M_trierTold_102 : decode prog_13_method_20_code 102 = .ok (.aload_n 0, 1) := by decide +kernel
theorem d_M_trierTold_103 : decode prog_13_method_20_code 103 = .ok (.iconst 0, 1) := by decide +kernel
theorem d_M_trierTold_104 : decode prog_13_method_20_code 104 = .ok (.bipush 99, 2) := by decide +kernel
theorem d_M_trierTold_106 : decode prog_13_method_20_code 106 = .ok (.invokevirtual 228, 3) := by decide +kernel
theorem d_M_trierTold_109 : decode prog_13_method_20_code 109 = .ok (.istore 9, 2) := by decide +kernel
theorem d_M_trierTold_111 : decode prog_13_method_20_code 111 = .ok (.aload_n 0, 1) := by decide +kernel
theorem d_M_trierTold_112 : decode prog_13_method_20_code 112 = .ok (.aload_n 0, 1) := by decide +kernel
theorem d_M_trierTold_113 : decode prog_13_method_20_code 113 = .ok (.getfield 45, 3) := by decide +kernel
theorem d_M_trierTold_116 : decode prog_13_method_20_code 116 = .ok (.invokevirtual 185, 3) := by decide +kernel
theorem d_M_trierTold_119 : decode prog_13_method_20_code 119 = .ok (.ifCond .eq 7, 3) := by decide +kernel
theorem d_M_trierTold_122 : decode prog_13_method_20_code 122 = .ok (.iconst 1, 1) := by decide +kernel
theorem d_M_trierTold_123 : decode prog_13_method_20_code 123 = .ok (.goto 4, 3) := by decide +kernel
theorem d_M_trierTold_126 : decode prog_13_method_20_code 126 = .ok (.iconst 0, 1) := by decide +kernel
theorem d_M_trierTold_127 : decode prog_13_method_20_code 127 = .ok (.istore 10, 2) := by decide +kernel
theorem d_M_trierTold_129 : decode prog_13_method_20_code 129 = .ok (.aload_n 0, 1) := by decide +kernel
theorem d_M_trierTold_130 : decode prog_13_method_20_code 130 = .ok (.getfield 158, 3) := by decide +kernel
theorem d_M_trierTold_133 : decode prog_13_method_20_code 133 = .ok (.ifCond .eq 4, 3) := by decide +kernel
theorem d_M_trierTold_136 : decode prog_13_method_20_code 136 = .ok (.return_, 1) := by decide +kernel
theorem d_M_trierTold_137 : decode prog_13_method_20_code 137 = .ok (.aload_n 0, 1) := by decide +kernel
theorem d_M_trierTold_138 : decode prog_13_method_20_code 138 = .ok (.getfield 105, 3) := by decide +kernel
theorem d_M_trierTold_141 : decode prog_13_method_20_code 141 = .ok (.bipush 8, 2) := by decide +kernel
theorem d_M_trierTold_143 : decode prog_13_method_20_code 143 = .ok (.aload_n 0, 1) := by decide +kernel
theorem d_M_trierTold_144 : decode prog_13_method_20_code 144 = .ok (.getfield 102, 3) := by decide +kernel
theorem d_M_trierTold_147 : decode prog_13_method_20_code 147 = .ok (.iconst 1, 1) := by decide +kernel
theorem d_M_trierTold_148 : decode prog_13_method_20_code 148 = .ok (.iaload, 1) := by decide +kernel
theorem d_M_trierTold_149 : decode prog_13_method_20_code 149 = .ok (.iadd, 1) := by decide +kernel
theorem d_M_trierTold_150 : decode prog_13_method_20_code 150 = .ok (.lload_n 3, 1) := by decide +kernel
theorem d_M_trierTold_151 : decode prog_13_method_20_code 151 = .ok (.lastore, 1) := by decide +kernel
theorem d_M_trierTold_152 : decode prog_13_method_20_code 152 = .ok (.aload_n 0, 1) := by decide +kernel
theorem d_M_trierTold_153 : decode prog_13_method_20_code 153 = .ok (.getfield 112, 3) := by decide +kernel
theorem d_M_trierTold_156 : decode prog_13_method_20_code 156 = .ok (.iload_n 2, 1) := by decide +kernel
theorem d_M_trierTold_157 : decode prog_13_method_20_code 157 = .ok (.iload 5, 2) := by decide +kernel
theorem d_M_trierTold_159 : decode prog_13_method_20_code 159 = .ok (.iastore, 1) := by decide +kernel
theorem d_M_trierTold_160 : decode prog_13_method_20_code 160 = .ok (.aload_n 0, 1) := by decide +kernel
theorem d_M_trierTold_161 : decode prog_13_method_20_code 161 = .ok (.getfield 112, 3) := by decide +kernel
theorem d_M_trierTold_164 : decode prog_13_method_20_code 164 = .ok (.iload_n 2, 1) := by decide +kernel
theorem d_M_trierTold_165 : decode prog_13_method_20_code 165 = .ok (.iconst 1, 1) := by decide +kernel
theorem d_M_trierTold_166 : decode prog_13_method_20_code 166 = .ok (.iadd, 1) := by decide +kernel
theorem d_M_trierTold_167 : decode prog_13_method_20_code 167 = .ok (.iload 6, 2) := by decide +kernel
theorem d_M_trierTold_169 : decode prog_13_method_20_code 169 = .ok (.iastore, 1) := by decide +kernel
theorem d_M_trierTold_170 : decode prog_13_method_20_code 170 = .ok (.aload_n 0, 1) := by decide +kernel
theorem d_M_trierTold_171 : decode prog_13_method_20_code 171 = .ok (.getfield 112, 3) := by decide +kernel
theorem d_M_trierTold_174 : decode prog_13_method_20_code 174 = .ok (.iload_n 2, 1) := by decide +kernel
theorem d_M_trierTold_175 : decode prog_13_method_20_code 175 = .ok (.iconst 2, 1) := by decide +kernel
theorem d_M_trierTold_176 : decode prog_13_method_20_code 176 = .ok (.iadd, 1) := by decide +kernel
theorem d_M_trierTold_177 : decode prog_13_method_20_code 177 = .ok (.iload 7, 2) := by decide +kernel
theorem d_M_trierTold_179 : decode prog_13_method_20_code 179 = .ok (.iastore, 1) := by decide +kernel
theorem d_M_trierTold_180 : decode prog_13_method_20_code 180 = .ok (.aload_n 0, 1) := by decide +kernel
theorem d_M_trierTold_181 : decode prog_13_method_20_code 181 = .ok (.getfield 112, 3) := by decide +kernel
theorem d_M_trierTold_184 : decode prog_13_method_20_code 184 = .ok (.iload_n 2, 1) := by decide +kernel
theorem d_M_trierTold_185 : decode prog_13_method_20_code 185 = .ok (.iconst 3, 1) := by decide +kernel
theorem d_M_trierTold_186 : decode prog_13_method_20_code 186 = .ok (.iadd, 1) := by decide +kernel
theorem d_M_trierTold_187 : decode prog_13_method_20_code 187 = .ok (.iload 8, 2) := by decide +kernel
theorem d_M_trierTold_189 : decode prog_13_method_20_code 189 = .ok (.iastore, 1) := by decide +kernel
theorem d_M_trierTold_190 : decode prog_13_method_20_code 190 = .ok (.aload_n 0, 1) := by decide +kernel
theorem d_M_trierTold_191 : decode prog_13_method_20_code 191 = .ok (.getfield 112, 3) := by decide +kernel
theorem d_M_trierTold_194 : decode prog_13_method_20_code 194 = .ok (.iload_n 2, 1) := by decide +kernel
theorem d_M_trierTold_195 : decode prog_13_method_20_code 195 = .ok (.iconst 4, 1) := by decide +kernel
theorem d_M_trierTold_196 : decode prog_13_method_20_code 196 = .ok (.iadd, 1) := by decide +kernel
theorem d_M_trierTold_197 : decode prog_13_method_20_code 197 = .ok (.iload 9, 2) := by decide +kernel
theorem d_M_trierTold_199 : decode prog_13_method_20_code 199 = .ok (.iastore, 1) := by decide +kernel
theorem d_M_trierTold_200 : decode prog_13_method_20_code 200 = .ok (.aload_n 0, 1) := by decide +kernel
theorem d_M_trierTold_201 : decode prog_13_method_20_code 201 = .ok (.getfield 112, 3) := by decide +kernel
theorem d_M_trierTold_204 : decode prog_13_method_20_code 204 = .ok (.iload_n 2, 1) := by decide +kernel
theorem d_M_trierTold_205 : decode prog_13_method_20_code 205 = .ok (.iconst 5, 1) := by decide +kernel
theorem d_M_trierTold_206 : decode prog_13_method_20_code 206 = .ok (.iadd, 1) := by decide +kernel
theorem d_M_trierTold_207 : decode prog_13_method_20_code 207 = .ok (.iload 10, 2) := by decide +kernel
theorem d_M_trierTold_209 : decode prog_13_method_20_code 209 = .ok (.iastore, 1) := by decide +kernel
theorem d_M_trierTold_210 : decode prog_13_method_20_code 210 = .ok (.aload_n 0, 1) := by decide +kernel
theorem d_M_trierTold_211 : decode prog_13_method_20_code 211 = .ok (.getfield 102, 3) := by decide +kernel
theorem d_M_trierTold_214 : decode prog_13_method_20_code 214 = .ok (.iconst 1, 1) := by decide +kernel
theorem d_M_trierTold_215 : decode prog_13_method_20_code 215 = .ok (.dup2, 1) := by decide +kernel
theorem d_M_trierTold_216 : decode prog_13_method_20_code 216 = .ok (.iaload, 1) := by decide +kernel
theorem d_M_trierTold_217 : decode prog_13_method_20_code 217 = .ok (.iconst 1, 1) := by decide +kernel
theorem d_M_trierTold_218 : decode prog_13_method_20_code 218 = .ok (.iadd, 1) := by decide +kernel
theorem d_M_trierTold_219 : decode prog_13_method_20_code 219 = .ok (.iastore, 1) := by decide +kernel
theorem d_M_trierTold_220 : decode prog_13_method_20_code 220 = .ok (.return_, 1) := by decide +kernel
theorem d_M_markTold_0 : decode prog_13_method_19_code 0 = .ok (.aload_n 0, 1) := by decide +kernel
theorem d_M_markTold_1 : decode prog_13_method_19_code 1 = .ok (.iconst 0, 1) := by decide +kernel
theorem d_M_markTold_2 : decode prog_13_method_19_code 2 = .ok (.bipush 6, 2) := by decide +kernel
theorem d_M_markTold_4 : decode prog_13_method_19_code 4 = .ok (.iload_n 1, 1) := by decide +kernel
theorem d_M_markTold_5 : decode prog_13_method_19_code 5 = .ok (.invokevirtual 217, 3) := by decide +kernel
theorem d_M_markTold_8 : decode prog_13_method_19_code 8 = .ok (.ifCond .eq 4, 3) := by decide +kernel
theorem d_M_markTold_11 : decode prog_13_method_19_code 11 = .ok (.return_, 1) := by decide +kernel
theorem d_M_markTold_12 : decode prog_13_method_19_code 12 = .ok (.aload_n 0, 1) := by decide +kernel
theorem d_M_markTold_13 : decode prog_13_method_19_code 13 = .ok (.getfield 102, 3) := by decide +kernel
theorem d_M_markTold_16 : decode prog_13_method_19_code 16 = .ok (.iconst 0, 1) := by decide +kernel
theorem d_M_markTold_17 : decode prog_13_method_19_code 17 = .ok (.iaload, 1) := by decide +kernel
theorem d_M_markTold_18 : decode prog_13_method_19_code 18 = .ok (.istore_n 2, 1) := by decide +kernel
theorem d_M_markTold_19 : decode prog_13_method_19_code 19 = .ok (.aload_n 0, 1) := by decide +kernel
theorem d_M_markTold_20 : decode prog_13_method_19_code 20 = .ok (.invokevirtual 221, 3) := by decide +kernel
theorem d_M_markTold_23 : decode prog_13_method_19_code 23 = .ok (.lstore_n 3, 1) := by decide +kernel
theorem d_M_markTold_24 : decode prog_13_method_19_code 24 = .ok (.aload_n 0, 1) := by decide +kernel
theorem d_M_markTold_25 : decode prog_13_method_19_code 25 = .ok (.aload_n 0, 1) := by decide +kernel
theorem d_M_markTold_26 : decode prog_13_method_19_code 26 = .ok (.getfield 24, 3) := by decide +kernel
theorem d_M_markTold_29 : decode prog_13_method_19_code 29 = .ok (.invokevirtual 224, 3) := by decide +kernel
theorem d_M_markTold_32 : decode prog_13_method_19_code 32 = .ok (.aload_n 0, 1) := by decide +kernel
theorem d_M_markTold_33 : decode prog_13_method_19_code 33 = .ok (.iconst 1, 1) := by decide +kernel
theorem d_M_markTold_34 : decode prog_13_method_19_code 34 = .ok (.bipush 99, 2) := by decide +kernel
theorem d_M_markTold_36 : decode prog_13_method_19_code 36 = .ok (.invokevirtual 228, 3) := by decide +kernel
theorem d_M_markTold_39 : decode prog_13_method_19_code 39 = .ok (.istore 5, 2) := by decide +kernel
theorem d_M_markTold_41 : decode prog_13_method_19_code 41 = .ok (.aload_n 0, 1) := by decide +kernel
theorem d_M_markTold_42 : decode prog_13_method_19_code 42 = .ok (.getfield 158, 3) := by decide +kernel
theorem d_M_markTold_45 : decode prog_13_method_19_code 45 = .ok (.ifCond .eq 4, 3) := by decide +kernel
theorem d_M_markTold_48 : decode prog_13_method_19_code 48 = .ok (.return_, 1) := by decide +kernel
theorem d_M_markTold_49 : decode prog_13_method_19_code 49 = .ok (.aload_n 0, 1) := by decide +kernel
theorem d_M_markTold_50 : decode prog_13_method_19_code 50 = .ok (.getfield 105, 3) := by decide +kernel
theorem d_M_markTold_53 : decode prog_13_method_19_code 53 = .ok (.iload_n 2, 1) := by decide +kernel
theorem d_M_markTold_54 : decode prog_13_method_19_code 54 = .ok (.lload_n 3, 1) := by decide +kernel
theorem d_M_markTold_55 : decode prog_13_method_19_code 55 = .ok (.lastore, 1) := by decide +kernel
theorem d_M_markTold_56 : decode prog_13_method_19_code 56 = .ok (.aload_n 0, 1) := by decide +kernel
theorem d_M_markTold_57 : decode prog_13_method_19_code 57 = .ok (.getfield 109, 3) := by decide +kernel
theorem d_M_markTold_60 : decode prog_13_method_19_code 60 = .ok (.iload_n 2, 1) := by decide +kernel
theorem d_M_markTold_61 : decode prog_13_method_19_code 61 = .ok (.iload 5, 2) := by decide +kernel
theorem d_M_markTold_63 : decode prog_13_method_19_code 63 = .ok (.iastore, 1) := by decide +kernel
theorem d_M_markTold_64 : decode prog_13_method_19_code 64 = .ok (.aload_n 0, 1) := by decide +kernel
theorem d_M_markTold_65 : decode prog_13_method_19_code 65 = .ok (.getfield 102, 3) := by decide +kernel
theorem d_M_markTold_68 : decode prog_13_method_19_code 68 = .ok (.iconst 0, 1) := by decide +kernel
theorem d_M_markTold_69 : decode prog_13_method_19_code 69 = .ok (.dup2, 1) := by decide +kernel
theorem d_M_markTold_70 : decode prog_13_method_19_code 70 = .ok (.iaload, 1) := by decide +kernel
theorem d_M_markTold_71 : decode prog_13_method_19_code 71 = .ok (.iconst 1, 1) := by decide +kernel
theorem d_M_markTold_72 : decode prog_13_method_19_code 72 = .ok (.iadd, 1) := by decide +kernel
theorem d_M_markTold_73 : decode prog_13_method_19_code 73 = .ok (.iastore, 1) := by decide +kernel
theorem d_M_markTold_74 : decode prog_13_method_19_code 74 = .ok (.return_, 1) := by decide +kernel
theorem d_M_statementTold_0 : decode prog_13_method_24_code 0 = .ok (.aload_n 0, 1) := by decide +kernel
theorem d_M_statementTold_1 : decode prog_13_method_24_code 1 = .ok (.getfield 164, 3) := by decide +kernel
theorem d_M_statementTold_4 : decode prog_13_method_24_code 4 = .ok (.istore_n 1, 1) := by decide +kernel
theorem d_M_statementTold_5 : decode prog_13_method_24_code 5 = .ok (.aload_n 0, 1) := by decide +kernel
theorem d_M_statementTold_6 : decode prog_13_method_24_code 6 = .ok (.getfield 250, 3) := by decide +kernel
theorem d_M_statementTold_9 : decode prog_13_method_24_code 9 = .ok (.bipush 70, 2) := by decide +kernel
theorem d_M_statementTold_11 : decode prog_13_method_24_code 11 = .ok (.if_icmp .ne 10, 3) := by decide +kernel
theorem d_M_statementTold_14 : decode prog_13_method_24_code 14 = .ok (.aload_n 0, 1) := by decide +kernel
theorem d_M_statementTold_15 : decode prog_13_method_24_code 15 = .ok (.iconst 5, 1) := by decide +kernel
theorem d_M_statementTold_16 : decode prog_13_method_24_code 16 = .ok (.iload_n 1, 1) := by decide +kernel
theorem d_M_statementTold_17 : decode prog_13_method_24_code 17 = .ok (.invokevirtual 188, 3) := by decide +kernel
theorem d_M_statementTold_20 : decode prog_13_method_24_code 20 = .ok (.return_, 1) := by decide +kernel
theorem d_M_statementTold_21 : decode prog_13_method_24_code 21 = .ok (.aload_n 0, 1) := by decide +kernel
theorem d_M_statementTold_22 : decode prog_13_method_24_code 22 = .ok (.aload_n 0, 1) := by decide +kernel
theorem d_M_statementTold_23 : decode prog_13_method_24_code 23 = .ok (.getfield 20, 3) := by decide +kernel
theorem d_M_statementTold_26 : decode prog_13_method_24_code 26 = .ok (.invokevirtual 185, 3) := by decide +kernel
theorem d_M_statementTold_29 : decode prog_13_method_24_code 29 = .ok (.ifCond .eq 11, 3) := by decide +kernel
theorem d_M_statementTold_32 : decode prog_13_method_24_code 32 = .ok (.aload_n 0, 1) := by decide +kernel
theorem d_M_statementTold_33 : decode prog_13_method_24_code 33 = .ok (.iload_n 1, 1) := by decide +kernel
theorem d_M_statementTold_34 : decode prog_13_method_24_code 34 = .ok (.invokevirtual 253, 3) := by decide +kernel
theorem d_M_statementTold_37 : decode prog_13_method_24_code 37 = .ok (.goto 45, 3) := by decide +kernel
theorem d_M_statementTold_40 : decode prog_13_method_24_code 40 = .ok (.aload_n 0, 1) := by decide +kernel
theorem d_M_statementTold_41 : decode prog_13_method_24_code 41 = .ok (.aload_n 0, 1) := by decide +kernel
theorem d_M_statementTold_42 : decode prog_13_method_24_code 42 = .ok (.getfield 27, 3) := by decide +kernel
theorem d_M_statementTold_45 : decode prog_13_method_24_code 45 = .ok (.invokevirtual 185, 3) := by decide +kernel
theorem d_M_statementTold_48 : decode prog_13_method_24_code 48 = .ok (.ifCond .eq 11, 3) := by decide +kernel
theorem d_M_statementTold_51 : decode prog_13_method_24_code 51 = .ok (.aload_n 0, 1) := by decide +kernel
theorem d_M_statementTold_52 : decode prog_13_method_24_code 52 = .ok (.iload_n 1, 1) := by decide +kernel
theorem d_M_statementTold_53 : decode prog_13_method_24_code 53 = .ok (.invokevirtual 257, 3) := by decide +kernel
theorem d_M_statementTold_56 : decode prog_13_method_24_code 56 = .ok (.goto 26, 3) := by decide +kernel
theorem d_M_statementTold_59 : decode prog_13_method_24_code 59 = .ok (.aload_n 0, 1) := by decide +kernel
theorem d_M_statementTold_60 : decode prog_13_method_24_code 60 = .ok (.aload_n 0, 1) := by decide +kernel
theorem d_M_statementTold_61 : decode prog_13_method_24_code 61 = .ok (.getfield 48, 3) := by decide +kernel
theorem d_M_statementTold_64 : decode prog_13_method_24_code 64 = .ok (.invokevirtual 185, 3) := by decide +kernel
theorem d_M_statementTold_67 : decode prog_13_method_24_code 67 = .ok (.ifCond .eq 11, 3) := by decide +kernel
theorem d_M_statementTold_70 : decode prog_13_method_24_code 70 = .ok (.aload_n 0, 1) := by decide +kernel
theorem d_M_statementTold_71 : decode prog_13_method_24_code 71 = .ok (.iload_n 1, 1) := by decide +kernel
theorem d_M_statementTold_72 : decode prog_13_method_24_code 72 = .ok (.invokevirtual 260, 3) := by decide +kernel
theorem d_M_statementTold_75 : decode prog_13_method_24_code 75 = .ok (.goto 7, 3) := by decide +kernel
theorem d_M_statementTold_78 : decode prog_13_method_24_code 78 = .ok (.aload_n 0, 1) := by decide +kernel
theorem d_M_statementTold_79 : decode prog_13_method_24_code 79 = .ok (.invokevirtual 263, 3) := by decide +kernel
theorem d_M_statementTold_82 : decode prog_13_method_24_code 82 = .ok (.aload_n 0, 1) := by decide +kernel
theorem d_M_statementTold_83 : decode prog_13_method_24_code 83 = .ok (.bipush 59, 2) := by decide +kernel
theorem d_M_statementTold_85 : decode prog_13_method_24_code 85 = .ok (.invokevirtual 266, 3) := by decide +kernel
theorem d_M_statementTold_88 : decode prog_13_method_24_code 88 = .ok (.aload_n 0, 1) := by decide +kernel
theorem d_M_statementTold_89 : decode prog_13_method_24_code 89 = .ok (.dup, 1) := by decide +kernel
theorem d_M_statementTold_90 : decode prog_13_method_24_code 90 = .ok (.getfield 250, 3) := by decide +kernel
theorem d_M_statementTold_93 : decode prog_13_method_24_code 93 = .ok (.iconst 1, 1) := by decide +kernel
theorem d_M_statementTold_94 : decode prog_13_method_24_code 94 = .ok (.iadd, 1) := by decide +kernel
theorem d_M_statementTold_95 : decode prog_13_method_24_code 95 = .ok (.putfield 250, 3) := by decide +kernel
theorem d_M_statementTold_98 : decode prog_13_method_24_code 98 = .ok (.return_, 1) := by decide +kernel
theorem d_M_fair_0 : decode prog_13_method_25_code 0 = .ok (.aload_n 0, 1) := by decide +kernel
theorem d_M_fair_1 : decode prog_13_method_25_code 1 = .ok (.aload_n 0, 1) := by decide +kernel
theorem d_M_fair_2 : decode prog_13_method_25_code 2 = .ok (.getfield 155, 3) := by decide +kernel
theorem d_M_fair_5 : decode prog_13_method_25_code 5 = .ok (.putfield 167, 3) := by decide +kernel
theorem d_M_fair_8 : decode prog_13_method_25_code 8 = .ok (.aload_n 0, 1) := by decide +kernel
theorem d_M_fair_9 : decode prog_13_method_25_code 9 = .ok (.iconst 0, 1) := by decide +kernel
theorem d_M_fair_10 : decode prog_13_method_25_code 10 = .ok (.putfield 155, 3) := by decide +kernel
theorem d_M_fair_13 : decode prog_13_method_25_code 13 = .ok (.aload_n 0, 1) := by decide +kernel
theorem d_M_fair_14 : decode prog_13_method_25_code 14 = .ok (.iconst 0, 1) := by decide +kernel
theorem d_M_fair_15 : decode prog_13_method_25_code 15 = .ok (.putfield 164, 3) := by decide +kernel
theorem d_M_fair_18 : decode prog_13_method_25_code 18 = .ok (.aload_n 0, 1) := by decide +kernel
theorem d_M_fair_19 : decode prog_13_method_25_code 19 = .ok (.iconst (-1), 1) := by decide +kernel
theorem d_M_fair_20 : decode prog_13_method_25_code 20 = .ok (.putfield 178, 3) := by decide +kernel
theorem d_M_fair_23 : decode prog_13_method_25_code 23 = .ok (.aload_n 0, 1) := by decide +kernel
theorem d_M_fair_24 : decode prog_13_method_25_code 24 = .ok (.iconst 0, 1) := by decide +kernel
theorem d_M_fair_25 : decode prog_13_method_25_code 25 = .ok (.putfield 158, 3) := by decide +kernel
theorem d_M_fair_28 : decode prog_13_method_25_code 28 = .ok (.aload_n 0, 1) := by decide +kernel
theorem d_M_fair_29 : decode prog_13_method_25_code 29 = .ok (.iconst (-1), 1) := by decide +kernel
theorem d_M_fair_30 : decode prog_13_method_25_code 30 = .ok (.putfield 161, 3) := by decide +kernel
theorem d_M_fair_33 : decode prog_13_method_25_code 33 = .ok (.aload_n 0, 1) := by decide +kernel
theorem d_M_fair_34 : decode prog_13_method_25_code 34 = .ok (.iconst 0, 1) := by decide +kernel
theorem d_M_fair_35 : decode prog_13_method_25_code 35 = .ok (.putfield 250, 3) := by decide +kernel
theorem d_M_fair_38 : decode prog_13_method_25_code 38 = .ok (.aload_n 0, 1) := by decide +kernel
theorem d_M_fair_39 : decode prog_13_method_25_code 39 = .ok (.iconst 0, 1) := by decide +kernel
theorem d_M_fair_40 : decode prog_13_method_25_code 40 = .ok (.putfield 241, 3) := by decide +kernel
theorem d_M_fair_43 : decode prog_13_method_25_code 43 = .ok (.iconst 0, 1) := by decide +kernel
theorem d_M_fair_44 : decode prog_13_method_25_code 44 = .ok (.istore_n 1, 1) := by decide +kernel
theorem d_M_fair_45 : decode prog_13_method_25_code 45 = .ok (.iload_n 1, 1) := by decide +kernel
theorem d_M_fair_46 : decode prog_13_method_25_code 46 = .ok (.iconst 3, 1) := by decide +kernel
theorem d_M_fair_47 : decode prog_13_method_25_code 47 = .ok (.if_icmp .ge 16, 3) := by decide +kernel
theorem d_M_fair_50 : decode prog_13_method_25_code 50 = .ok (.aload_n 0, 1) := by decide +kernel
theorem d_M_fair_51 : decode prog_13_method_25_code 51 = .ok (.getfield 102, 3) := by decide +kernel
theorem d_M_fair_54 : decode prog_13_method_25_code 54 = .ok (.iload_n 1, 1) := by decide +kernel
theorem d_M_fair_55 : decode prog_13_method_25_code 55 = .ok (.iconst 0, 1) := by decide +kernel
theorem d_M_fair_56 : decode prog_13_method_25_code 56 = .ok (.iastore, 1) := by decide +kernel
theorem d_M_fair_57 : decode prog_13_method_25_code 57 = .ok (.iinc 1 1, 3) := by decide +kernel
theorem d_M_fair_60 : decode prog_13_method_25_code 60 = .ok (.goto (-15), 3) := by decide +kernel
theorem d_M_fair_63 : decode prog_13_method_25_code 63 = .ok (.aload_n 0, 1) := by decide +kernel
theorem d_M_fair_64 : decode prog_13_method_25_code 64 = .ok (.getfield 115, 3) := by decide +kernel
theorem d_M_fair_67 : decode prog_13_method_25_code 67 = .ok (.iconst 0, 1) := by decide +kernel
theorem d_M_fair_68 : decode prog_13_method_25_code 68 = .ok (.bipush 50, 2) := by decide +kernel
theorem d_M_fair_70 : decode prog_13_method_25_code 70 = .ok (.iastore, 1) := by decide +kernel
theorem d_M_fair_71 : decode prog_13_method_25_code 71 = .ok (.aload_n 0, 1) := by decide +kernel
theorem d_M_fair_72 : decode prog_13_method_25_code 72 = .ok (.getfield 115, 3) := by decide +kernel
theorem d_M_fair_75 : decode prog_13_method_25_code 75 = .ok (.iconst 1, 1) := by decide +kernel
theorem d_M_fair_76 : decode prog_13_method_25_code 76 = .ok (.iconst 1, 1) := by decide +kernel
theorem d_M_fair_77 : decode prog_13_method_25_code 77 = .ok (.iastore, 1) := by decide +kernel
theorem d_M_fair_78 : decode prog_13_method_25_code 78 = .ok (.aload_n 0, 1) := by decide +kernel
theorem d_M_fair_79 : decode prog_13_method_25_code 79 = .ok (.getfield 115, 3) := by decide +kernel
theorem d_M_fair_82 : decode prog_13_method_25_code 82 = .ok (.iconst 2, 1) := by decide +kernel
theorem d_M_fair_83 : decode prog_13_method_25_code 83 = .ok (.iconst 3, 1) := by decide +kernel
theorem d_M_fair_84 : decode prog_13_method_25_code 84 = .ok (.iastore, 1) := by decide +kernel
theorem d_M_fair_85 : decode prog_13_method_25_code 85 = .ok (.aload_n 0, 1) := by decide +kernel
theorem d_M_fair_86 : decode prog_13_method_25_code 86 = .ok (.getfield 115, 3) := by decide +kernel
theorem d_M_fair_89 : decode prog_13_method_25_code 89 = .ok (.iconst 3, 1) := by decide +kernel
theorem d_M_fair_90 : decode prog_13_method_25_code 90 = .ok (.bipush 20, 2) := by decide +kernel
theorem d_M_fair_92 : decode prog_13_method_25_code 92 = .ok (.iastore, 1) := by decide +kernel
theorem d_M_fair_93 : decode prog_13_method_25_code 93 = .ok (.aload_n 0, 1) := by decide +kernel
theorem d_M_fair_94 : decode prog_13_method_25_code 94 = .ok (.getfield 115, 3) := by decide +kernel
theorem d_M_fair_97 : decode prog_13_method_25_code 97 = .ok (.iconst 4, 1) := by decide +kernel
theorem d_M_fair_98 : decode prog_13_method_25_code 98 = .ok (.iconst 0, 1) := by decide +kernel
theorem d_M_fair_99 : decode prog_13_method_25_code 99 = .ok (.iastore, 1) := by decide +kernel
theorem d_M_fair_100 : decode prog_13_method_25_code 100 = .ok (.aload_n 0, 1) := by decide +kernel
theorem d_M_fair_101 : decode prog_13_method_25_code 101 = .ok (.getfield 115, 3) := by decide +kernel
theorem d_M_fair_104 : decode prog_13_method_25_code 104 = .ok (.iconst 5, 1) := by decide +kernel
theorem d_M_fair_105 : decode prog_13_method_25_code 105 = .ok (.iconst 3, 1) := by decide +kernel
theorem d_M_fair_106 : decode prog_13_method_25_code 106 = .ok (.iastore, 1) := by decide +kernel
theorem d_M_fair_107 : decode prog_13_method_25_code 107 = .ok (.aload_n 0, 1) := by decide +kernel
theorem d_M_fair_108 : decode prog_13_method_25_code 108 = .ok (.getfield 115, 3) := by decide +kernel
theorem d_M_fair_111 : decode prog_13_method_25_code 111 = .ok (.bipush 6, 2) := by decide +kernel
theorem d_M_fair_113 : decode prog_13_method_25_code 113 = .ok (.iconst 3, 1) := by decide +kernel
theorem d_M_fair_114 : decode prog_13_method_25_code 114 = .ok (.iastore, 1) := by decide +kernel
theorem d_M_fair_115 : decode prog_13_method_25_code 115 = .ok (.aload_n 0, 1) := by decide +kernel
theorem d_M_fair_116 : decode prog_13_method_25_code 116 = .ok (.getfield 115, 3) := by decide +kernel
theorem d_M_fair_119 : decode prog_13_method_25_code 119 = .ok (.bipush 7, 2) := by decide +kernel
theorem d_M_fair_121 : decode prog_13_method_25_code 121 = .ok (.iconst 1, 1) := by decide +kernel
theorem d_M_fair_122 : decode prog_13_method_25_code 122 = .ok (.iastore, 1) := by decide +kernel
theorem d_M_fair_123 : decode prog_13_method_25_code 123 = .ok (.aload_n 0, 1) := by decide +kernel
theorem d_M_fair_124 : decode prog_13_method_25_code 124 = .ok (.getfield 115, 3) := by decide +kernel
theorem d_M_fair_127 : decode prog_13_method_25_code 127 = .ok (.bipush 8, 2) := by decide +kernel
theorem d_M_fair_129 : decode prog_13_method_25_code 129 = .ok (.iconst 0, 1) := by decide +kernel
theorem d_M_fair_130 : decode prog_13_method_25_code 130 = .ok (.iastore, 1) := by decide +kernel
theorem d_M_fair_131 : decode prog_13_method_25_code 131 = .ok (.aload_n 0, 1) := by decide +kernel
theorem d_M_fair_132 : decode prog_13_method_25_code 132 = .ok (.getfield 158, 3) := by decide +kernel
theorem d_M_fair_135 : decode prog_13_method_25_code 135 = .ok (.ifCond .ne 18, 3) := by decide +kernel
theorem d_M_fair_138 : decode prog_13_method_25_code 138 = .ok (.aload_n 0, 1) := by decide +kernel
theorem d_M_fair_139 : decode prog_13_method_25_code 139 = .ok (.invokevirtual 170, 3) := by decide +kernel
theorem d_M_fair_142 : decode prog_13_method_25_code 142 = .ok (.iconst (-1), 1) := by decide +kernel
theorem d_M_fair_143 : decode prog_13_method_25_code 143 = .ok (.if_icmp .eq 10, 3) := by decide +kernel
theorem d_M_fair_146 : decode prog_13_method_25_code 146 = .ok (.aload_n 0, 1) := by decide +kernel
theorem d_M_fair_147 : decode prog_13_method_25_code 147 = .ok (.invokevirtual 269, 3) := by decide +kernel
theorem d_M_fair_150 : decode prog_13_method_25_code 150 = .ok (.goto (-19), 3) := by decide +kernel
theorem d_M_fair_153 : decode prog_13_method_25_code 153 = .ok (.aload_n 0, 1) := by decide +kernel
theorem d_M_fair_154 : decode prog_13_method_25_code 154 = .ok (.aload_n 0, 1) := by decide +kernel
theorem d_M_fair_155 : decode prog_13_method_25_code 155 = .ok (.getfield 158, 3) := by decide +kernel
theorem d_M_fair_158 : decode prog_13_method_25_code 158 = .ok (.putfield 272, 3) := by decide +kernel
theorem d_M_fair_161 : decode prog_13_method_25_code 161 = .ok (.aload_n 0, 1) := by decide +kernel
theorem d_M_fair_162 : decode prog_13_method_25_code 162 = .ok (.aload_n 0, 1) := by decide +kernel
theorem d_M_fair_163 : decode prog_13_method_25_code 163 = .ok (.getfield 161, 3) := by decide +kernel
theorem d_M_fair_166 : decode prog_13_method_25_code 166 = .ok (.putfield 13, 3) := by decide +kernel
theorem d_M_fair_169 : decode prog_13_method_25_code 169 = .ok (.aload_n 0, 1) := by decide +kernel
theorem d_M_fair_170 : decode prog_13_method_25_code 170 = .ok (.getfield 158, 3) := by decide +kernel
theorem d_M_fair_173 : decode prog_13_method_25_code 173 = .ok (.ifCond .eq 15, 3) := by decide +kernel
theorem d_M_fair_176 : decode prog_13_method_25_code 176 = .ok (.aload_n 0, 1) := by decide +kernel
theorem d_M_fair_177 : decode prog_13_method_25_code 177 = .ok (.getfield 17, 3) := by decide +kernel
theorem d_M_fair_180 : decode prog_13_method_25_code 180 = .ok (.iconst 1, 1) := by decide +kernel
theorem d_M_fair_181 : decode prog_13_method_25_code 181 = .ok (.dup2, 1) := by decide +kernel
theorem d_M_fair_182 : decode prog_13_method_25_code 182 = .ok (.iaload, 1) := by decide +kernel
theorem d_M_fair_183 : decode prog_13_method_25_code 183 = .ok (.iconst 1, 1) := by decide +kernel
theorem d_M_fair_184 : decode prog_13_method_25_code 184 = .ok (.iadd, 1) := by decide +kernel
theorem d_M_fair_185 : decode prog_13_method_25_code 185 = .ok (.iastore, 1) := by decide +kernel
theorem d_M_fair_186 : decode prog_13_method_25_code 186 = .ok (.iconst (-1), 1) := by decide +kernel
theorem d_M_fair_187 : decode prog_13_method_25_code 187 = .ok (.ireturn, 1) := by decide +kernel
theorem d_M_fair_188 : decode prog_13_method_25_code 188 = .ok (.aload_n 0, 1) := by decide +kernel
theorem d_M_fair_189 : decode prog_13_method_25_code 189 = .ok (.invokevirtual 275, 3) := by decide +kernel
theorem d_M_fair_192 : decode prog_13_method_25_code 192 = .ok (.aload_n 0, 1) := by decide +kernel
theorem d_M_fair_193 : decode prog_13_method_25_code 193 = .ok (.getfield 250, 3) := by decide +kernel
theorem d_M_fair_196 : decode prog_13_method_25_code 196 = .ok (.ireturn, 1) := by decide +kernel
theorem d_M_fault_0 : decode prog_13_method_42_code 0 = .ok (.iload_n 1, 1) := by decide +kernel
theorem d_M_fault_1 : decode prog_13_method_42_code 1 = .ok (.ifCond .ne 10, 3) := by decide +kernel
theorem d_M_fault_4 : decode prog_13_method_42_code 4 = .ok (.aload_n 0, 1) := by decide +kernel
theorem d_M_fault_5 : decode prog_13_method_42_code 5 = .ok (.getfield 272, 3) := by decide +kernel
theorem d_M_fault_8 : decode prog_13_method_42_code 8 = .ok (.goto 16, 3) := by decide +kernel
theorem d_M_fault_11 : decode prog_13_method_42_code 11 = .ok (.iload_n 1, 1) := by decide +kernel
theorem d_M_fault_12 : decode prog_13_method_42_code 12 = .ok (.iconst 1, 1) := by decide +kernel
theorem d_M_fault_13 : decode prog_13_method_42_code 13 = .ok (.if_icmp .ne 10, 3) := by decide +kernel
theorem d_M_fault_16 : decode prog_13_method_42_code 16 = .ok (.aload_n 0, 1) := by decide +kernel
theorem d_M_fault_17 : decode prog_13_method_42_code 17 = .ok (.getfield 13, 3) := by decide +kernel
theorem d_M_fault_20 : decode prog_13_method_42_code 20 = .ok (.goto 4, 3) := by decide +kernel
theorem d_M_fault_23 : decode prog_13_method_42_code 23 = .ok (.iconst (-1), 1) := by decide +kernel
theorem d_M_fault_24 : decode prog_13_method_42_code 24 = .ok (.ireturn, 1) := by decide +kernel
theorem d_M_toldOf_0 : decode prog_13_method_52_code 0 = .ok (.aload_n 0, 1) := by decide +kernel
theorem d_M_toldOf_1 : decode prog_13_method_52_code 1 = .ok (.getfield 115, 3) := by decide +kernel
theorem d_M_toldOf_4 : decode prog_13_method_52_code 4 = .ok (.bipush 9, 2) := by decide +kernel
theorem d_M_toldOf_6 : decode prog_13_method_52_code 6 = .ok (.iload_n 1, 1) := by decide +kernel
theorem d_M_toldOf_7 : decode prog_13_method_52_code 7 = .ok (.iadd, 1) := by decide +kernel
theorem d_M_toldOf_8 : decode prog_13_method_52_code 8 = .ok (.iaload, 1) := by decide +kernel
theorem d_M_toldOf_9 : decode prog_13_method_52_code 9 = .ok (.ireturn, 1) := by decide +kernel
theorem d_M_ruleMany_0 : decode prog_13_method_49_code 0 = .ok (.aload_n 0, 1) := by decide +kernel
theorem d_M_ruleMany_1 : decode prog_13_method_49_code 1 = .ok (.getfield 102, 3) := by decide +kernel
theorem d_M_ruleMany_4 : decode prog_13_method_49_code 4 = .ok (.iconst 5, 1) := by decide +kernel
theorem d_M_ruleMany_5 : decode prog_13_method_49_code 5 = .ok (.iaload, 1) := by decide +kernel
theorem d_M_ruleMany_6 : decode prog_13_method_49_code 6 = .ok (.ireturn, 1) := by decide +kernel
theorem d_M_trierMany_0 : decode prog_13_method_48_code 0 = .ok (.aload_n 0, 1) := by decide +kernel
theorem d_M_trierMany_1 : decode prog_13_method_48_code 1 = .ok (.getfield 102, 3) := by decide +kernel
theorem d_M_trierMany_4 : decode prog_13_method_48_code 4 = .ok (.iconst 4, 1) := by decide +kernel
theorem d_M_trierMany_5 : decode prog_13_method_48_code 5 = .ok (.iaload, 1) := by decide +kernel
theorem d_M_trierMany_6 : decode prog_13_method_48_code 6 = .ok (.ireturn, 1) := by decide +kernel
def f_M_test_110b (k110 : St → Option (St)) (σ : St) : Option (St) :=
  if (sI σ 4) = 0 then
    if (sI σ 11) ≤ 0 then
      some σ
    else
      bp (f_M_drops σ) fun σ_2 =>
      k110 σ_2
  else
    some σ
def f_M_test_110 : Nat → St → Option (St)
  | 0 => fun  _ => none
  | n + 1 => f_M_test_110b   (f_M_test_110   n)
def f_M_test_2b (k2 : Int32 → St → Option (St)) (x1 : Int32) (σ : St) : Option (St) :=
  if x1 = 0 then
    f_M_test_110 FU σ
  else
    if (sI σ 4) = 0 then
      bd (f_M_look σ) fun r_2 σ_3 =>
      if r_2 = 91 then
        bp (f_M_opens 25 (sI σ_3 1) σ_3) fun σ_19 =>
        lt (uI σ_19 1 ((sI σ_19 1) + 1)) fun σ_20 =>
        k2 x1 σ_20
      else
        bd (f_M_isHere 23 σ_3) fun r_5 σ_6 =>
        if r_5 = 0 then
          bp (f_M_fact σ_6) fun σ_8 =>
          bp (f_M_dropsNots σ_8) fun σ_10 =>
          if (sI σ_10 4) = 0 then
            bd (f_M_goesOnTest σ_10) fun r_12 σ_13 =>
            if r_12 = 0 then
              k2 0 σ_13
            else
              k2 1 σ_13
          else
            k2 0 σ_10
        else
          bp (f_M_opens 18 (sI σ_6 1) σ_6) fun σ_15 =>
          bp (f_M_asks 23 σ_15) fun σ_17 =>
          k2 x1 σ_17
    else
      f_M_test_110 FU σ
def f_M_test_2 : Nat → Int32 → St → Option (St)
  | 0 => fun _ _ => none
  | n + 1 => f_M_test_2b   (f_M_test_2   n)
def f_M_test (σ : St) : Option (St) :=
  f_M_test_2 FU 1 σ
set_option maxHeartbeats 4000000 in
set_option maxRecDepth 20000 in
theorem t_M_test_110b {σ2 : St} (C : Cx g A p s m av meth c prog_13_method_40_code 3 "BellHammerModel" none) {k110 : St → Option (St)} (hk110 : ∀  (σ : St) (H : Heap) (locs : List Loc) (ls : Array Slot), k110  σ = some σ2 → Wd g (wM g q) A s σ H locs → lv_has ls 3 [(0, .ref (q 0))] → WK p l e s m av below meth c 7 g (wM g q) A none σ2 H locs (F0 m 110 ls []))  {σ : St} {H : Heap} {locs : List Loc} {ls : Array Slot} (hf : f_M_test_110b  k110  σ = some σ2) (w : Wd g (wM g q) A s σ H locs) (hl : lv_has ls 3 [(0, .ref (q 0))]) : WK p l e s m av below meth c 7 g (wM g q) A none σ2 H locs (F0 m 110 ls []) := by
  obtain ⟨hx, hb, hml, hown, hts, hK, hA, hZ, hlocks, hr, hN⟩ := id C
  unfold f_M_test_110b at hf
  refine lv_aload_n hx hb d_M_test_110 rfl (lv_at hl 0 rfl) ?_
  refine mg_0_bad C w k1099 d_M_test_111 ?_
  refine lv_if_ne (tgt := 131) hx hb d_M_test_114 (by decide) (fun cd => ?_) (fun cd => ?_)
  · have hf := if_e cd hf
    cases some_e hf
    exact k_vret C w d_M_test_131
  · have hf := it_e cd hf
    refine lv_aload_n hx hb d_M_test_117 rfl (lv_at hl 0 rfl) ?_
    refine mg_0_waits C w k1141 d_M_test_118 ?_
    refine lv_if_le (tgt := 131) hx hb d_M_test_121 (by decide) (fun cd => ?_) (fun cd => ?_)
    · have hf := it_e cd hf
      cases some_e hf
      exact k_vret C w d_M_test_131
    · have hf := if_e cd hf
      refine lv_aload_n hx hb d_M_test_124 rfl (lv_at hl 0 rfl) ?_
      obtain ⟨σ_2, h_1, hf⟩ := bp_e hf
      refine k_callV (As := []) (rest := []) C w (c_M_drops (q := q) h_1) cv_M_drops k1473 (mr_0 C w) (by decide) hl.1 rfl (Nat.le_of_ble_eq_true rfl) d_M_test_125 (fun H locs w => ?_)
      show WK p l e s m av below meth c 7 g (wM g q) A none σ2 H locs (F0 m 128 ls [])
      refine lv_goto (tgt := 110) hx hb d_M_test_128 (by decide) ?_
      exact hk110  σ_2 _ _ _ hf w (lv_sub hl [0] rfl)
set_option maxHeartbeats 4000000 in
set_option maxRecDepth 20000 in
theorem t_M_test_110 {σ2 : St} (C : Cx g A p s m av meth c prog_13_method_40_code 3 "BellHammerModel" none)  : ∀ (n : Nat)  (σ : St) (H : Heap) (locs : List Loc) (ls : Array Slot), f_M_test_110   n  σ = some σ2 → Wd g (wM g q) A s σ H locs → lv_has ls 3 [(0, .ref (q 0))] → WK p l e s m av below meth c 7 g (wM g q) A none σ2 H locs (F0 m 110 ls []) := by
  intro n
  induction n with
  | zero => intro  σ H locs ls hf; exact absurd hf (by intro z; cases z)
  | succ n ih => intro  σ H locs ls hf w hl; exact t_M_test_110b C  ih hf w hl
set_option maxHeartbeats 4000000 in
set_option maxRecDepth 20000 in
theorem t_M_test_2b {σ2 : St} (C : Cx g A p s m av meth c prog_13_method_40_code 3 "BellHammerModel" none) {k2 : Int32 → St → Option (St)} (hk2 : ∀ (x1 : Int32) (σ : St) (H : Heap) (locs : List Loc) (ls : Array Slot), k2 x1 σ = some σ2 → Wd g (wM g q) A s σ H locs → lv_has ls 3 [(0, .ref (q 0)), (1, .int x1)] → WK p l e s m av below meth c 7 g (wM g q) A none σ2 H locs (F0 m 2 ls []))  {x1 : Int32} {σ : St} {H : Heap} {locs : List Loc} {ls : Array Slot} (hf : f_M_test_2b  k2 x1 σ = some σ2) (w : Wd g (wM g q) A s σ H locs) (hl : lv_has ls 3 [(0, .ref (q 0)), (1, .int x1)]) : WK p l e s m av below meth c 7 g (wM g q) A none σ2 H locs (F0 m 2 ls []) := by
  obtain ⟨hx, hb, hml, hown, hts, hK, hA, hZ, hlocks, hr, hN⟩ := id C
  unfold f_M_test_2b at hf
  refine lv_iload_n hx hb d_M_test_2 rfl (lv_at hl 1 rfl) ?_
  refine lv_if_eq (tgt := 110) hx hb d_M_test_3 (by decide) (fun cd => ?_) (fun cd => ?_)
  · have hf := it_e cd hf
    exact t_M_test_110 C  FU  σ _ _ _ hf w (lv_sub hl [0] rfl)
  · have hf := if_e cd hf
    refine lv_aload_n hx hb d_M_test_6 rfl (lv_at hl 0 rfl) ?_
    refine mg_0_bad C w k1099 d_M_test_7 ?_
    refine lv_if_ne (tgt := 110) hx hb d_M_test_10 (by decide) (fun cd => ?_) (fun cd => ?_)
    · have hf := if_e cd hf
      exact t_M_test_110 C  FU  σ _ _ _ hf w (lv_sub hl [0] rfl)
    · have hf := it_e cd hf
      refine lv_aload_n hx hb d_M_test_13 rfl (lv_at hl 0 rfl) ?_
      obtain ⟨r_2, σ_3, h_1, hf⟩ := bd_e hf
      refine k_callV (As := []) (rest := []) C w (c_M_look (q := q) h_1) cv_M_look k1354 (mr_0 C w) (by decide) hl.1 rfl (Nat.le_of_ble_eq_true rfl) d_M_test_14 (fun H locs w => ?_)
      show WK p l e s m av below meth c 7 g (wM g q) A none σ2 H locs (F0 m 17 ls [.int r_2])
      refine lv_istore_n (lv' := [(2, .int r_2), (0, .ref (q 0)), (1, .int x1)]) hx hb d_M_test_17 rfl hl (by decide) rfl (fun ls hl => ?_)
      refine lv_iload_n hx hb d_M_test_18 rfl (lv_at hl 0 rfl) ?_
      refine lv_bipush (v := 91) hx hb d_M_test_19 (by decide) ?_
      refine lv_icmp_ne (tgt := 47) hx hb d_M_test_21 (by decide) (fun cd => ?_) (fun cd => ?_)
      · have hf := if_e cd hf
        refine lv_aload_n hx hb d_M_test_47 rfl (lv_at hl 1 rfl) ?_
        refine lv_aload_n hx hb d_M_test_48 rfl (lv_at hl 1 rfl) ?_
        refine mg_0_notWord C w k1127 d_M_test_49 ?_
        obtain ⟨r_5, σ_6, h_4, hf⟩ := bd_e hf
        refine k_callV (As := [.ref (q (1 + 23))]) (rest := []) C w (c_M_isHere (q := q) (j := 23) (by decide) h_4) cv_M_isHere k1370 (mr_0 C w) (by decide) hl.1 rfl (Nat.le_of_ble_eq_true rfl) d_M_test_52 (fun H locs w => ?_)
        show WK p l e s m av below meth c 7 g (wM g q) A none σ2 H locs (F0 m 55 ls [.int r_5])
        refine lv_if_eq (tgt := 79) hx hb d_M_test_55 (by decide) (fun cd => ?_) (fun cd => ?_)
        · have hf := it_e cd hf
          refine lv_aload_n hx hb d_M_test_79 rfl (lv_at hl 1 rfl) ?_
          obtain ⟨σ_8, h_7, hf⟩ := bp_e hf
          refine k_callV (As := []) (rest := []) C w (c_M_fact (q := q) h_7) cv_M_fact k1433 (mr_0 C w) (by decide) hl.1 rfl (Nat.le_of_ble_eq_true rfl) d_M_test_80 (fun H locs w => ?_)
          show WK p l e s m av below meth c 7 g (wM g q) A none σ2 H locs (F0 m 83 ls [])
          refine lv_aload_n hx hb d_M_test_83 rfl (lv_at hl 1 rfl) ?_
          obtain ⟨σ_10, h_9, hf⟩ := bp_e hf
          refine k_callV (As := []) (rest := []) C w (c_M_dropsNots (q := q) h_9) cv_M_dropsNots k1481 (mr_0 C w) (by decide) hl.1 rfl (Nat.le_of_ble_eq_true rfl) d_M_test_84 (fun H locs w => ?_)
          show WK p l e s m av below meth c 7 g (wM g q) A none σ2 H locs (F0 m 87 ls [])
          refine lv_aload_n hx hb d_M_test_87 rfl (lv_at hl 1 rfl) ?_
          refine mg_0_bad C w k1099 d_M_test_88 ?_
          refine lv_if_ne (tgt := 105) hx hb d_M_test_91 (by decide) (fun cd => ?_) (fun cd => ?_)
          · have hf := if_e cd hf
            refine lv_iconst (v := 0) hx hb d_M_test_105 (by decide) ?_
            refine lv_istore_n (lv' := [(1, .int 0), (2, .int r_2), (0, .ref (q 0))]) hx hb d_M_test_106 rfl hl (by decide) rfl (fun ls hl => ?_)
            refine lv_goto (tgt := 2) hx hb d_M_test_107 (by decide) ?_
            exact hk2 0 σ_10 _ _ _ hf w (lv_sub hl [2, 0] rfl)
          · have hf := it_e cd hf
            refine lv_aload_n hx hb d_M_test_94 rfl (lv_at hl 1 rfl) ?_
            obtain ⟨r_12, σ_13, h_11, hf⟩ := bd_e hf
            refine k_callV (As := []) (rest := []) C w (c_M_goesOnTest (q := q) h_11) cv_M_goesOnTest k1485 (mr_0 C w) (by decide) hl.1 rfl (Nat.le_of_ble_eq_true rfl) d_M_test_95 (fun H locs w => ?_)
            show WK p l e s m av below meth c 7 g (wM g q) A none σ2 H locs (F0 m 98 ls [.int r_12])
            refine lv_if_eq (tgt := 105) hx hb d_M_test_98 (by decide) (fun cd => ?_) (fun cd => ?_)
            · have hf := it_e cd hf
              refine lv_iconst (v := 0) hx hb d_M_test_105 (by decide) ?_
              refine lv_istore_n (lv' := [(1, .int 0), (2, .int r_2), (0, .ref (q 0))]) hx hb d_M_test_106 rfl hl (by decide) rfl (fun ls hl => ?_)
              refine lv_goto (tgt := 2) hx hb d_M_test_107 (by decide) ?_
              exact hk2 0 σ_13 _ _ _ hf w (lv_sub hl [2, 0] rfl)
            · have hf := if_e cd hf
              refine lv_iconst (v := 1) hx hb d_M_test_101 (by decide) ?_
              refine lv_goto (tgt := 106) hx hb d_M_test_102 (by decide) ?_
              refine lv_istore_n (lv' := [(1, .int 1), (2, .int r_2), (0, .ref (q 0))]) hx hb d_M_test_106 rfl hl (by decide) rfl (fun ls hl => ?_)
              refine lv_goto (tgt := 2) hx hb d_M_test_107 (by decide) ?_
              exact hk2 1 σ_13 _ _ _ hf w (lv_sub hl [2, 0] rfl)
        · have hf := if_e cd hf
          refine lv_aload_n hx hb d_M_test_58 rfl (lv_at hl 1 rfl) ?_
          refine lv_bipush (v := 18) hx hb d_M_test_59 (by decide) ?_
          refine lv_aload_n hx hb d_M_test_61 rfl (lv_at hl 1 rfl) ?_
          refine mg_0_at C w k1096 d_M_test_62 ?_
          obtain ⟨σ_15, h_14, hf⟩ := bp_e hf
          refine k_callV (As := [.int 18, .int (sI σ_6 1)]) (rest := []) C w (c_M_opens (q := q) h_14) cv_M_opens k1429 (mr_0 C w) (by decide) hl.1 rfl (Nat.le_of_ble_eq_true rfl) d_M_test_65 (fun H locs w => ?_)
          show WK p l e s m av below meth c 7 g (wM g q) A none σ2 H locs (F0 m 68 ls [])
          refine lv_aload_n hx hb d_M_test_68 rfl (lv_at hl 1 rfl) ?_
          refine lv_aload_n hx hb d_M_test_69 rfl (lv_at hl 1 rfl) ?_
          refine mg_0_notWord C w k1127 d_M_test_70 ?_
          obtain ⟨σ_17, h_16, hf⟩ := bp_e hf
          refine k_callV (As := [.ref (q (1 + 23))]) (rest := []) C w (c_M_asks (q := q) (j := 23) (by decide) h_16) cv_M_asks k1399 (mr_0 C w) (by decide) hl.1 rfl (Nat.le_of_ble_eq_true rfl) d_M_test_73 (fun H locs w => ?_)
          show WK p l e s m av below meth c 7 g (wM g q) A none σ2 H locs (F0 m 76 ls [])
          refine lv_goto (tgt := 2) hx hb d_M_test_76 (by decide) ?_
          exact hk2 x1 σ_17 _ _ _ hf w (lv_sub hl [1, 2] rfl)
      · have hf := it_e cd hf
        refine lv_aload_n hx hb d_M_test_24 rfl (lv_at hl 1 rfl) ?_
        refine lv_bipush (v := 25) hx hb d_M_test_25 (by decide) ?_
        refine lv_aload_n hx hb d_M_test_27 rfl (lv_at hl 1 rfl) ?_
        refine mg_0_at C w k1096 d_M_test_28 ?_
        obtain ⟨σ_19, h_18, hf⟩ := bp_e hf
        refine k_callV (As := [.int 25, .int (sI σ_3 1)]) (rest := []) C w (c_M_opens (q := q) h_18) cv_M_opens k1429 (mr_0 C w) (by decide) hl.1 rfl (Nat.le_of_ble_eq_true rfl) d_M_test_31 (fun H locs w => ?_)
        show WK p l e s m av below meth c 7 g (wM g q) A none σ2 H locs (F0 m 34 ls [])
        refine lv_aload_n hx hb d_M_test_34 rfl (lv_at hl 1 rfl) ?_
        refine lv_dup hx hb d_M_test_35 rfl ?_
        refine mg_0_at C w k1096 d_M_test_36 ?_
        refine lv_iconst (v := 1) hx hb d_M_test_39 (by decide) ?_
        refine lv_iadd hx hb d_M_test_40 ?_
        refine mp_0_at C w k1096 d_M_test_41 (fun σ_20 H locs eσ_20 w => ?_)
        have hf := lt_e eσ_20 hf
        refine lv_goto (tgt := 2) hx hb d_M_test_44 (by decide) ?_
        exact hk2 x1 σ_20 _ _ _ hf w (lv_sub hl [1, 2] rfl)
set_option maxHeartbeats 4000000 in
set_option maxRecDepth 20000 in
theorem t_M_test_2 {σ2 : St} (C : Cx g A p s m av meth c prog_13_method_40_code 3 "BellHammerModel" none)  : ∀ (n : Nat) (x1 : Int32) (σ : St) (H : Heap) (locs : List Loc) (ls : Array Slot), f_M_test_2   n x1 σ = some σ2 → Wd g (wM g q) A s σ H locs → lv_has ls 3 [(0, .ref (q 0)), (1, .int x1)] → WK p l e s m av below meth c 7 g (wM g q) A none σ2 H locs (F0 m 2 ls []) := by
  intro n
  induction n with
  | zero => intro x1 σ H locs ls hf; exact absurd hf (by intro z; cases z)
  | succ n ih => intro x1 σ H locs ls hf w hl; exact t_M_test_2b C  ih hf w hl
set_option maxHeartbeats 4000000 in
set_option maxRecDepth 20000 in
theorem c_M_test {l : Launch} {g : GX} {q : Nat → Nat}  {σ : St} {σ2 : St} (hf : f_M_test   σ = some σ2) : KK l y_M_test prog_13_method_40_code 3 none 7 g (wM g q) σ [.ref (q 0)] none (wM g q) σ2 := by
  refine KK_of (plainFor_of_name (by decide)) (Nat.le_of_ble_eq_true rfl) (fun p e s m below meth c A ls C w hl => ?_)
  have hl : lv_has ls 3 [(0, .ref (q 0))] := hl
  obtain ⟨hx, hb, hml, hown, hts, hK, hA, hZ, hlocks, hr, hN⟩ := id C
  unfold f_M_test at hf
  refine lv_iconst (v := 1) hx hb d_M_test_0 (by decide) ?_
  refine lv_istore_n (lv' := [(1, .int 1), (0, .ref (q 0))]) hx hb d_M_test_1 rfl hl (by decide) rfl (fun ls hl => ?_)
  exact t_M_test_2 C  FU 1 σ _ _ _ hf w (lv_sub hl [1, 0] rfl)
def f_M_ruleTold_52 (x2 : Int32) (σ : St) : Option (St) :=
  gd (inB x2 12) <|
  lt (uA σ 9 (upd (sA σ 9) x2.toNatClampNeg (sI σ 10))) fun σ_2 =>
  lt (uA σ_2 2 (upd (sA σ_2 2) (2 : Int32).toNatClampNeg ((sA σ_2 2 (2 : Int32).toNatClampNeg) + 1))) fun σ_3 =>
  some σ_3
def f_M_ruleTold (x1 : Int32) (σ : St) : Option (St) :=
  bd (f_M_isFull 2 6 x1 σ) fun r_2 σ_3 =>
  if r_2 = 0 then
    lt ((sA σ_3 2 (2 : Int32).toNatClampNeg)) fun x_4 =>
    bp (f_M_asks 10 σ_3) fun σ_6 =>
    gd (inB x_4 12) <|
    lt (uA σ_6 8 (upd (sA σ_6 8) x_4.toNatClampNeg (sI σ_6 10))) fun σ_8 =>
    bp (f_M_clears σ_8) fun σ_10 =>
    if (sI σ_10 4) = 0 then
      bp (f_M_test σ_10) fun σ_12 =>
      f_M_ruleTold_52 x_4 σ_12
    else
      f_M_ruleTold_52 x_4 σ_10
  else
    some σ_3
set_option maxHeartbeats 4000000 in
set_option maxRecDepth 20000 in
theorem t_M_ruleTold_52 {σ2 : St} (C : Cx g A p s m av meth c prog_13_method_22_code 3 "BellHammerModel" none)  {x2 : Int32} {σ : St} {H : Heap} {locs : List Loc} {ls : Array Slot} (hf : f_M_ruleTold_52   x2 σ = some σ2) (w : Wd g (wM g q) A s σ H locs) (hl : lv_has ls 3 [(0, .ref (q 0)), (2, .int x2)]) : WK p l e s m av below meth c 8 g (wM g q) A none σ2 H locs (F0 m 52 ls []) := by
  obtain ⟨hx, hb, hml, hown, hts, hK, hA, hZ, hlocks, hr, hN⟩ := id C
  unfold f_M_ruleTold_52 at hf
  refine lv_aload_n hx hb d_M_ruleTold_52 rfl (lv_at hl 0 rfl) ?_
  refine mg_0_testEnd C w k1144 d_M_ruleTold_53 ?_
  refine lv_iload_n hx hb d_M_ruleTold_56 rfl (lv_at hl 1 rfl) ?_
  refine lv_aload_n hx hb d_M_ruleTold_57 rfl (lv_at hl 0 rfl) ?_
  refine mg_0_coded C w k1139 d_M_ruleTold_58 ?_
  obtain ⟨g_1, hf⟩ := gd_e hf
  refine ms_38 C w g_1 d_M_ruleTold_61 (fun σ_2 H locs eσ_2 w => ?_)
  have hf := lt_e eσ_2 hf
  refine lv_aload_n hx hb d_M_ruleTold_62 rfl (lv_at hl 0 rfl) ?_
  refine mg_0_many C w k1132 d_M_ruleTold_63 ?_
  refine lv_iconst (v := 2) hx hb d_M_ruleTold_66 (by decide) ?_
  refine lv_dup2_11 hx hb d_M_ruleTold_67 rfl rfl ?_
  refine ml_30 C w (by decide) d_M_ruleTold_68 ?_
  refine lv_iconst (v := 1) hx hb d_M_ruleTold_69 (by decide) ?_
  refine lv_iadd hx hb d_M_ruleTold_70 ?_
  refine ms_30 C w (by decide) d_M_ruleTold_71 (fun σ_3 H locs eσ_3 w => ?_)
  have hf := lt_e eσ_3 hf
  cases some_e hf
  exact k_vret C w d_M_ruleTold_72
set_option maxHeartbeats 4000000 in
set_option maxRecDepth 20000 in
theorem c_M_ruleTold {l : Launch} {g : GX} {q : Nat → Nat} {x1 : Int32}  {σ : St} {σ2 : St} (hf : f_M_ruleTold  x1 σ = some σ2) : KK l y_M_ruleTold prog_13_method_22_code 3 none 8 g (wM g q) σ [.ref (q 0), .int x1] none (wM g q) σ2 := by
  refine KK_of (plainFor_of_name (by decide)) (Nat.le_of_ble_eq_true rfl) (fun p e s m below meth c A ls C w hl => ?_)
  have hl : lv_has ls 3 [(0, .ref (q 0)), (1, .int x1)] := hl
  obtain ⟨hx, hb, hml, hown, hts, hK, hA, hZ, hlocks, hr, hN⟩ := id C
  unfold f_M_ruleTold at hf
  refine lv_aload_n hx hb d_M_ruleTold_0 rfl (lv_at hl 0 rfl) ?_
  refine lv_iconst (v := 2) hx hb d_M_ruleTold_1 (by decide) ?_
  refine lv_bipush (v := 6) hx hb d_M_ruleTold_2 (by decide) ?_
  refine lv_iload_n hx hb d_M_ruleTold_4 rfl (lv_at hl 1 rfl) ?_
  obtain ⟨r_2, σ_3, h_1, hf⟩ := bd_e hf
  refine k_callV (As := [.int 2, .int 6, .int x1]) (rest := []) C w (c_M_isFull (q := q) h_1) cv_M_isFull k1381 (mr_0 C w) (by decide) hl.1 rfl (Nat.le_of_ble_eq_true rfl) d_M_ruleTold_5 (fun H locs w => ?_)
  show WK p l e s m _ below meth c 8 g (wM g q) A none σ2 H locs (F0 m 8 ls [.int r_2])
  refine lv_if_eq (tgt := 12) hx hb d_M_ruleTold_8 (by decide) (fun cd => ?_) (fun cd => ?_)
  · have hf := it_e cd hf
    refine lv_aload_n hx hb d_M_ruleTold_12 rfl (lv_at hl 0 rfl) ?_
    refine mg_0_many C w k1132 d_M_ruleTold_13 ?_
    refine lv_iconst (v := 2) hx hb d_M_ruleTold_16 (by decide) ?_
    refine ml_30 C w (by decide) d_M_ruleTold_17 ?_
    refine lv_topi (fun x_4 ex_4 => ?_)
    have hf := lt_e ex_4 hf
    refine lv_istore_n (lv' := [(2, .int x_4), (0, .ref (q 0)), (1, .int x1)]) hx hb d_M_ruleTold_18 rfl hl (by decide) rfl (fun ls hl => ?_)
    refine lv_aload_n hx hb d_M_ruleTold_19 rfl (lv_at hl 1 rfl) ?_
    refine lv_aload_n hx hb d_M_ruleTold_20 rfl (lv_at hl 1 rfl) ?_
    refine mg_0_whenWord C w k1114 d_M_ruleTold_21 ?_
    obtain ⟨σ_6, h_5, hf⟩ := bp_e hf
    refine k_callV (As := [.ref (q (1 + 10))]) (rest := []) C w (c_M_asks (q := q) (j := 10) (by decide) h_5) cv_M_asks k1399 (mr_0 C w) (by decide) hl.1 rfl (Nat.le_of_ble_eq_true rfl) d_M_ruleTold_24 (fun H locs w => ?_)
    show WK p l e s m _ below meth c 8 g (wM g q) A none σ2 H locs (F0 m 27 ls [])
    refine lv_aload_n hx hb d_M_ruleTold_27 rfl (lv_at hl 1 rfl) ?_
    refine mg_0_testFrom C w k1143 d_M_ruleTold_28 ?_
    refine lv_iload_n hx hb d_M_ruleTold_31 rfl (lv_at hl 0 rfl) ?_
    refine lv_aload_n hx hb d_M_ruleTold_32 rfl (lv_at hl 1 rfl) ?_
    refine mg_0_coded C w k1139 d_M_ruleTold_33 ?_
    obtain ⟨g_7, hf⟩ := gd_e hf
    refine ms_37 C w g_7 d_M_ruleTold_36 (fun σ_8 H locs eσ_8 w => ?_)
    have hf := lt_e eσ_8 hf
    refine lv_aload_n hx hb d_M_ruleTold_37 rfl (lv_at hl 1 rfl) ?_
    obtain ⟨σ_10, h_9, hf⟩ := bp_e hf
    refine k_callV (As := []) (rest := []) C w (c_M_clears (q := q) h_9) cv_M_clears k1421 (mr_0 C w) (by decide) hl.1 rfl (Nat.le_of_ble_eq_true rfl) d_M_ruleTold_38 (fun H locs w => ?_)
    show WK p l e s m _ below meth c 8 g (wM g q) A none σ2 H locs (F0 m 41 ls [])
    refine lv_aload_n hx hb d_M_ruleTold_41 rfl (lv_at hl 1 rfl) ?_
    refine mg_0_bad C w k1099 d_M_ruleTold_42 ?_
    refine lv_if_ne (tgt := 52) hx hb d_M_ruleTold_45 (by decide) (fun cd => ?_) (fun cd => ?_)
    · have hf := if_e cd hf
      exact t_M_ruleTold_52 C  hf w (lv_sub hl [1, 0] rfl)
    · have hf := it_e cd hf
      refine lv_aload_n hx hb d_M_ruleTold_48 rfl (lv_at hl 1 rfl) ?_
      obtain ⟨σ_12, h_11, hf⟩ := bp_e hf
      refine k_callV (As := []) (rest := []) C w (c_M_test (q := q) h_11) cv_M_test k1425 (mr_0 C w) (by decide) hl.1 rfl (Nat.le_of_ble_eq_true rfl) d_M_ruleTold_49 (fun H locs w => ?_)
      show WK p l e s m _ below meth c 8 g (wM g q) A none σ2 H locs (F0 m 52 ls [])
      exact t_M_ruleTold_52 C  hf w (lv_sub hl [1, 0] rfl)
  · have hf := if_e cd hf
    cases some_e hf
    exact k_vret C w d_M_ruleTold_11
def f_M_isOwnHere_337 (σ : St) : Option (Int32 × St) :=
  some (1, σ)
def f_M_isOwnHere_299 (t0 : Int32) (σ : St) : Option (Int32 × St) :=
  if t0 = 0 then
    bd (f_M_isHere 24 σ) fun r_2 σ_3 =>
    if r_2 = 0 then
      bd (f_M_isHere 25 σ_3) fun r_5 σ_6 =>
      if r_5 = 0 then
        bd (f_M_isHere 26 σ_6) fun r_8 σ_9 =>
        if r_8 = 0 then
          some (0, σ_9)
        else
          f_M_isOwnHere_337 σ_9
      else
        f_M_isOwnHere_337 σ_6
    else
      f_M_isOwnHere_337 σ_3
  else
    f_M_isOwnHere_337 σ
def f_M_isOwnHere_294 (σ : St) : Option (Int32 × St) :=
  f_M_isOwnHere_299 1 σ
def f_M_isOwnHere_223 (t0 : Int32) (σ : St) : Option (Int32 × St) :=
  if t0 = 0 then
    bd (f_M_isHere 18 σ) fun r_2 σ_3 =>
    if r_2 = 0 then
      bd (f_M_isHere 19 σ_3) fun r_5 σ_6 =>
      if r_5 = 0 then
        bd (f_M_isHere 20 σ_6) fun r_8 σ_9 =>
        if r_8 = 0 then
          bd (f_M_isHere 21 σ_9) fun r_11 σ_12 =>
          if r_11 = 0 then
            bd (f_M_isHere 22 σ_12) fun r_14 σ_15 =>
            if r_14 = 0 then
              bd (f_M_isHere 23 σ_15) fun r_17 σ_18 =>
              if r_17 = 0 then
                f_M_isOwnHere_299 0 σ_18
              else
                f_M_isOwnHere_294 σ_18
            else
              f_M_isOwnHere_294 σ_15
          else
            f_M_isOwnHere_294 σ_12
        else
          f_M_isOwnHere_294 σ_9
      else
        f_M_isOwnHere_294 σ_6
    else
      f_M_isOwnHere_294 σ_3
  else
    f_M_isOwnHere_294 σ
def f_M_isOwnHere_218 (σ : St) : Option (Int32 × St) :=
  f_M_isOwnHere_223 1 σ
def f_M_isOwnHere_147 (t0 : Int32) (σ : St) : Option (Int32 × St) :=
  if t0 = 0 then
    bd (f_M_isHere 12 σ) fun r_2 σ_3 =>
    if r_2 = 0 then
      bd (f_M_isHere 13 σ_3) fun r_5 σ_6 =>
      if r_5 = 0 then
        bd (f_M_isHere 14 σ_6) fun r_8 σ_9 =>
        if r_8 = 0 then
          bd (f_M_isHere 15 σ_9) fun r_11 σ_12 =>
          if r_11 = 0 then
            bd (f_M_isHere 16 σ_12) fun r_14 σ_15 =>
            if r_14 = 0 then
              bd (f_M_isHere 17 σ_15) fun r_17 σ_18 =>
              if r_17 = 0 then
                f_M_isOwnHere_223 0 σ_18
              else
                f_M_isOwnHere_218 σ_18
            else
              f_M_isOwnHere_218 σ_15
          else
            f_M_isOwnHere_218 σ_12
        else
          f_M_isOwnHere_218 σ_9
      else
        f_M_isOwnHere_218 σ_6
    else
      f_M_isOwnHere_218 σ_3
  else
    f_M_isOwnHere_218 σ
def f_M_isOwnHere_142 (σ : St) : Option (Int32 × St) :=
  f_M_isOwnHere_147 1 σ
def f_M_isOwnHere_71 (t0 : Int32) (σ : St) : Option (Int32 × St) :=
  if t0 = 0 then
    bd (f_M_isHere 6 σ) fun r_2 σ_3 =>
    if r_2 = 0 then
      bd (f_M_isHere 7 σ_3) fun r_5 σ_6 =>
      if r_5 = 0 then
        bd (f_M_isHere 8 σ_6) fun r_8 σ_9 =>
        if r_8 = 0 then
          bd (f_M_isHere 9 σ_9) fun r_11 σ_12 =>
          if r_11 = 0 then
            bd (f_M_isHere 10 σ_12) fun r_14 σ_15 =>
            if r_14 = 0 then
              bd (f_M_isHere 11 σ_15) fun r_17 σ_18 =>
              if r_17 = 0 then
                f_M_isOwnHere_147 0 σ_18
              else
                f_M_isOwnHere_142 σ_18
            else
              f_M_isOwnHere_142 σ_15
          else
            f_M_isOwnHere_142 σ_12
        else
          f_M_isOwnHere_142 σ_9
      else
        f_M_isOwnHere_142 σ_6
    else
      f_M_isOwnHere_142 σ_3
  else
    f_M_isOwnHere_142 σ
def f_M_isOwnHere_66 (σ : St) : Option (Int32 × St) :=
  f_M_isOwnHere_71 1 σ
def f_M_isOwnHere (σ : St) : Option (Int32 × St) :=
  bd (f_M_isHere 0 σ) fun r_2 σ_3 =>
  if r_2 = 0 then
    bd (f_M_isHere 1 σ_3) fun r_5 σ_6 =>
    if r_5 = 0 then
      bd (f_M_isHere 2 σ_6) fun r_8 σ_9 =>
      if r_8 = 0 then
        bd (f_M_isHere 3 σ_9) fun r_11 σ_12 =>
        if r_11 = 0 then
          bd (f_M_isHere 4 σ_12) fun r_14 σ_15 =>
          if r_14 = 0 then
            bd (f_M_isHere 5 σ_15) fun r_17 σ_18 =>
            if r_17 = 0 then
              f_M_isOwnHere_71 0 σ_18
            else
              f_M_isOwnHere_66 σ_18
          else
            f_M_isOwnHere_66 σ_15
        else
          f_M_isOwnHere_66 σ_12
      else
        f_M_isOwnHere_66 σ_9
    else
      f_M_isOwnHere_66 σ_6
  else
    f_M_isOwnHere_66 σ_3
set_option maxHeartbeats 4000000 in
set_option maxRecDepth 20000 in
theorem t_M_isOwnHere_337 {r : Int32} {σ2 : St} (C : Cx g A p s m av meth c prog_13_method_15_code 2 "BellHammerModel" (some .boolean))  {σ : St} {H : Heap} {locs : List Loc} {ls : Array Slot} (hf : f_M_isOwnHere_337    σ = some (r, σ2)) (w : Wd g (wM g q) A s σ H locs) (hl : lv_has ls 2 []) : WK p l e s m av below meth c 2 g (wM g q) A (some (.int r)) σ2 H locs (F0 m 337 ls []) := by
  obtain ⟨hx, hb, hml, hown, hts, hK, hA, hZ, hlocks, hr, hN⟩ := id C
  unfold f_M_isOwnHere_337 at hf
  refine lv_iconst (v := 1) hx hb d_M_isOwnHere_337 (by decide) ?_
  refine lv_goto (tgt := 342) hx hb d_M_isOwnHere_338 (by decide) ?_
  refine lv_istore_n (lv' := [(1, .int 1)]) hx hb d_M_isOwnHere_342 rfl hl (by decide) rfl (fun ls hl => ?_)
  refine lv_iload_n hx hb d_M_isOwnHere_343 rfl (lv_at hl 0 rfl) ?_
  obtain ⟨rfl, rfl⟩ := some2_e hf
  exact k_zret C w (by decide) d_M_isOwnHere_344
set_option maxHeartbeats 4000000 in
set_option maxRecDepth 20000 in
theorem t_M_isOwnHere_299 {r : Int32} {σ2 : St} (C : Cx g A p s m av meth c prog_13_method_15_code 2 "BellHammerModel" (some .boolean))  {t0 : Int32} {σ : St} {H : Heap} {locs : List Loc} {ls : Array Slot} (hf : f_M_isOwnHere_299   t0 σ = some (r, σ2)) (w : Wd g (wM g q) A s σ H locs) (hl : lv_has ls 2 [(0, .ref (q 0))]) : WK p l e s m av below meth c 2 g (wM g q) A (some (.int r)) σ2 H locs (F0 m 299 ls [.int t0]) := by
  obtain ⟨hx, hb, hml, hown, hts, hK, hA, hZ, hlocks, hr, hN⟩ := id C
  unfold f_M_isOwnHere_299 at hf
  refine lv_istore_n (lv' := [(1, .int t0), (0, .ref (q 0))]) hx hb d_M_isOwnHere_299 rfl hl (by decide) rfl (fun ls hl => ?_)
  refine lv_iload_n hx hb d_M_isOwnHere_300 rfl (lv_at hl 0 rfl) ?_
  refine lv_if_ne (tgt := 337) hx hb d_M_isOwnHere_301 (by decide) (fun cd => ?_) (fun cd => ?_)
  · have hf := if_e cd hf
    exact t_M_isOwnHere_337 C  hf w (lv_sub hl [] rfl)
  · have hf := it_e cd hf
    refine lv_aload_n hx hb d_M_isOwnHere_304 rfl (lv_at hl 1 rfl) ?_
    refine lv_aload_n hx hb d_M_isOwnHere_305 rfl (lv_at hl 1 rfl) ?_
    refine mg_0_allWord C w k1128 d_M_isOwnHere_306 ?_
    obtain ⟨r_2, σ_3, h_1, hf⟩ := bd_e hf
    refine k_callV (As := [.ref (q (1 + 24))]) (rest := []) C w (c_M_isHere (q := q) (j := 24) (by decide) h_1) cv_M_isHere k1370 (mr_0 C w) (by decide) hl.1 rfl (Nat.le_of_ble_eq_true rfl) d_M_isOwnHere_309 (fun H locs w => ?_)
    show WK p l e s m av below meth c 2 g (wM g q) A (some (.int r)) σ2 H locs (F0 m 312 ls [.int r_2])
    refine lv_if_ne (tgt := 337) hx hb d_M_isOwnHere_312 (by decide) (fun cd => ?_) (fun cd => ?_)
    · have hf := if_e cd hf
      exact t_M_isOwnHere_337 C  hf w (lv_sub hl [] rfl)
    · have hf := it_e cd hf
      refine lv_aload_n hx hb d_M_isOwnHere_315 rfl (lv_at hl 1 rfl) ?_
      refine lv_aload_n hx hb d_M_isOwnHere_316 rfl (lv_at hl 1 rfl) ?_
      refine mg_0_minWord C w k1129 d_M_isOwnHere_317 ?_
      obtain ⟨r_5, σ_6, h_4, hf⟩ := bd_e hf
      refine k_callV (As := [.ref (q (1 + 25))]) (rest := []) C w (c_M_isHere (q := q) (j := 25) (by decide) h_4) cv_M_isHere k1370 (mr_0 C w) (by decide) hl.1 rfl (Nat.le_of_ble_eq_true rfl) d_M_isOwnHere_320 (fun H locs w => ?_)
      show WK p l e s m av below meth c 2 g (wM g q) A (some (.int r)) σ2 H locs (F0 m 323 ls [.int r_5])
      refine lv_if_ne (tgt := 337) hx hb d_M_isOwnHere_323 (by decide) (fun cd => ?_) (fun cd => ?_)
      · have hf := if_e cd hf
        exact t_M_isOwnHere_337 C  hf w (lv_sub hl [] rfl)
      · have hf := it_e cd hf
        refine lv_aload_n hx hb d_M_isOwnHere_326 rfl (lv_at hl 1 rfl) ?_
        refine lv_aload_n hx hb d_M_isOwnHere_327 rfl (lv_at hl 1 rfl) ?_
        refine mg_0_maxWord C w k1130 d_M_isOwnHere_328 ?_
        obtain ⟨r_8, σ_9, h_7, hf⟩ := bd_e hf
        refine k_callV (As := [.ref (q (1 + 26))]) (rest := []) C w (c_M_isHere (q := q) (j := 26) (by decide) h_7) cv_M_isHere k1370 (mr_0 C w) (by decide) hl.1 rfl (Nat.le_of_ble_eq_true rfl) d_M_isOwnHere_331 (fun H locs w => ?_)
        show WK p l e s m av below meth c 2 g (wM g q) A (some (.int r)) σ2 H locs (F0 m 334 ls [.int r_8])
        refine lv_if_eq (tgt := 341) hx hb d_M_isOwnHere_334 (by decide) (fun cd => ?_) (fun cd => ?_)
        · have hf := it_e cd hf
          refine lv_iconst (v := 0) hx hb d_M_isOwnHere_341 (by decide) ?_
          refine lv_istore_n (lv' := [(1, .int 0), (0, .ref (q 0))]) hx hb d_M_isOwnHere_342 rfl hl (by decide) rfl (fun ls hl => ?_)
          refine lv_iload_n hx hb d_M_isOwnHere_343 rfl (lv_at hl 0 rfl) ?_
          obtain ⟨rfl, rfl⟩ := some2_e hf
          exact k_zret C w (by decide) d_M_isOwnHere_344
        · have hf := if_e cd hf
          exact t_M_isOwnHere_337 C  hf w (lv_sub hl [] rfl)
set_option maxHeartbeats 4000000 in
set_option maxRecDepth 20000 in
theorem t_M_isOwnHere_294 {r : Int32} {σ2 : St} (C : Cx g A p s m av meth c prog_13_method_15_code 2 "BellHammerModel" (some .boolean))  {σ : St} {H : Heap} {locs : List Loc} {ls : Array Slot} (hf : f_M_isOwnHere_294    σ = some (r, σ2)) (w : Wd g (wM g q) A s σ H locs) (hl : lv_has ls 2 [(0, .ref (q 0))]) : WK p l e s m av below meth c 2 g (wM g q) A (some (.int r)) σ2 H locs (F0 m 294 ls []) := by
  obtain ⟨hx, hb, hml, hown, hts, hK, hA, hZ, hlocks, hr, hN⟩ := id C
  unfold f_M_isOwnHere_294 at hf
  refine lv_iconst (v := 1) hx hb d_M_isOwnHere_294 (by decide) ?_
  refine lv_goto (tgt := 299) hx hb d_M_isOwnHere_295 (by decide) ?_
  exact t_M_isOwnHere_299 C  hf w (lv_sub hl [0] rfl)
set_option maxHeartbeats 4000000 in
set_option maxRecDepth 20000 in
theorem t_M_isOwnHere_223 {r : Int32} {σ2 : St} (C : Cx g A p s m av meth c prog_13_method_15_code 2 "BellHammerModel" (some .boolean))  {t0 : Int32} {σ : St} {H : Heap} {locs : List Loc} {ls : Array Slot} (hf : f_M_isOwnHere_223   t0 σ = some (r, σ2)) (w : Wd g (wM g q) A s σ H locs) (hl : lv_has ls 2 [(0, .ref (q 0))]) : WK p l e s m av below meth c 2 g (wM g q) A (some (.int r)) σ2 H locs (F0 m 223 ls [.int t0]) := by
  obtain ⟨hx, hb, hml, hown, hts, hK, hA, hZ, hlocks, hr, hN⟩ := id C
  unfold f_M_isOwnHere_223 at hf
  refine lv_istore_n (lv' := [(1, .int t0), (0, .ref (q 0))]) hx hb d_M_isOwnHere_223 rfl hl (by decide) rfl (fun ls hl => ?_)
  refine lv_iload_n hx hb d_M_isOwnHere_224 rfl (lv_at hl 0 rfl) ?_
  refine lv_if_ne (tgt := 294) hx hb d_M_isOwnHere_225 (by decide) (fun cd => ?_) (fun cd => ?_)
  · have hf := if_e cd hf
    exact t_M_isOwnHere_294 C  hf w (lv_sub hl [1] rfl)
  · have hf := it_e cd hf
    refine lv_aload_n hx hb d_M_isOwnHere_228 rfl (lv_at hl 1 rfl) ?_
    refine lv_aload_n hx hb d_M_isOwnHere_229 rfl (lv_at hl 1 rfl) ?_
    refine mg_0_triedWord C w k1122 d_M_isOwnHere_230 ?_
    obtain ⟨r_2, σ_3, h_1, hf⟩ := bd_e hf
    refine k_callV (As := [.ref (q (1 + 18))]) (rest := []) C w (c_M_isHere (q := q) (j := 18) (by decide) h_1) cv_M_isHere k1370 (mr_0 C w) (by decide) hl.1 rfl (Nat.le_of_ble_eq_true rfl) d_M_isOwnHere_233 (fun H locs w => ?_)
    show WK p l e s m av below meth c 2 g (wM g q) A (some (.int r)) σ2 H locs (F0 m 236 ls [.int r_2])
    refine lv_if_ne (tgt := 294) hx hb d_M_isOwnHere_236 (by decide) (fun cd => ?_) (fun cd => ?_)
    · have hf := if_e cd hf
      exact t_M_isOwnHere_294 C  hf w (lv_sub hl [1] rfl)
    · have hf := it_e cd hf
      refine lv_aload_n hx hb d_M_isOwnHere_239 rfl (lv_at hl 1 rfl) ?_
      refine lv_aload_n hx hb d_M_isOwnHere_240 rfl (lv_at hl 1 rfl) ?_
      refine mg_0_lastWord C w k1123 d_M_isOwnHere_241 ?_
      obtain ⟨r_5, σ_6, h_4, hf⟩ := bd_e hf
      refine k_callV (As := [.ref (q (1 + 19))]) (rest := []) C w (c_M_isHere (q := q) (j := 19) (by decide) h_4) cv_M_isHere k1370 (mr_0 C w) (by decide) hl.1 rfl (Nat.le_of_ble_eq_true rfl) d_M_isOwnHere_244 (fun H locs w => ?_)
      show WK p l e s m av below meth c 2 g (wM g q) A (some (.int r)) σ2 H locs (F0 m 247 ls [.int r_5])
      refine lv_if_ne (tgt := 294) hx hb d_M_isOwnHere_247 (by decide) (fun cd => ?_) (fun cd => ?_)
      · have hf := if_e cd hf
        exact t_M_isOwnHere_294 C  hf w (lv_sub hl [1] rfl)
      · have hf := it_e cd hf
        refine lv_aload_n hx hb d_M_isOwnHere_250 rfl (lv_at hl 1 rfl) ?_
        refine lv_aload_n hx hb d_M_isOwnHere_251 rfl (lv_at hl 1 rfl) ?_
        refine mg_0_ringsWord C w k1124 d_M_isOwnHere_252 ?_
        obtain ⟨r_8, σ_9, h_7, hf⟩ := bd_e hf
        refine k_callV (As := [.ref (q (1 + 20))]) (rest := []) C w (c_M_isHere (q := q) (j := 20) (by decide) h_7) cv_M_isHere k1370 (mr_0 C w) (by decide) hl.1 rfl (Nat.le_of_ble_eq_true rfl) d_M_isOwnHere_255 (fun H locs w => ?_)
        show WK p l e s m av below meth c 2 g (wM g q) A (some (.int r)) σ2 H locs (F0 m 258 ls [.int r_8])
        refine lv_if_ne (tgt := 294) hx hb d_M_isOwnHere_258 (by decide) (fun cd => ?_) (fun cd => ?_)
        · have hf := if_e cd hf
          exact t_M_isOwnHere_294 C  hf w (lv_sub hl [1] rfl)
        · have hf := it_e cd hf
          refine lv_aload_n hx hb d_M_isOwnHere_261 rfl (lv_at hl 1 rfl) ?_
          refine lv_aload_n hx hb d_M_isOwnHere_262 rfl (lv_at hl 1 rfl) ?_
          refine mg_0_orWord C w k1125 d_M_isOwnHere_263 ?_
          obtain ⟨r_11, σ_12, h_10, hf⟩ := bd_e hf
          refine k_callV (As := [.ref (q (1 + 21))]) (rest := []) C w (c_M_isHere (q := q) (j := 21) (by decide) h_10) cv_M_isHere k1370 (mr_0 C w) (by decide) hl.1 rfl (Nat.le_of_ble_eq_true rfl) d_M_isOwnHere_266 (fun H locs w => ?_)
          show WK p l e s m av below meth c 2 g (wM g q) A (some (.int r)) σ2 H locs (F0 m 269 ls [.int r_11])
          refine lv_if_ne (tgt := 294) hx hb d_M_isOwnHere_269 (by decide) (fun cd => ?_) (fun cd => ?_)
          · have hf := if_e cd hf
            exact t_M_isOwnHere_294 C  hf w (lv_sub hl [1] rfl)
          · have hf := it_e cd hf
            refine lv_aload_n hx hb d_M_isOwnHere_272 rfl (lv_at hl 1 rfl) ?_
            refine lv_aload_n hx hb d_M_isOwnHere_273 rfl (lv_at hl 1 rfl) ?_
            refine mg_0_andWord C w k1126 d_M_isOwnHere_274 ?_
            obtain ⟨r_14, σ_15, h_13, hf⟩ := bd_e hf
            refine k_callV (As := [.ref (q (1 + 22))]) (rest := []) C w (c_M_isHere (q := q) (j := 22) (by decide) h_13) cv_M_isHere k1370 (mr_0 C w) (by decide) hl.1 rfl (Nat.le_of_ble_eq_true rfl) d_M_isOwnHere_277 (fun H locs w => ?_)
            show WK p l e s m av below meth c 2 g (wM g q) A (some (.int r)) σ2 H locs (F0 m 280 ls [.int r_14])
            refine lv_if_ne (tgt := 294) hx hb d_M_isOwnHere_280 (by decide) (fun cd => ?_) (fun cd => ?_)
            · have hf := if_e cd hf
              exact t_M_isOwnHere_294 C  hf w (lv_sub hl [1] rfl)
            · have hf := it_e cd hf
              refine lv_aload_n hx hb d_M_isOwnHere_283 rfl (lv_at hl 1 rfl) ?_
              refine lv_aload_n hx hb d_M_isOwnHere_284 rfl (lv_at hl 1 rfl) ?_
              refine mg_0_notWord C w k1127 d_M_isOwnHere_285 ?_
              obtain ⟨r_17, σ_18, h_16, hf⟩ := bd_e hf
              refine k_callV (As := [.ref (q (1 + 23))]) (rest := []) C w (c_M_isHere (q := q) (j := 23) (by decide) h_16) cv_M_isHere k1370 (mr_0 C w) (by decide) hl.1 rfl (Nat.le_of_ble_eq_true rfl) d_M_isOwnHere_288 (fun H locs w => ?_)
              show WK p l e s m av below meth c 2 g (wM g q) A (some (.int r)) σ2 H locs (F0 m 291 ls [.int r_17])
              refine lv_if_eq (tgt := 298) hx hb d_M_isOwnHere_291 (by decide) (fun cd => ?_) (fun cd => ?_)
              · have hf := it_e cd hf
                refine lv_iconst (v := 0) hx hb d_M_isOwnHere_298 (by decide) ?_
                exact t_M_isOwnHere_299 C  hf w (lv_sub hl [1] rfl)
              · have hf := if_e cd hf
                exact t_M_isOwnHere_294 C  hf w (lv_sub hl [1] rfl)
set_option maxHeartbeats 4000000 in
set_option maxRecDepth 20000 in
theorem t_M_isOwnHere_218 {r : Int32} {σ2 : St} (C : Cx g A p s m av meth c prog_13_method_15_code 2 "BellHammerModel" (some .boolean))  {σ : St} {H : Heap} {locs : List Loc} {ls : Array Slot} (hf : f_M_isOwnHere_218    σ = some (r, σ2)) (w : Wd g (wM g q) A s σ H locs) (hl : lv_has ls 2 [(0, .ref (q 0))]) : WK p l e s m av below meth c 2 g (wM g q) A (some (.int r)) σ2 H locs (F0 m 218 ls []) := by
  obtain ⟨hx, hb, hml, hown, hts, hK, hA, hZ, hlocks, hr, hN⟩ := id C
  unfold f_M_isOwnHere_218 at hf
  refine lv_iconst (v := 1) hx hb d_M_isOwnHere_218 (by decide) ?_
  refine lv_goto (tgt := 223) hx hb d_M_isOwnHere_219 (by decide) ?_
  exact t_M_isOwnHere_223 C  hf w (lv_sub hl [0] rfl)
set_option maxHeartbeats 4000000 in
set_option maxRecDepth 20000 in
theorem t_M_isOwnHere_147 {r : Int32} {σ2 : St} (C : Cx g A p s m av meth c prog_13_method_15_code 2 "BellHammerModel" (some .boolean))  {t0 : Int32} {σ : St} {H : Heap} {locs : List Loc} {ls : Array Slot} (hf : f_M_isOwnHere_147   t0 σ = some (r, σ2)) (w : Wd g (wM g q) A s σ H locs) (hl : lv_has ls 2 [(0, .ref (q 0))]) : WK p l e s m av below meth c 2 g (wM g q) A (some (.int r)) σ2 H locs (F0 m 147 ls [.int t0]) := by
  obtain ⟨hx, hb, hml, hown, hts, hK, hA, hZ, hlocks, hr, hN⟩ := id C
  unfold f_M_isOwnHere_147 at hf
  refine lv_istore_n (lv' := [(1, .int t0), (0, .ref (q 0))]) hx hb d_M_isOwnHere_147 rfl hl (by decide) rfl (fun ls hl => ?_)
  refine lv_iload_n hx hb d_M_isOwnHere_148 rfl (lv_at hl 0 rfl) ?_
  refine lv_if_ne (tgt := 218) hx hb d_M_isOwnHere_149 (by decide) (fun cd => ?_) (fun cd => ?_)
  · have hf := if_e cd hf
    exact t_M_isOwnHere_218 C  hf w (lv_sub hl [1] rfl)
  · have hf := it_e cd hf
    refine lv_aload_n hx hb d_M_isOwnHere_152 rfl (lv_at hl 1 rfl) ?_
    refine lv_aload_n hx hb d_M_isOwnHere_153 rfl (lv_at hl 1 rfl) ?_
    refine mg_0_priceWord C w k1116 d_M_isOwnHere_154 ?_
    obtain ⟨r_2, σ_3, h_1, hf⟩ := bd_e hf
    refine k_callV (As := [.ref (q (1 + 12))]) (rest := []) C w (c_M_isHere (q := q) (j := 12) (by decide) h_1) cv_M_isHere k1370 (mr_0 C w) (by decide) hl.1 rfl (Nat.le_of_ble_eq_true rfl) d_M_isOwnHere_157 (fun H locs w => ?_)
    show WK p l e s m av below meth c 2 g (wM g q) A (some (.int r)) σ2 H locs (F0 m 160 ls [.int r_2])
    refine lv_if_ne (tgt := 218) hx hb d_M_isOwnHere_160 (by decide) (fun cd => ?_) (fun cd => ?_)
    · have hf := if_e cd hf
      exact t_M_isOwnHere_218 C  hf w (lv_sub hl [1] rfl)
    · have hf := it_e cd hf
      refine lv_aload_n hx hb d_M_isOwnHere_163 rfl (lv_at hl 1 rfl) ?_
      refine lv_aload_n hx hb d_M_isOwnHere_164 rfl (lv_at hl 1 rfl) ?_
      refine mg_0_triesWord C w k1117 d_M_isOwnHere_165 ?_
      obtain ⟨r_5, σ_6, h_4, hf⟩ := bd_e hf
      refine k_callV (As := [.ref (q (1 + 13))]) (rest := []) C w (c_M_isHere (q := q) (j := 13) (by decide) h_4) cv_M_isHere k1370 (mr_0 C w) (by decide) hl.1 rfl (Nat.le_of_ble_eq_true rfl) d_M_isOwnHere_168 (fun H locs w => ?_)
      show WK p l e s m av below meth c 2 g (wM g q) A (some (.int r)) σ2 H locs (F0 m 171 ls [.int r_5])
      refine lv_if_ne (tgt := 218) hx hb d_M_isOwnHere_171 (by decide) (fun cd => ?_) (fun cd => ?_)
      · have hf := if_e cd hf
        exact t_M_isOwnHere_218 C  hf w (lv_sub hl [1] rfl)
      · have hf := it_e cd hf
        refine lv_aload_n hx hb d_M_isOwnHere_174 rfl (lv_at hl 1 rfl) ?_
        refine lv_aload_n hx hb d_M_isOwnHere_175 rfl (lv_at hl 1 rfl) ?_
        refine mg_0_slackWord C w k1118 d_M_isOwnHere_176 ?_
        obtain ⟨r_8, σ_9, h_7, hf⟩ := bd_e hf
        refine k_callV (As := [.ref (q (1 + 14))]) (rest := []) C w (c_M_isHere (q := q) (j := 14) (by decide) h_7) cv_M_isHere k1370 (mr_0 C w) (by decide) hl.1 rfl (Nat.le_of_ble_eq_true rfl) d_M_isOwnHere_179 (fun H locs w => ?_)
        show WK p l e s m av below meth c 2 g (wM g q) A (some (.int r)) σ2 H locs (F0 m 182 ls [.int r_8])
        refine lv_if_ne (tgt := 218) hx hb d_M_isOwnHere_182 (by decide) (fun cd => ?_) (fun cd => ?_)
        · have hf := if_e cd hf
          exact t_M_isOwnHere_218 C  hf w (lv_sub hl [1] rfl)
        · have hf := it_e cd hf
          refine lv_aload_n hx hb d_M_isOwnHere_185 rfl (lv_at hl 1 rfl) ?_
          refine lv_aload_n hx hb d_M_isOwnHere_186 rfl (lv_at hl 1 rfl) ?_
          refine mg_0_crowdWord C w k1119 d_M_isOwnHere_187 ?_
          obtain ⟨r_11, σ_12, h_10, hf⟩ := bd_e hf
          refine k_callV (As := [.ref (q (1 + 15))]) (rest := []) C w (c_M_isHere (q := q) (j := 15) (by decide) h_10) cv_M_isHere k1370 (mr_0 C w) (by decide) hl.1 rfl (Nat.le_of_ble_eq_true rfl) d_M_isOwnHere_190 (fun H locs w => ?_)
          show WK p l e s m av below meth c 2 g (wM g q) A (some (.int r)) σ2 H locs (F0 m 193 ls [.int r_11])
          refine lv_if_ne (tgt := 218) hx hb d_M_isOwnHere_193 (by decide) (fun cd => ?_) (fun cd => ?_)
          · have hf := if_e cd hf
            exact t_M_isOwnHere_218 C  hf w (lv_sub hl [1] rfl)
          · have hf := it_e cd hf
            refine lv_aload_n hx hb d_M_isOwnHere_196 rfl (lv_at hl 1 rfl) ?_
            refine lv_aload_n hx hb d_M_isOwnHere_197 rfl (lv_at hl 1 rfl) ?_
            refine mg_0_nearWord C w k1120 d_M_isOwnHere_198 ?_
            obtain ⟨r_14, σ_15, h_13, hf⟩ := bd_e hf
            refine k_callV (As := [.ref (q (1 + 16))]) (rest := []) C w (c_M_isHere (q := q) (j := 16) (by decide) h_13) cv_M_isHere k1370 (mr_0 C w) (by decide) hl.1 rfl (Nat.le_of_ble_eq_true rfl) d_M_isOwnHere_201 (fun H locs w => ?_)
            show WK p l e s m av below meth c 2 g (wM g q) A (some (.int r)) σ2 H locs (F0 m 204 ls [.int r_14])
            refine lv_if_ne (tgt := 218) hx hb d_M_isOwnHere_204 (by decide) (fun cd => ?_) (fun cd => ?_)
            · have hf := if_e cd hf
              exact t_M_isOwnHere_218 C  hf w (lv_sub hl [1] rfl)
            · have hf := it_e cd hf
              refine lv_aload_n hx hb d_M_isOwnHere_207 rfl (lv_at hl 1 rfl) ?_
              refine lv_aload_n hx hb d_M_isOwnHere_208 rfl (lv_at hl 1 rfl) ?_
              refine mg_0_comesWord C w k1121 d_M_isOwnHere_209 ?_
              obtain ⟨r_17, σ_18, h_16, hf⟩ := bd_e hf
              refine k_callV (As := [.ref (q (1 + 17))]) (rest := []) C w (c_M_isHere (q := q) (j := 17) (by decide) h_16) cv_M_isHere k1370 (mr_0 C w) (by decide) hl.1 rfl (Nat.le_of_ble_eq_true rfl) d_M_isOwnHere_212 (fun H locs w => ?_)
              show WK p l e s m av below meth c 2 g (wM g q) A (some (.int r)) σ2 H locs (F0 m 215 ls [.int r_17])
              refine lv_if_eq (tgt := 222) hx hb d_M_isOwnHere_215 (by decide) (fun cd => ?_) (fun cd => ?_)
              · have hf := it_e cd hf
                refine lv_iconst (v := 0) hx hb d_M_isOwnHere_222 (by decide) ?_
                exact t_M_isOwnHere_223 C  hf w (lv_sub hl [1] rfl)
              · have hf := if_e cd hf
                exact t_M_isOwnHere_218 C  hf w (lv_sub hl [1] rfl)
set_option maxHeartbeats 4000000 in
set_option maxRecDepth 20000 in
theorem t_M_isOwnHere_142 {r : Int32} {σ2 : St} (C : Cx g A p s m av meth c prog_13_method_15_code 2 "BellHammerModel" (some .boolean))  {σ : St} {H : Heap} {locs : List Loc} {ls : Array Slot} (hf : f_M_isOwnHere_142    σ = some (r, σ2)) (w : Wd g (wM g q) A s σ H locs) (hl : lv_has ls 2 [(0, .ref (q 0))]) : WK p l e s m av below meth c 2 g (wM g q) A (some (.int r)) σ2 H locs (F0 m 142 ls []) := by
  obtain ⟨hx, hb, hml, hown, hts, hK, hA, hZ, hlocks, hr, hN⟩ := id C
  unfold f_M_isOwnHere_142 at hf
  refine lv_iconst (v := 1) hx hb d_M_isOwnHere_142 (by decide) ?_
  refine lv_goto (tgt := 147) hx hb d_M_isOwnHere_143 (by decide) ?_
  exact t_M_isOwnHere_147 C  hf w (lv_sub hl [0] rfl)
set_option maxHeartbeats 4000000 in
set_option maxRecDepth 20000 in
theorem t_M_isOwnHere_71 {r : Int32} {σ2 : St} (C : Cx g A p s m av meth c prog_13_method_15_code 2 "BellHammerModel" (some .boolean))  {t0 : Int32} {σ : St} {H : Heap} {locs : List Loc} {ls : Array Slot} (hf : f_M_isOwnHere_71   t0 σ = some (r, σ2)) (w : Wd g (wM g q) A s σ H locs) (hl : lv_has ls 2 [(0, .ref (q 0))]) : WK p l e s m av below meth c 2 g (wM g q) A (some (.int r)) σ2 H locs (F0 m 71 ls [.int t0]) := by
  obtain ⟨hx, hb, hml, hown, hts, hK, hA, hZ, hlocks, hr, hN⟩ := id C
  unfold f_M_isOwnHere_71 at hf
  refine lv_istore_n (lv' := [(1, .int t0), (0, .ref (q 0))]) hx hb d_M_isOwnHere_71 rfl hl (by decide) rfl (fun ls hl => ?_)
  refine lv_iload_n hx hb d_M_isOwnHere_72 rfl (lv_at hl 0 rfl) ?_
  refine lv_if_ne (tgt := 142) hx hb d_M_isOwnHere_73 (by decide) (fun cd => ?_) (fun cd => ?_)
  · have hf := if_e cd hf
    exact t_M_isOwnHere_142 C  hf w (lv_sub hl [1] rfl)
  · have hf := it_e cd hf
    refine lv_aload_n hx hb d_M_isOwnHere_76 rfl (lv_at hl 1 rfl) ?_
    refine lv_aload_n hx hb d_M_isOwnHere_77 rfl (lv_at hl 1 rfl) ?_
    refine mg_0_coinsWord C w k1110 d_M_isOwnHere_78 ?_
    obtain ⟨r_2, σ_3, h_1, hf⟩ := bd_e hf
    refine k_callV (As := [.ref (q (1 + 6))]) (rest := []) C w (c_M_isHere (q := q) (j := 6) (by decide) h_1) cv_M_isHere k1370 (mr_0 C w) (by decide) hl.1 rfl (Nat.le_of_ble_eq_true rfl) d_M_isOwnHere_81 (fun H locs w => ?_)
    show WK p l e s m av below meth c 2 g (wM g q) A (some (.int r)) σ2 H locs (F0 m 84 ls [.int r_2])
    refine lv_if_ne (tgt := 142) hx hb d_M_isOwnHere_84 (by decide) (fun cd => ?_) (fun cd => ?_)
    · have hf := if_e cd hf
      exact t_M_isOwnHere_142 C  hf w (lv_sub hl [1] rfl)
    · have hf := it_e cd hf
      refine lv_aload_n hx hb d_M_isOwnHere_87 rfl (lv_at hl 1 rfl) ?_
      refine lv_aload_n hx hb d_M_isOwnHere_88 rfl (lv_at hl 1 rfl) ?_
      refine mg_0_staysWord C w k1111 d_M_isOwnHere_89 ?_
      obtain ⟨r_5, σ_6, h_4, hf⟩ := bd_e hf
      refine k_callV (As := [.ref (q (1 + 7))]) (rest := []) C w (c_M_isHere (q := q) (j := 7) (by decide) h_4) cv_M_isHere k1370 (mr_0 C w) (by decide) hl.1 rfl (Nat.le_of_ble_eq_true rfl) d_M_isOwnHere_92 (fun H locs w => ?_)
      show WK p l e s m av below meth c 2 g (wM g q) A (some (.int r)) σ2 H locs (F0 m 95 ls [.int r_5])
      refine lv_if_ne (tgt := 142) hx hb d_M_isOwnHere_95 (by decide) (fun cd => ?_) (fun cd => ?_)
      · have hf := if_e cd hf
        exact t_M_isOwnHere_142 C  hf w (lv_sub hl [1] rfl)
      · have hf := it_e cd hf
        refine lv_aload_n hx hb d_M_isOwnHere_98 rfl (lv_at hl 1 rfl) ?_
        refine lv_aload_n hx hb d_M_isOwnHere_99 rfl (lv_at hl 1 rfl) ?_
        refine mg_0_ladyWord C w k1112 d_M_isOwnHere_100 ?_
        obtain ⟨r_8, σ_9, h_7, hf⟩ := bd_e hf
        refine k_callV (As := [.ref (q (1 + 8))]) (rest := []) C w (c_M_isHere (q := q) (j := 8) (by decide) h_7) cv_M_isHere k1370 (mr_0 C w) (by decide) hl.1 rfl (Nat.le_of_ble_eq_true rfl) d_M_isOwnHere_103 (fun H locs w => ?_)
        show WK p l e s m av below meth c 2 g (wM g q) A (some (.int r)) σ2 H locs (F0 m 106 ls [.int r_8])
        refine lv_if_ne (tgt := 142) hx hb d_M_isOwnHere_106 (by decide) (fun cd => ?_) (fun cd => ?_)
        · have hf := if_e cd hf
          exact t_M_isOwnHere_142 C  hf w (lv_sub hl [1] rfl)
        · have hf := it_e cd hf
          refine lv_aload_n hx hb d_M_isOwnHere_109 rfl (lv_at hl 1 rfl) ?_
          refine lv_aload_n hx hb d_M_isOwnHere_110 rfl (lv_at hl 1 rfl) ?_
          refine mg_0_leanWord C w k1113 d_M_isOwnHere_111 ?_
          obtain ⟨r_11, σ_12, h_10, hf⟩ := bd_e hf
          refine k_callV (As := [.ref (q (1 + 9))]) (rest := []) C w (c_M_isHere (q := q) (j := 9) (by decide) h_10) cv_M_isHere k1370 (mr_0 C w) (by decide) hl.1 rfl (Nat.le_of_ble_eq_true rfl) d_M_isOwnHere_114 (fun H locs w => ?_)
          show WK p l e s m av below meth c 2 g (wM g q) A (some (.int r)) σ2 H locs (F0 m 117 ls [.int r_11])
          refine lv_if_ne (tgt := 142) hx hb d_M_isOwnHere_117 (by decide) (fun cd => ?_) (fun cd => ?_)
          · have hf := if_e cd hf
            exact t_M_isOwnHere_142 C  hf w (lv_sub hl [1] rfl)
          · have hf := it_e cd hf
            refine lv_aload_n hx hb d_M_isOwnHere_120 rfl (lv_at hl 1 rfl) ?_
            refine lv_aload_n hx hb d_M_isOwnHere_121 rfl (lv_at hl 1 rfl) ?_
            refine mg_0_whenWord C w k1114 d_M_isOwnHere_122 ?_
            obtain ⟨r_14, σ_15, h_13, hf⟩ := bd_e hf
            refine k_callV (As := [.ref (q (1 + 10))]) (rest := []) C w (c_M_isHere (q := q) (j := 10) (by decide) h_13) cv_M_isHere k1370 (mr_0 C w) (by decide) hl.1 rfl (Nat.le_of_ble_eq_true rfl) d_M_isOwnHere_125 (fun H locs w => ?_)
            show WK p l e s m av below meth c 2 g (wM g q) A (some (.int r)) σ2 H locs (F0 m 128 ls [.int r_14])
            refine lv_if_ne (tgt := 142) hx hb d_M_isOwnHere_128 (by decide) (fun cd => ?_) (fun cd => ?_)
            · have hf := if_e cd hf
              exact t_M_isOwnHere_142 C  hf w (lv_sub hl [1] rfl)
            · have hf := it_e cd hf
              refine lv_aload_n hx hb d_M_isOwnHere_131 rfl (lv_at hl 1 rfl) ?_
              refine lv_aload_n hx hb d_M_isOwnHere_132 rfl (lv_at hl 1 rfl) ?_
              refine mg_0_bellWord C w k1115 d_M_isOwnHere_133 ?_
              obtain ⟨r_17, σ_18, h_16, hf⟩ := bd_e hf
              refine k_callV (As := [.ref (q (1 + 11))]) (rest := []) C w (c_M_isHere (q := q) (j := 11) (by decide) h_16) cv_M_isHere k1370 (mr_0 C w) (by decide) hl.1 rfl (Nat.le_of_ble_eq_true rfl) d_M_isOwnHere_136 (fun H locs w => ?_)
              show WK p l e s m av below meth c 2 g (wM g q) A (some (.int r)) σ2 H locs (F0 m 139 ls [.int r_17])
              refine lv_if_eq (tgt := 146) hx hb d_M_isOwnHere_139 (by decide) (fun cd => ?_) (fun cd => ?_)
              · have hf := it_e cd hf
                refine lv_iconst (v := 0) hx hb d_M_isOwnHere_146 (by decide) ?_
                exact t_M_isOwnHere_147 C  hf w (lv_sub hl [1] rfl)
              · have hf := if_e cd hf
                exact t_M_isOwnHere_142 C  hf w (lv_sub hl [1] rfl)
set_option maxHeartbeats 4000000 in
set_option maxRecDepth 20000 in
theorem t_M_isOwnHere_66 {r : Int32} {σ2 : St} (C : Cx g A p s m av meth c prog_13_method_15_code 2 "BellHammerModel" (some .boolean))  {σ : St} {H : Heap} {locs : List Loc} {ls : Array Slot} (hf : f_M_isOwnHere_66    σ = some (r, σ2)) (w : Wd g (wM g q) A s σ H locs) (hl : lv_has ls 2 [(0, .ref (q 0))]) : WK p l e s m av below meth c 2 g (wM g q) A (some (.int r)) σ2 H locs (F0 m 66 ls []) := by
  obtain ⟨hx, hb, hml, hown, hts, hK, hA, hZ, hlocks, hr, hN⟩ := id C
  unfold f_M_isOwnHere_66 at hf
  refine lv_iconst (v := 1) hx hb d_M_isOwnHere_66 (by decide) ?_
  refine lv_goto (tgt := 71) hx hb d_M_isOwnHere_67 (by decide) ?_
  exact t_M_isOwnHere_71 C  hf w (lv_sub hl [0] rfl)
set_option maxHeartbeats 4000000 in
set_option maxRecDepth 20000 in
theorem c_M_isOwnHere {l : Launch} {g : GX} {q : Nat → Nat}  {σ : St} {r : Int32} {σ2 : St} (hf : f_M_isOwnHere   σ = some (r, σ2)) : KK l y_M_isOwnHere prog_13_method_15_code 2 (some .boolean) 2 g (wM g q) σ [.ref (q 0)] (some (.int r)) (wM g q) σ2 := by
  refine KK_of (plainFor_of_name (by decide)) (Nat.le_of_ble_eq_true rfl) (fun p e s m below meth c A ls C w hl => ?_)
  have hl : lv_has ls 2 [(0, .ref (q 0))] := hl
  obtain ⟨hx, hb, hml, hown, hts, hK, hA, hZ, hlocks, hr, hN⟩ := id C
  unfold f_M_isOwnHere at hf
  refine lv_aload_n hx hb d_M_isOwnHere_0 rfl (lv_at hl 0 rfl) ?_
  refine lv_aload_n hx hb d_M_isOwnHere_1 rfl (lv_at hl 0 rfl) ?_
  refine mg_0_markWord C w k1104 d_M_isOwnHere_2 ?_
  obtain ⟨r_2, σ_3, h_1, hf⟩ := bd_e hf
  refine k_callV (As := [.ref (q (1 + 0))]) (rest := []) C w (c_M_isHere (q := q) (j := 0) (by decide) h_1) cv_M_isHere k1370 (mr_0 C w) (by decide) hl.1 rfl (Nat.le_of_ble_eq_true rfl) d_M_isOwnHere_5 (fun H locs w => ?_)
  show WK p l e s m _ below meth c 2 g (wM g q) A (some (.int r)) σ2 H locs (F0 m 8 ls [.int r_2])
  refine lv_if_ne (tgt := 66) hx hb d_M_isOwnHere_8 (by decide) (fun cd => ?_) (fun cd => ?_)
  · have hf := if_e cd hf
    exact t_M_isOwnHere_66 C  hf w (lv_sub hl [0] rfl)
  · have hf := it_e cd hf
    refine lv_aload_n hx hb d_M_isOwnHere_11 rfl (lv_at hl 0 rfl) ?_
    refine lv_aload_n hx hb d_M_isOwnHere_12 rfl (lv_at hl 0 rfl) ?_
    refine mg_0_atWord C w k1105 d_M_isOwnHere_13 ?_
    obtain ⟨r_5, σ_6, h_4, hf⟩ := bd_e hf
    refine k_callV (As := [.ref (q (1 + 1))]) (rest := []) C w (c_M_isHere (q := q) (j := 1) (by decide) h_4) cv_M_isHere k1370 (mr_0 C w) (by decide) hl.1 rfl (Nat.le_of_ble_eq_true rfl) d_M_isOwnHere_16 (fun H locs w => ?_)
    show WK p l e s m _ below meth c 2 g (wM g q) A (some (.int r)) σ2 H locs (F0 m 19 ls [.int r_5])
    refine lv_if_ne (tgt := 66) hx hb d_M_isOwnHere_19 (by decide) (fun cd => ?_) (fun cd => ?_)
    · have hf := if_e cd hf
      exact t_M_isOwnHere_66 C  hf w (lv_sub hl [0] rfl)
    · have hf := it_e cd hf
      refine lv_aload_n hx hb d_M_isOwnHere_22 rfl (lv_at hl 0 rfl) ?_
      refine lv_aload_n hx hb d_M_isOwnHere_23 rfl (lv_at hl 0 rfl) ?_
      refine mg_0_trierWord C w k1106 d_M_isOwnHere_24 ?_
      obtain ⟨r_8, σ_9, h_7, hf⟩ := bd_e hf
      refine k_callV (As := [.ref (q (1 + 2))]) (rest := []) C w (c_M_isHere (q := q) (j := 2) (by decide) h_7) cv_M_isHere k1370 (mr_0 C w) (by decide) hl.1 rfl (Nat.le_of_ble_eq_true rfl) d_M_isOwnHere_27 (fun H locs w => ?_)
      show WK p l e s m _ below meth c 2 g (wM g q) A (some (.int r)) σ2 H locs (F0 m 30 ls [.int r_8])
      refine lv_if_ne (tgt := 66) hx hb d_M_isOwnHere_30 (by decide) (fun cd => ?_) (fun cd => ?_)
      · have hf := if_e cd hf
        exact t_M_isOwnHere_66 C  hf w (lv_sub hl [0] rfl)
      · have hf := it_e cd hf
        refine lv_aload_n hx hb d_M_isOwnHere_33 rfl (lv_at hl 0 rfl) ?_
        refine lv_aload_n hx hb d_M_isOwnHere_34 rfl (lv_at hl 0 rfl) ?_
        refine mg_0_forceWord C w k1107 d_M_isOwnHere_35 ?_
        obtain ⟨r_11, σ_12, h_10, hf⟩ := bd_e hf
        refine k_callV (As := [.ref (q (1 + 3))]) (rest := []) C w (c_M_isHere (q := q) (j := 3) (by decide) h_10) cv_M_isHere k1370 (mr_0 C w) (by decide) hl.1 rfl (Nat.le_of_ble_eq_true rfl) d_M_isOwnHere_38 (fun H locs w => ?_)
        show WK p l e s m _ below meth c 2 g (wM g q) A (some (.int r)) σ2 H locs (F0 m 41 ls [.int r_11])
        refine lv_if_ne (tgt := 66) hx hb d_M_isOwnHere_41 (by decide) (fun cd => ?_) (fun cd => ?_)
        · have hf := if_e cd hf
          exact t_M_isOwnHere_66 C  hf w (lv_sub hl [0] rfl)
        · have hf := it_e cd hf
          refine lv_aload_n hx hb d_M_isOwnHere_44 rfl (lv_at hl 0 rfl) ?_
          refine lv_aload_n hx hb d_M_isOwnHere_45 rfl (lv_at hl 0 rfl) ?_
          refine mg_0_aimWord C w k1108 d_M_isOwnHere_46 ?_
          obtain ⟨r_14, σ_15, h_13, hf⟩ := bd_e hf
          refine k_callV (As := [.ref (q (1 + 4))]) (rest := []) C w (c_M_isHere (q := q) (j := 4) (by decide) h_13) cv_M_isHere k1370 (mr_0 C w) (by decide) hl.1 rfl (Nat.le_of_ble_eq_true rfl) d_M_isOwnHere_49 (fun H locs w => ?_)
          show WK p l e s m _ below meth c 2 g (wM g q) A (some (.int r)) σ2 H locs (F0 m 52 ls [.int r_14])
          refine lv_if_ne (tgt := 66) hx hb d_M_isOwnHere_52 (by decide) (fun cd => ?_) (fun cd => ?_)
          · have hf := if_e cd hf
            exact t_M_isOwnHere_66 C  hf w (lv_sub hl [0] rfl)
          · have hf := it_e cd hf
            refine lv_aload_n hx hb d_M_isOwnHere_55 rfl (lv_at hl 0 rfl) ?_
            refine lv_aload_n hx hb d_M_isOwnHere_56 rfl (lv_at hl 0 rfl) ?_
            refine mg_0_tiresWord C w k1109 d_M_isOwnHere_57 ?_
            obtain ⟨r_17, σ_18, h_16, hf⟩ := bd_e hf
            refine k_callV (As := [.ref (q (1 + 5))]) (rest := []) C w (c_M_isHere (q := q) (j := 5) (by decide) h_16) cv_M_isHere k1370 (mr_0 C w) (by decide) hl.1 rfl (Nat.le_of_ble_eq_true rfl) d_M_isOwnHere_60 (fun H locs w => ?_)
            show WK p l e s m _ below meth c 2 g (wM g q) A (some (.int r)) σ2 H locs (F0 m 63 ls [.int r_17])
            refine lv_if_eq (tgt := 70) hx hb d_M_isOwnHere_63 (by decide) (fun cd => ?_) (fun cd => ?_)
            · have hf := it_e cd hf
              refine lv_iconst (v := 0) hx hb d_M_isOwnHere_70 (by decide) ?_
              exact t_M_isOwnHere_71 C  hf w (lv_sub hl [0] rfl)
            · have hf := if_e cd hf
              exact t_M_isOwnHere_66 C  hf w (lv_sub hl [0] rfl)
def f_M_name_145 (x1 : Int64) (σ : St) : Option (Int64 × St) :=
  lt (uI σ 3 (sI σ 1)) fun σ_1 =>
  some (x1, σ_1)
def f_M_name_58b (k58 : Int64 → St → Option (Int64 × St)) (x1 : Int64) (σ : St) : Option (Int64 × St) :=
  if (sI σ 2) ≤ (sI σ 1) then
    f_M_name_145 x1 σ
  else
    gd (inB (sI σ 1) 1600) <|
    bp (f_M_isLetter (sA σ 0 (sI σ 1).toNatClampNeg) σ) fun r_3 =>
    if r_3 = 0 then
      f_M_name_145 x1 σ
    else
      if ((sI σ 1) - (sI σ 8)) = 6 then
        bp (f_M_fail 1 (sI σ 1) σ) fun σ_8 =>
        some (0, σ_8)
      else
        gd (inB (sI σ 1) 1600) <|
        lt (((((27 * x1) + ((sA σ 0 (sI σ 1).toNatClampNeg)).toInt64) - 97) + 1)) fun x_5 =>
        lt (uI σ 1 ((sI σ 1) + 1)) fun σ_6 =>
        k58 x_5 σ_6
def f_M_name_58 : Nat → Int64 → St → Option (Int64 × St)
  | 0 => fun _ _ => none
  | n + 1 => f_M_name_58b   (f_M_name_58   n)
def f_M_name_37 (σ : St) : Option (Int64 × St) :=
  bp (f_M_fail 1 (sI σ 1) σ) fun σ_2 =>
  some (0, σ_2)
def f_M_name (σ : St) : Option (Int64 × St) :=
  if (sI σ 4) = 0 then
    bd (f_M_look σ) fun r_2 σ_3 =>
    bp (f_M_isLetter r_2 σ_3) fun r_5 =>
    if r_5 = 0 then
      f_M_name_37 σ_3
    else
      if (sI σ_3 1) = (sI σ_3 3) then
        f_M_name_37 σ_3
      else
        bd (f_M_isOwnHere σ_3) fun r_7 σ_8 =>
        if r_7 = 0 then
          lt (uI σ_8 8 (sI σ_8 1)) fun σ_9 =>
          f_M_name_58 FU 0 σ_9
        else
          f_M_name_37 σ_8
  else
    some (0, σ)
set_option maxHeartbeats 4000000 in
set_option maxRecDepth 20000 in
theorem t_M_name_145 {r : Int64} {σ2 : St} (C : Cx g A p s m av meth c prog_13_method_16_code 3 "BellHammerModel" (some .long))  {x1 : Int64} {σ : St} {H : Heap} {locs : List Loc} {ls : Array Slot} (hf : f_M_name_145   x1 σ = some (r, σ2)) (w : Wd g (wM g q) A s σ H locs) (hl : lv_has ls 3 [(0, .ref (q 0)), (1, .long x1)]) : WK p l e s m av below meth c 3 g (wM g q) A (some (.long r)) σ2 H locs (F0 m 145 ls []) := by
  obtain ⟨hx, hb, hml, hown, hts, hK, hA, hZ, hlocks, hr, hN⟩ := id C
  unfold f_M_name_145 at hf
  refine lv_aload_n hx hb d_M_name_145 rfl (lv_at hl 0 rfl) ?_
  refine lv_aload_n hx hb d_M_name_146 rfl (lv_at hl 0 rfl) ?_
  refine mg_0_at C w k1096 d_M_name_147 ?_
  refine mp_0_ended C w k1098 d_M_name_150 (fun σ_1 H locs eσ_1 w => ?_)
  have hf := lt_e eσ_1 hf
  refine lv_lload_n hx hb d_M_name_153 rfl (lv_at hl 1 rfl) ?_
  obtain ⟨rfl, rfl⟩ := some2_e hf
  exact k_lret C w d_M_name_154
set_option maxHeartbeats 4000000 in
set_option maxRecDepth 20000 in
theorem t_M_name_58b {r : Int64} {σ2 : St} (C : Cx g A p s m av meth c prog_13_method_16_code 3 "BellHammerModel" (some .long)) {k58 : Int64 → St → Option (Int64 × St)} (hk58 : ∀ (x1 : Int64) (σ : St) (H : Heap) (locs : List Loc) (ls : Array Slot), k58 x1 σ = some (r, σ2) → Wd g (wM g q) A s σ H locs → lv_has ls 3 [(0, .ref (q 0)), (1, .long x1)] → WK p l e s m av below meth c 3 g (wM g q) A (some (.long r)) σ2 H locs (F0 m 58 ls []))  {x1 : Int64} {σ : St} {H : Heap} {locs : List Loc} {ls : Array Slot} (hf : f_M_name_58b  k58 x1 σ = some (r, σ2)) (w : Wd g (wM g q) A s σ H locs) (hl : lv_has ls 3 [(0, .ref (q 0)), (1, .long x1)]) : WK p l e s m av below meth c 3 g (wM g q) A (some (.long r)) σ2 H locs (F0 m 58 ls []) := by
  obtain ⟨hx, hb, hml, hown, hts, hK, hA, hZ, hlocks, hr, hN⟩ := id C
  unfold f_M_name_58b at hf
  refine lv_aload_n hx hb d_M_name_58 rfl (lv_at hl 0 rfl) ?_
  refine mg_0_at C w k1096 d_M_name_59 ?_
  refine lv_aload_n hx hb d_M_name_62 rfl (lv_at hl 0 rfl) ?_
  refine mg_0_end C w k1097 d_M_name_63 ?_
  refine lv_icmp_ge (tgt := 145) hx hb d_M_name_66 (by decide) (fun cd => ?_) (fun cd => ?_)
  · have hf := it_e cd hf
    exact t_M_name_145 C  hf w (lv_sub hl [0, 1] rfl)
  · have hf := if_e cd hf
    refine lv_aload_n hx hb d_M_name_69 rfl (lv_at hl 0 rfl) ?_
    refine mg_0_tape C w k1094 d_M_name_70 ?_
    refine lv_aload_n hx hb d_M_name_73 rfl (lv_at hl 0 rfl) ?_
    refine mg_0_at C w k1096 d_M_name_74 ?_
    obtain ⟨g_1, hf⟩ := gd_e hf
    refine ml_28 C w g_1 d_M_name_77 ?_
    obtain ⟨r_3, h_2, hf⟩ := bp_e hf
    refine k_callS (As := [.int (sA σ 0 (sI σ 1).toNatClampNeg)]) (rest := []) C w (c_M_isLetter (q := q) h_2) cv_M_isLetter k1374 (by decide) hl.1 rfl (Nat.le_of_ble_eq_true rfl) d_M_name_78 (fun H locs w => ?_)
    show WK p l e s m av below meth c 3 g (wM g q) A (some (.long r)) σ2 H locs (F0 m 81 ls [.int r_3])
    refine lv_if_eq (tgt := 145) hx hb d_M_name_81 (by decide) (fun cd => ?_) (fun cd => ?_)
    · have hf := it_e cd hf
      exact t_M_name_145 C  hf w (lv_sub hl [0, 1] rfl)
    · have hf := if_e cd hf
      refine lv_aload_n hx hb d_M_name_84 rfl (lv_at hl 0 rfl) ?_
      refine mg_0_at C w k1096 d_M_name_85 ?_
      refine lv_aload_n hx hb d_M_name_88 rfl (lv_at hl 0 rfl) ?_
      refine mg_0_namePlace C w k1131 d_M_name_89 ?_
      refine lv_isub hx hb d_M_name_92 ?_
      refine lv_bipush (v := 6) hx hb d_M_name_93 (by decide) ?_
      refine lv_icmp_ne (tgt := 109) hx hb d_M_name_95 (by decide) (fun cd => ?_) (fun cd => ?_)
      · have hf := if_e cd hf
        refine lv_ldc2 (v := 27) hx hb hown (hts _ k1397) d_M_name_109 ?_
        refine lv_lload_n hx hb d_M_name_112 rfl (lv_at hl 1 rfl) ?_
        refine lv_lmul hx hb d_M_name_113 ?_
        refine lv_aload_n hx hb d_M_name_114 rfl (lv_at hl 0 rfl) ?_
        refine mg_0_tape C w k1094 d_M_name_115 ?_
        refine lv_aload_n hx hb d_M_name_118 rfl (lv_at hl 0 rfl) ?_
        refine mg_0_at C w k1096 d_M_name_119 ?_
        obtain ⟨g_4, hf⟩ := gd_e hf
        refine ml_28 C w g_4 d_M_name_122 ?_
        refine lv_i2l hx hb d_M_name_123 rfl ?_
        refine lv_ladd hx hb d_M_name_124 ?_
        refine lv_ldc2 (v := 97) hx hb hown (hts _ k1398) d_M_name_125 ?_
        refine lv_lsub hx hb d_M_name_128 ?_
        refine lv_lconst (v := 1) hx hb d_M_name_129 (by decide) ?_
        refine lv_ladd hx hb d_M_name_130 ?_
        refine lv_topl (fun x_5 ex_5 => ?_)
        have hf := lt_e ex_5 hf
        refine lv_lstore_n (lv' := [(1, .long x_5), (0, .ref (q 0))]) hx hb d_M_name_131 rfl hl (by decide) rfl (fun ls hl => ?_)
        refine lv_aload_n hx hb d_M_name_132 rfl (lv_at hl 1 rfl) ?_
        refine lv_dup hx hb d_M_name_133 rfl ?_
        refine mg_0_at C w k1096 d_M_name_134 ?_
        refine lv_iconst (v := 1) hx hb d_M_name_137 (by decide) ?_
        refine lv_iadd hx hb d_M_name_138 ?_
        refine mp_0_at C w k1096 d_M_name_139 (fun σ_6 H locs eσ_6 w => ?_)
        have hf := lt_e eσ_6 hf
        refine lv_goto (tgt := 58) hx hb d_M_name_142 (by decide) ?_
        exact hk58 x_5 σ_6 _ _ _ hf w (lv_sub hl [1, 0] rfl)
      · have hf := it_e cd hf
        refine lv_aload_n hx hb d_M_name_98 rfl (lv_at hl 0 rfl) ?_
        refine lv_iconst (v := 1) hx hb d_M_name_99 (by decide) ?_
        refine lv_aload_n hx hb d_M_name_100 rfl (lv_at hl 0 rfl) ?_
        refine mg_0_at C w k1096 d_M_name_101 ?_
        obtain ⟨σ_8, h_7, hf⟩ := bp_e hf
        refine k_callV (As := [.int 1, .int (sI σ 1)]) (rest := []) C w (c_M_fail (q := q) h_7) cv_M_fail k1362 (mr_0 C w) (by decide) hl.1 rfl (Nat.le_of_ble_eq_true rfl) d_M_name_104 (fun H locs w => ?_)
        show WK p l e s m av below meth c 3 g (wM g q) A (some (.long r)) σ2 H locs (F0 m 107 ls [])
        refine lv_lconst (v := 0) hx hb d_M_name_107 (by decide) ?_
        obtain ⟨rfl, rfl⟩ := some2_e hf
        exact k_lret C w d_M_name_108
set_option maxHeartbeats 4000000 in
set_option maxRecDepth 20000 in
theorem t_M_name_58 {r : Int64} {σ2 : St} (C : Cx g A p s m av meth c prog_13_method_16_code 3 "BellHammerModel" (some .long))  : ∀ (n : Nat) (x1 : Int64) (σ : St) (H : Heap) (locs : List Loc) (ls : Array Slot), f_M_name_58   n x1 σ = some (r, σ2) → Wd g (wM g q) A s σ H locs → lv_has ls 3 [(0, .ref (q 0)), (1, .long x1)] → WK p l e s m av below meth c 3 g (wM g q) A (some (.long r)) σ2 H locs (F0 m 58 ls []) := by
  intro n
  induction n with
  | zero => intro x1 σ H locs ls hf; exact absurd hf (by intro z; cases z)
  | succ n ih => intro x1 σ H locs ls hf w hl; exact t_M_name_58b C  ih hf w hl
set_option maxHeartbeats 4000000 in
set_option maxRecDepth 20000 in
theorem t_M_name_37 {r : Int64} {σ2 : St} (C : Cx g A p s m av meth c prog_13_method_16_code 3 "BellHammerModel" (some .long))  {σ : St} {H : Heap} {locs : List Loc} {ls : Array Slot} (hf : f_M_name_37    σ = some (r, σ2)) (w : Wd g (wM g q) A s σ H locs) (hl : lv_has ls 3 [(0, .ref (q 0))]) : WK p l e s m av below meth c 3 g (wM g q) A (some (.long r)) σ2 H locs (F0 m 37 ls []) := by
  obtain ⟨hx, hb, hml, hown, hts, hK, hA, hZ, hlocks, hr, hN⟩ := id C
  unfold f_M_name_37 at hf
  refine lv_aload_n hx hb d_M_name_37 rfl (lv_at hl 0 rfl) ?_
  refine lv_iconst (v := 1) hx hb d_M_name_38 (by decide) ?_
  refine lv_aload_n hx hb d_M_name_39 rfl (lv_at hl 0 rfl) ?_
  refine mg_0_at C w k1096 d_M_name_40 ?_
  obtain ⟨σ_2, h_1, hf⟩ := bp_e hf
  refine k_callV (As := [.int 1, .int (sI σ 1)]) (rest := []) C w (c_M_fail (q := q) h_1) cv_M_fail k1362 (mr_0 C w) (by decide) hl.1 rfl (Nat.le_of_ble_eq_true rfl) d_M_name_43 (fun H locs w => ?_)
  show WK p l e s m av below meth c 3 g (wM g q) A (some (.long r)) σ2 H locs (F0 m 46 ls [])
  refine lv_lconst (v := 0) hx hb d_M_name_46 (by decide) ?_
  obtain ⟨rfl, rfl⟩ := some2_e hf
  exact k_lret C w d_M_name_47
set_option maxHeartbeats 4000000 in
set_option maxRecDepth 20000 in
theorem c_M_name {l : Launch} {g : GX} {q : Nat → Nat}  {σ : St} {r : Int64} {σ2 : St} (hf : f_M_name   σ = some (r, σ2)) : KK l y_M_name prog_13_method_16_code 3 (some .long) 3 g (wM g q) σ [.ref (q 0)] (some (.long r)) (wM g q) σ2 := by
  refine KK_of (plainFor_of_name (by decide)) (Nat.le_of_ble_eq_true rfl) (fun p e s m below meth c A ls C w hl => ?_)
  have hl : lv_has ls 3 [(0, .ref (q 0))] := hl
  obtain ⟨hx, hb, hml, hown, hts, hK, hA, hZ, hlocks, hr, hN⟩ := id C
  unfold f_M_name at hf
  refine lv_aload_n hx hb d_M_name_0 rfl (lv_at hl 0 rfl) ?_
  refine mg_0_bad C w k1099 d_M_name_1 ?_
  refine lv_if_eq (tgt := 9) hx hb d_M_name_4 (by decide) (fun cd => ?_) (fun cd => ?_)
  · have hf := it_e cd hf
    refine lv_aload_n hx hb d_M_name_9 rfl (lv_at hl 0 rfl) ?_
    obtain ⟨r_2, σ_3, h_1, hf⟩ := bd_e hf
    refine k_callV (As := []) (rest := []) C w (c_M_look (q := q) h_1) cv_M_look k1354 (mr_0 C w) (by decide) hl.1 rfl (Nat.le_of_ble_eq_true rfl) d_M_name_10 (fun H locs w => ?_)
    show WK p l e s m _ below meth c 3 g (wM g q) A (some (.long r)) σ2 H locs (F0 m 13 ls [.int r_2])
    obtain ⟨r_5, h_4, hf⟩ := bp_e hf
    refine k_callS (As := [.int r_2]) (rest := []) C w (c_M_isLetter (q := q) h_4) cv_M_isLetter k1374 (by decide) hl.1 rfl (Nat.le_of_ble_eq_true rfl) d_M_name_13 (fun H locs w => ?_)
    show WK p l e s m _ below meth c 3 g (wM g q) A (some (.long r)) σ2 H locs (F0 m 16 ls [.int r_5])
    refine lv_if_eq (tgt := 37) hx hb d_M_name_16 (by decide) (fun cd => ?_) (fun cd => ?_)
    · have hf := it_e cd hf
      exact t_M_name_37 C  hf w (lv_sub hl [0] rfl)
    · have hf := if_e cd hf
      refine lv_aload_n hx hb d_M_name_19 rfl (lv_at hl 0 rfl) ?_
      refine mg_0_at C w k1096 d_M_name_20 ?_
      refine lv_aload_n hx hb d_M_name_23 rfl (lv_at hl 0 rfl) ?_
      refine mg_0_ended C w k1098 d_M_name_24 ?_
      refine lv_icmp_eq (tgt := 37) hx hb d_M_name_27 (by decide) (fun cd => ?_) (fun cd => ?_)
      · have hf := it_e cd hf
        exact t_M_name_37 C  hf w (lv_sub hl [0] rfl)
      · have hf := if_e cd hf
        refine lv_aload_n hx hb d_M_name_30 rfl (lv_at hl 0 rfl) ?_
        obtain ⟨r_7, σ_8, h_6, hf⟩ := bd_e hf
        refine k_callV (As := []) (rest := []) C w (c_M_isOwnHere (q := q) h_6) cv_M_isOwnHere k1393 (mr_0 C w) (by decide) hl.1 rfl (Nat.le_of_ble_eq_true rfl) d_M_name_31 (fun H locs w => ?_)
        show WK p l e s m _ below meth c 3 g (wM g q) A (some (.long r)) σ2 H locs (F0 m 34 ls [.int r_7])
        refine lv_if_eq (tgt := 48) hx hb d_M_name_34 (by decide) (fun cd => ?_) (fun cd => ?_)
        · have hf := it_e cd hf
          refine lv_aload_n hx hb d_M_name_48 rfl (lv_at hl 0 rfl) ?_
          refine lv_aload_n hx hb d_M_name_49 rfl (lv_at hl 0 rfl) ?_
          refine mg_0_at C w k1096 d_M_name_50 ?_
          refine mp_0_namePlace C w k1131 d_M_name_53 (fun σ_9 H locs eσ_9 w => ?_)
          have hf := lt_e eσ_9 hf
          refine lv_lconst (v := 0) hx hb d_M_name_56 (by decide) ?_
          refine lv_lstore_n (lv' := [(1, .long 0), (0, .ref (q 0))]) hx hb d_M_name_57 rfl hl (by decide) rfl (fun ls hl => ?_)
          exact t_M_name_58 C  FU 0 σ_9 _ _ _ hf w (lv_sub hl [1, 0] rfl)
        · have hf := if_e cd hf
          exact t_M_name_37 C  hf w (lv_sub hl [0] rfl)
  · have hf := if_e cd hf
    refine lv_lconst (v := 0) hx hb d_M_name_7 (by decide) ?_
    obtain ⟨rfl, rfl⟩ := some2_e hf
    exact k_lret C w d_M_name_8
def f_M_newName_7b (k7 : Int64 → Int32 → St → Option (Int64 × St)) (x1 : Int64) (x3 : Int32) (σ : St) : Option (Int64 × St) :=
  if 16 ≤ x3 then
    some (x1, σ)
  else
    if (sI σ 4) = 0 then
      gd (inB (x3 / 8) 6) <|
      if (sA σ 2 (x3 / 8).toNatClampNeg) ≤ (iR x3 8) then
        lt ((x3 + 1)) fun x_3 =>
        k7 x1 x_3 σ
      else
        gd (inB x3 32) <|
        if (lg_cmp (sB σ 0 x3.toNatClampNeg) x1) = 0 then
          bp (f_M_fail 3 (sI σ 8) σ) fun σ_7 =>
          lt ((x3 + 1)) fun x_8 =>
          k7 x1 x_8 σ_7
        else
          lt ((x3 + 1)) fun x_5 =>
          k7 x1 x_5 σ
    else
      lt ((x3 + 1)) fun x_1 =>
      k7 x1 x_1 σ
def f_M_newName_7 : Nat → Int64 → Int32 → St → Option (Int64 × St)
  | 0 => fun _ _ _ => none
  | n + 1 => f_M_newName_7b   (f_M_newName_7   n)
def f_M_newName (σ : St) : Option (Int64 × St) :=
  bd (f_M_name σ) fun r_2 σ_3 =>
  f_M_newName_7 FU r_2 0 σ_3
set_option maxHeartbeats 4000000 in
set_option maxRecDepth 20000 in
theorem t_M_newName_7b {r : Int64} {σ2 : St} (C : Cx g A p s m av meth c prog_13_method_18_code 4 "BellHammerModel" (some .long)) {k7 : Int64 → Int32 → St → Option (Int64 × St)} (hk7 : ∀ (x1 : Int64) (x3 : Int32) (σ : St) (H : Heap) (locs : List Loc) (ls : Array Slot), k7 x1 x3 σ = some (r, σ2) → Wd g (wM g q) A s σ H locs → lv_has ls 4 [(0, .ref (q 0)), (1, .long x1), (3, .int x3)] → WK p l e s m av below meth c 4 g (wM g q) A (some (.long r)) σ2 H locs (F0 m 7 ls []))  {x1 : Int64} {x3 : Int32} {σ : St} {H : Heap} {locs : List Loc} {ls : Array Slot} (hf : f_M_newName_7b  k7 x1 x3 σ = some (r, σ2)) (w : Wd g (wM g q) A s σ H locs) (hl : lv_has ls 4 [(0, .ref (q 0)), (1, .long x1), (3, .int x3)]) : WK p l e s m av below meth c 4 g (wM g q) A (some (.long r)) σ2 H locs (F0 m 7 ls []) := by
  obtain ⟨hx, hb, hml, hown, hts, hK, hA, hZ, hlocks, hr, hN⟩ := id C
  unfold f_M_newName_7b at hf
  refine lv_iload_n hx hb d_M_newName_7 rfl (lv_at hl 2 rfl) ?_
  refine lv_bipush (v := 16) hx hb d_M_newName_8 (by decide) ?_
  refine lv_icmp_ge (tgt := 62) hx hb d_M_newName_10 (by decide) (fun cd => ?_) (fun cd => ?_)
  · have hf := it_e cd hf
    refine lv_lload_n hx hb d_M_newName_62 rfl (lv_at hl 1 rfl) ?_
    obtain ⟨rfl, rfl⟩ := some2_e hf
    exact k_lret C w d_M_newName_63
  · have hf := if_e cd hf
    refine lv_aload_n hx hb d_M_newName_13 rfl (lv_at hl 0 rfl) ?_
    refine mg_0_bad C w k1099 d_M_newName_14 ?_
    refine lv_if_ne (tgt := 56) hx hb d_M_newName_17 (by decide) (fun cd => ?_) (fun cd => ?_)
    · have hf := if_e cd hf
      obtain ⟨x_1, ex_1⟩ : ∃ y : Int32, y = (x3 + 1) := ⟨_, rfl⟩
      have hf := lt_e ex_1 hf
      refine lv_iinc (v := x_1) (lv' := [(3, .int x_1), (0, .ref (q 0)), (1, .long x1)]) hx hb d_M_newName_56 hl (k := 2) rfl (by rw [ex_1]; rfl) (by decide) rfl (fun ls hl => ?_)
      refine lv_goto (tgt := 7) hx hb d_M_newName_59 (by decide) ?_
      exact hk7 x1 x_1 σ _ _ _ hf w (lv_sub hl [1, 2, 0] rfl)
    · have hf := it_e cd hf
      refine lv_iload_n hx hb d_M_newName_20 rfl (lv_at hl 2 rfl) ?_
      refine lv_bipush (v := 8) hx hb d_M_newName_21 (by decide) ?_
      refine r_irem hx hb d_M_newName_23 (by decide) ?_
      refine lv_aload_n hx hb d_M_newName_24 rfl (lv_at hl 0 rfl) ?_
      refine mg_0_many C w k1132 d_M_newName_25 ?_
      refine lv_iload_n hx hb d_M_newName_28 rfl (lv_at hl 2 rfl) ?_
      refine lv_bipush (v := 8) hx hb d_M_newName_29 (by decide) ?_
      refine lv_idiv hx hb d_M_newName_31 (by decide) ?_
      obtain ⟨g_2, hf⟩ := gd_e hf
      refine ml_30 C w g_2 d_M_newName_32 ?_
      refine lv_icmp_ge (tgt := 56) hx hb d_M_newName_33 (by decide) (fun cd => ?_) (fun cd => ?_)
      · have hf := it_e cd hf
        obtain ⟨x_3, ex_3⟩ : ∃ y : Int32, y = (x3 + 1) := ⟨_, rfl⟩
        have hf := lt_e ex_3 hf
        refine lv_iinc (v := x_3) (lv' := [(3, .int x_3), (0, .ref (q 0)), (1, .long x1)]) hx hb d_M_newName_56 hl (k := 2) rfl (by rw [ex_3]; rfl) (by decide) rfl (fun ls hl => ?_)
        refine lv_goto (tgt := 7) hx hb d_M_newName_59 (by decide) ?_
        exact hk7 x1 x_3 σ _ _ _ hf w (lv_sub hl [1, 2, 0] rfl)
      · have hf := if_e cd hf
        refine lv_aload_n hx hb d_M_newName_36 rfl (lv_at hl 0 rfl) ?_
        refine mg_0_names C w k1133 d_M_newName_37 ?_
        refine lv_iload_n hx hb d_M_newName_40 rfl (lv_at hl 2 rfl) ?_
        obtain ⟨g_4, hf⟩ := gd_e hf
        refine ml_31 C w g_4 d_M_newName_41 ?_
        refine lv_lload_n hx hb d_M_newName_42 rfl (lv_at hl 1 rfl) ?_
        refine W.lcmp hx hb d_M_newName_43 ?_
        refine lv_if_ne (tgt := 56) hx hb d_M_newName_44 (by decide) (fun cd => ?_) (fun cd => ?_)
        · have hf := if_e cd hf
          obtain ⟨x_5, ex_5⟩ : ∃ y : Int32, y = (x3 + 1) := ⟨_, rfl⟩
          have hf := lt_e ex_5 hf
          refine lv_iinc (v := x_5) (lv' := [(3, .int x_5), (0, .ref (q 0)), (1, .long x1)]) hx hb d_M_newName_56 hl (k := 2) rfl (by rw [ex_5]; rfl) (by decide) rfl (fun ls hl => ?_)
          refine lv_goto (tgt := 7) hx hb d_M_newName_59 (by decide) ?_
          exact hk7 x1 x_5 σ _ _ _ hf w (lv_sub hl [1, 2, 0] rfl)
        · have hf := it_e cd hf
          refine lv_aload_n hx hb d_M_newName_47 rfl (lv_at hl 0 rfl) ?_
          refine lv_iconst (v := 3) hx hb d_M_newName_48 (by decide) ?_
          refine lv_aload_n hx hb d_M_newName_49 rfl (lv_at hl 0 rfl) ?_
          refine mg_0_namePlace C w k1131 d_M_newName_50 ?_
          obtain ⟨σ_7, h_6, hf⟩ := bp_e hf
          refine k_callV (As := [.int 3, .int (sI σ 8)]) (rest := []) C w (c_M_fail (q := q) h_6) cv_M_fail k1362 (mr_0 C w) (by decide) hl.1 rfl (Nat.le_of_ble_eq_true rfl) d_M_newName_53 (fun H locs w => ?_)
          show WK p l e s m av below meth c 4 g (wM g q) A (some (.long r)) σ2 H locs (F0 m 56 ls [])
          obtain ⟨x_8, ex_8⟩ : ∃ y : Int32, y = (x3 + 1) := ⟨_, rfl⟩
          have hf := lt_e ex_8 hf
          refine lv_iinc (v := x_8) (lv' := [(3, .int x_8), (0, .ref (q 0)), (1, .long x1)]) hx hb d_M_newName_56 hl (k := 2) rfl (by rw [ex_8]; rfl) (by decide) rfl (fun ls hl => ?_)
          refine lv_goto (tgt := 7) hx hb d_M_newName_59 (by decide) ?_
          exact hk7 x1 x_8 σ_7 _ _ _ hf w (lv_sub hl [1, 2, 0] rfl)
set_option maxHeartbeats 4000000 in
set_option maxRecDepth 20000 in
theorem t_M_newName_7 {r : Int64} {σ2 : St} (C : Cx g A p s m av meth c prog_13_method_18_code 4 "BellHammerModel" (some .long))  : ∀ (n : Nat) (x1 : Int64) (x3 : Int32) (σ : St) (H : Heap) (locs : List Loc) (ls : Array Slot), f_M_newName_7   n x1 x3 σ = some (r, σ2) → Wd g (wM g q) A s σ H locs → lv_has ls 4 [(0, .ref (q 0)), (1, .long x1), (3, .int x3)] → WK p l e s m av below meth c 4 g (wM g q) A (some (.long r)) σ2 H locs (F0 m 7 ls []) := by
  intro n
  induction n with
  | zero => intro x1 x3 σ H locs ls hf; exact absurd hf (by intro z; cases z)
  | succ n ih => intro x1 x3 σ H locs ls hf w hl; exact t_M_newName_7b C  ih hf w hl
set_option maxHeartbeats 4000000 in
set_option maxRecDepth 20000 in
theorem c_M_newName {l : Launch} {g : GX} {q : Nat → Nat}  {σ : St} {r : Int64} {σ2 : St} (hf : f_M_newName   σ = some (r, σ2)) : KK l y_M_newName prog_13_method_18_code 4 (some .long) 4 g (wM g q) σ [.ref (q 0)] (some (.long r)) (wM g q) σ2 := by
  refine KK_of (plainFor_of_name (by decide)) (Nat.le_of_ble_eq_true rfl) (fun p e s m below meth c A ls C w hl => ?_)
  have hl : lv_has ls 4 [(0, .ref (q 0))] := hl
  obtain ⟨hx, hb, hml, hown, hts, hK, hA, hZ, hlocks, hr, hN⟩ := id C
  unfold f_M_newName at hf
  refine lv_aload_n hx hb d_M_newName_0 rfl (lv_at hl 0 rfl) ?_
  obtain ⟨r_2, σ_3, h_1, hf⟩ := bd_e hf
  refine k_callV (As := []) (rest := []) C w (c_M_name (q := q) h_1) cv_M_name k1389 (mr_0 C w) (by decide) hl.1 rfl (Nat.le_of_ble_eq_true rfl) d_M_newName_1 (fun H locs w => ?_)
  show WK p l e s m _ below meth c 4 g (wM g q) A (some (.long r)) σ2 H locs (F0 m 4 ls [.long r_2])
  refine lv_lstore_n (lv' := [(1, .long r_2), (0, .ref (q 0))]) hx hb d_M_newName_4 rfl hl (by decide) rfl (fun ls hl => ?_)
  refine lv_iconst (v := 0) hx hb d_M_newName_5 (by decide) ?_
  refine lv_istore_n (lv' := [(3, .int 0), (1, .long r_2), (0, .ref (q 0))]) hx hb d_M_newName_6 rfl hl (by decide) rfl (fun ls hl => ?_)
  exact t_M_newName_7 C  FU r_2 0 σ_3 _ _ _ hf w (lv_sub hl [2, 1, 0] rfl)
def f_M_trierTold_127 (x2 : Int32) (x3 : Int64) (x5 : Int32) (x6 : Int32) (x7 : Int32) (x8 : Int32) (x9 : Int32) (t0 : Int32) (σ : St) : Option (St) :=
  if (sI σ 4) = 0 then
    gd (inB (8 + (sA σ 2 (1 : Int32).toNatClampNeg)) 32) <|
    lt (uB σ 0 (vp_updL (sB σ 0) (8 + (sA σ 2 (1 : Int32).toNatClampNeg)).toNatClampNeg x3)) fun σ_2 =>
    gd (inB x2 96) <|
    lt (uA σ_2 4 (upd (sA σ_2 4) x2.toNatClampNeg x5)) fun σ_4 =>
    gd (inB (x2 + 1) 96) <|
    lt (uA σ_4 4 (upd (sA σ_4 4) (x2 + 1).toNatClampNeg x6)) fun σ_6 =>
    gd (inB (x2 + 2) 96) <|
    lt (uA σ_6 4 (upd (sA σ_6 4) (x2 + 2).toNatClampNeg x7)) fun σ_8 =>
    gd (inB (x2 + 3) 96) <|
    lt (uA σ_8 4 (upd (sA σ_8 4) (x2 + 3).toNatClampNeg x8)) fun σ_10 =>
    gd (inB (x2 + 4) 96) <|
    lt (uA σ_10 4 (upd (sA σ_10 4) (x2 + 4).toNatClampNeg x9)) fun σ_12 =>
    gd (inB (x2 + 5) 96) <|
    lt (uA σ_12 4 (upd (sA σ_12 4) (x2 + 5).toNatClampNeg t0)) fun σ_14 =>
    lt (uA σ_14 2 (upd (sA σ_14 2) (1 : Int32).toNatClampNeg ((sA σ_14 2 (1 : Int32).toNatClampNeg) + 1))) fun σ_15 =>
    some σ_15
  else
    some σ
def f_M_trierTold (x1 : Int32) (σ : St) : Option (St) :=
  bd (f_M_isFull 1 8 x1 σ) fun r_2 σ_3 =>
  if r_2 = 0 then
    lt ((6 * (sA σ_3 2 (1 : Int32).toNatClampNeg))) fun x_4 =>
    bd (f_M_newName σ_3) fun r_6 σ_7 =>
    bp (f_M_asks 3 σ_7) fun σ_9 =>
    bd (f_M_number 1 99 σ_9) fun r_11 σ_12 =>
    bp (f_M_asks 4 σ_12) fun σ_14 =>
    bd (f_M_number 0 5 σ_14) fun r_16 σ_17 =>
    bp (f_M_asks 5 σ_17) fun σ_19 =>
    bd (f_M_number 0 20 σ_19) fun r_21 σ_22 =>
    bp (f_M_asks 6 σ_22) fun σ_24 =>
    bd (f_M_number 0 99 σ_24) fun r_26 σ_27 =>
    bp (f_M_asks 7 σ_27) fun σ_29 =>
    bd (f_M_number 0 99 σ_29) fun r_31 σ_32 =>
    bd (f_M_takes 8 σ_32) fun r_34 σ_35 =>
    if r_34 = 0 then
      f_M_trierTold_127 x_4 r_6 r_11 r_16 r_21 r_26 r_31 0 σ_35
    else
      f_M_trierTold_127 x_4 r_6 r_11 r_16 r_21 r_26 r_31 1 σ_35
  else
    some σ_3
set_option maxHeartbeats 4000000 in
set_option maxRecDepth 20000 in
theorem t_M_trierTold_127 {σ2 : St} (C : Cx g A p s m av meth c prog_13_method_20_code 11 "BellHammerModel" none)  {x2 : Int32} {x3 : Int64} {x5 : Int32} {x6 : Int32} {x7 : Int32} {x8 : Int32} {x9 : Int32} {t0 : Int32} {σ : St} {H : Heap} {locs : List Loc} {ls : Array Slot} (hf : f_M_trierTold_127   x2 x3 x5 x6 x7 x8 x9 t0 σ = some σ2) (w : Wd g (wM g q) A s σ H locs) (hl : lv_has ls 11 [(0, .ref (q 0)), (2, .int x2), (3, .long x3), (5, .int x5), (6, .int x6), (7, .int x7), (8, .int x8), (9, .int x9)]) : WK p l e s m av below meth c 5 g (wM g q) A none σ2 H locs (F0 m 127 ls [.int t0]) := by
  obtain ⟨hx, hb, hml, hown, hts, hK, hA, hZ, hlocks, hr, hN⟩ := id C
  unfold f_M_trierTold_127 at hf
  refine lv_istore (lv' := [(10, .int t0), (0, .ref (q 0)), (2, .int x2), (3, .long x3), (5, .int x5), (6, .int x6), (7, .int x7), (8, .int x8), (9, .int x9)]) hx hb d_M_trierTold_127 hl (by decide) rfl (fun ls hl => ?_)
  refine lv_aload_n hx hb d_M_trierTold_129 rfl (lv_at hl 1 rfl) ?_
  refine mg_0_bad C w k1099 d_M_trierTold_130 ?_
  refine lv_if_eq (tgt := 137) hx hb d_M_trierTold_133 (by decide) (fun cd => ?_) (fun cd => ?_)
  · have hf := it_e cd hf
    refine lv_aload_n hx hb d_M_trierTold_137 rfl (lv_at hl 1 rfl) ?_
    refine mg_0_names C w k1133 d_M_trierTold_138 ?_
    refine lv_bipush (v := 8) hx hb d_M_trierTold_141 (by decide) ?_
    refine lv_aload_n hx hb d_M_trierTold_143 rfl (lv_at hl 1 rfl) ?_
    refine mg_0_many C w k1132 d_M_trierTold_144 ?_
    refine lv_iconst (v := 1) hx hb d_M_trierTold_147 (by decide) ?_
    refine ml_30 C w (by decide) d_M_trierTold_148 ?_
    refine lv_iadd hx hb d_M_trierTold_149 ?_
    refine lv_lload_n hx hb d_M_trierTold_150 rfl (lv_at hl 3 rfl) ?_
    obtain ⟨g_1, hf⟩ := gd_e hf
    refine ms_31 C w g_1 d_M_trierTold_151 (fun σ_2 H locs eσ_2 w => ?_)
    have hf := lt_e eσ_2 hf
    refine lv_aload_n hx hb d_M_trierTold_152 rfl (lv_at hl 1 rfl) ?_
    refine mg_0_triers C w k1135 d_M_trierTold_153 ?_
    refine lv_iload_n hx hb d_M_trierTold_156 rfl (lv_at hl 2 rfl) ?_
    refine lv_iload hx hb d_M_trierTold_157 (lv_at hl 4 rfl) ?_
    obtain ⟨g_3, hf⟩ := gd_e hf
    refine ms_33 C w g_3 d_M_trierTold_159 (fun σ_4 H locs eσ_4 w => ?_)
    have hf := lt_e eσ_4 hf
    refine lv_aload_n hx hb d_M_trierTold_160 rfl (lv_at hl 1 rfl) ?_
    refine mg_0_triers C w k1135 d_M_trierTold_161 ?_
    refine lv_iload_n hx hb d_M_trierTold_164 rfl (lv_at hl 2 rfl) ?_
    refine lv_iconst (v := 1) hx hb d_M_trierTold_165 (by decide) ?_
    refine lv_iadd hx hb d_M_trierTold_166 ?_
    refine lv_iload hx hb d_M_trierTold_167 (lv_at hl 5 rfl) ?_
    obtain ⟨g_5, hf⟩ := gd_e hf
    refine ms_33 C w g_5 d_M_trierTold_169 (fun σ_6 H locs eσ_6 w => ?_)
    have hf := lt_e eσ_6 hf
    refine lv_aload_n hx hb d_M_trierTold_170 rfl (lv_at hl 1 rfl) ?_
    refine mg_0_triers C w k1135 d_M_trierTold_171 ?_
    refine lv_iload_n hx hb d_M_trierTold_174 rfl (lv_at hl 2 rfl) ?_
    refine lv_iconst (v := 2) hx hb d_M_trierTold_175 (by decide) ?_
    refine lv_iadd hx hb d_M_trierTold_176 ?_
    refine lv_iload hx hb d_M_trierTold_177 (lv_at hl 6 rfl) ?_
    obtain ⟨g_7, hf⟩ := gd_e hf
    refine ms_33 C w g_7 d_M_trierTold_179 (fun σ_8 H locs eσ_8 w => ?_)
    have hf := lt_e eσ_8 hf
    refine lv_aload_n hx hb d_M_trierTold_180 rfl (lv_at hl 1 rfl) ?_
    refine mg_0_triers C w k1135 d_M_trierTold_181 ?_
    refine lv_iload_n hx hb d_M_trierTold_184 rfl (lv_at hl 2 rfl) ?_
    refine lv_iconst (v := 3) hx hb d_M_trierTold_185 (by decide) ?_
    refine lv_iadd hx hb d_M_trierTold_186 ?_
    refine lv_iload hx hb d_M_trierTold_187 (lv_at hl 7 rfl) ?_
    obtain ⟨g_9, hf⟩ := gd_e hf
    refine ms_33 C w g_9 d_M_trierTold_189 (fun σ_10 H locs eσ_10 w => ?_)
    have hf := lt_e eσ_10 hf
    refine lv_aload_n hx hb d_M_trierTold_190 rfl (lv_at hl 1 rfl) ?_
    refine mg_0_triers C w k1135 d_M_trierTold_191 ?_
    refine lv_iload_n hx hb d_M_trierTold_194 rfl (lv_at hl 2 rfl) ?_
    refine lv_iconst (v := 4) hx hb d_M_trierTold_195 (by decide) ?_
    refine lv_iadd hx hb d_M_trierTold_196 ?_
    refine lv_iload hx hb d_M_trierTold_197 (lv_at hl 8 rfl) ?_
    obtain ⟨g_11, hf⟩ := gd_e hf
    refine ms_33 C w g_11 d_M_trierTold_199 (fun σ_12 H locs eσ_12 w => ?_)
    have hf := lt_e eσ_12 hf
    refine lv_aload_n hx hb d_M_trierTold_200 rfl (lv_at hl 1 rfl) ?_
    refine mg_0_triers C w k1135 d_M_trierTold_201 ?_
    refine lv_iload_n hx hb d_M_trierTold_204 rfl (lv_at hl 2 rfl) ?_
    refine lv_iconst (v := 5) hx hb d_M_trierTold_205 (by decide) ?_
    refine lv_iadd hx hb d_M_trierTold_206 ?_
    refine lv_iload hx hb d_M_trierTold_207 (lv_at hl 0 rfl) ?_
    obtain ⟨g_13, hf⟩ := gd_e hf
    refine ms_33 C w g_13 d_M_trierTold_209 (fun σ_14 H locs eσ_14 w => ?_)
    have hf := lt_e eσ_14 hf
    refine lv_aload_n hx hb d_M_trierTold_210 rfl (lv_at hl 1 rfl) ?_
    refine mg_0_many C w k1132 d_M_trierTold_211 ?_
    refine lv_iconst (v := 1) hx hb d_M_trierTold_214 (by decide) ?_
    refine lv_dup2_11 hx hb d_M_trierTold_215 rfl rfl ?_
    refine ml_30 C w (by decide) d_M_trierTold_216 ?_
    refine lv_iconst (v := 1) hx hb d_M_trierTold_217 (by decide) ?_
    refine lv_iadd hx hb d_M_trierTold_218 ?_
    refine ms_30 C w (by decide) d_M_trierTold_219 (fun σ_15 H locs eσ_15 w => ?_)
    have hf := lt_e eσ_15 hf
    cases some_e hf
    exact k_vret C w d_M_trierTold_220
  · have hf := if_e cd hf
    cases some_e hf
    exact k_vret C w d_M_trierTold_136
set_option maxHeartbeats 4000000 in
set_option maxRecDepth 20000 in
theorem c_M_trierTold {l : Launch} {g : GX} {q : Nat → Nat} {x1 : Int32}  {σ : St} {σ2 : St} (hf : f_M_trierTold  x1 σ = some σ2) : KK l y_M_trierTold prog_13_method_20_code 11 none 5 g (wM g q) σ [.ref (q 0), .int x1] none (wM g q) σ2 := by
  refine KK_of (plainFor_of_name (by decide)) (Nat.le_of_ble_eq_true rfl) (fun p e s m below meth c A ls C w hl => ?_)
  have hl : lv_has ls 11 [(0, .ref (q 0)), (1, .int x1)] := hl
  obtain ⟨hx, hb, hml, hown, hts, hK, hA, hZ, hlocks, hr, hN⟩ := id C
  unfold f_M_trierTold at hf
  refine lv_aload_n hx hb d_M_trierTold_0 rfl (lv_at hl 0 rfl) ?_
  refine lv_iconst (v := 1) hx hb d_M_trierTold_1 (by decide) ?_
  refine lv_bipush (v := 8) hx hb d_M_trierTold_2 (by decide) ?_
  refine lv_iload_n hx hb d_M_trierTold_4 rfl (lv_at hl 1 rfl) ?_
  obtain ⟨r_2, σ_3, h_1, hf⟩ := bd_e hf
  refine k_callV (As := [.int 1, .int 8, .int x1]) (rest := []) C w (c_M_isFull (q := q) h_1) cv_M_isFull k1381 (mr_0 C w) (by decide) hl.1 rfl (Nat.le_of_ble_eq_true rfl) d_M_trierTold_5 (fun H locs w => ?_)
  show WK p l e s m _ below meth c 5 g (wM g q) A none σ2 H locs (F0 m 8 ls [.int r_2])
  refine lv_if_eq (tgt := 12) hx hb d_M_trierTold_8 (by decide) (fun cd => ?_) (fun cd => ?_)
  · have hf := it_e cd hf
    refine lv_bipush (v := 6) hx hb d_M_trierTold_12 (by decide) ?_
    refine lv_aload_n hx hb d_M_trierTold_14 rfl (lv_at hl 0 rfl) ?_
    refine mg_0_many C w k1132 d_M_trierTold_15 ?_
    refine lv_iconst (v := 1) hx hb d_M_trierTold_18 (by decide) ?_
    refine ml_30 C w (by decide) d_M_trierTold_19 ?_
    refine lv_imul hx hb d_M_trierTold_20 ?_
    refine lv_topi (fun x_4 ex_4 => ?_)
    have hf := lt_e ex_4 hf
    refine lv_istore_n (lv' := [(2, .int x_4), (0, .ref (q 0)), (1, .int x1)]) hx hb d_M_trierTold_21 rfl hl (by decide) rfl (fun ls hl => ?_)
    refine lv_aload_n hx hb d_M_trierTold_22 rfl (lv_at hl 1 rfl) ?_
    obtain ⟨r_6, σ_7, h_5, hf⟩ := bd_e hf
    refine k_callV (As := []) (rest := []) C w (c_M_newName (q := q) h_5) cv_M_newName k1385 (mr_0 C w) (by decide) hl.1 rfl (Nat.le_of_ble_eq_true rfl) d_M_trierTold_23 (fun H locs w => ?_)
    show WK p l e s m _ below meth c 5 g (wM g q) A none σ2 H locs (F0 m 26 ls [.long r_6])
    refine lv_lstore_n (lv' := [(3, .long r_6), (2, .int x_4), (0, .ref (q 0)), (1, .int x1)]) hx hb d_M_trierTold_26 rfl hl (by decide) rfl (fun ls hl => ?_)
    refine lv_aload_n hx hb d_M_trierTold_27 rfl (lv_at hl 2 rfl) ?_
    refine lv_aload_n hx hb d_M_trierTold_28 rfl (lv_at hl 2 rfl) ?_
    refine mg_0_forceWord C w k1107 d_M_trierTold_29 ?_
    obtain ⟨σ_9, h_8, hf⟩ := bp_e hf
    refine k_callV (As := [.ref (q (1 + 3))]) (rest := []) C w (c_M_asks (q := q) (j := 3) (by decide) h_8) cv_M_asks k1399 (mr_0 C w) (by decide) hl.1 rfl (Nat.le_of_ble_eq_true rfl) d_M_trierTold_32 (fun H locs w => ?_)
    show WK p l e s m _ below meth c 5 g (wM g q) A none σ2 H locs (F0 m 35 ls [])
    refine lv_aload_n hx hb d_M_trierTold_35 rfl (lv_at hl 2 rfl) ?_
    refine lv_iconst (v := 1) hx hb d_M_trierTold_36 (by decide) ?_
    refine lv_bipush (v := 99) hx hb d_M_trierTold_37 (by decide) ?_
    obtain ⟨r_11, σ_12, h_10, hf⟩ := bd_e hf
    refine k_callV (As := [.int 1, .int 99]) (rest := []) C w (c_M_number (q := q) h_10) cv_M_number k1403 (mr_0 C w) (by decide) hl.1 rfl (Nat.le_of_ble_eq_true rfl) d_M_trierTold_39 (fun H locs w => ?_)
    show WK p l e s m _ below meth c 5 g (wM g q) A none σ2 H locs (F0 m 42 ls [.int r_11])
    refine lv_istore (lv' := [(5, .int r_11), (3, .long r_6), (2, .int x_4), (0, .ref (q 0)), (1, .int x1)]) hx hb d_M_trierTold_42 hl (by decide) rfl (fun ls hl => ?_)
    refine lv_aload_n hx hb d_M_trierTold_44 rfl (lv_at hl 3 rfl) ?_
    refine lv_aload_n hx hb d_M_trierTold_45 rfl (lv_at hl 3 rfl) ?_
    refine mg_0_aimWord C w k1108 d_M_trierTold_46 ?_
    obtain ⟨σ_14, h_13, hf⟩ := bp_e hf
    refine k_callV (As := [.ref (q (1 + 4))]) (rest := []) C w (c_M_asks (q := q) (j := 4) (by decide) h_13) cv_M_asks k1399 (mr_0 C w) (by decide) hl.1 rfl (Nat.le_of_ble_eq_true rfl) d_M_trierTold_49 (fun H locs w => ?_)
    show WK p l e s m _ below meth c 5 g (wM g q) A none σ2 H locs (F0 m 52 ls [])
    refine lv_aload_n hx hb d_M_trierTold_52 rfl (lv_at hl 3 rfl) ?_
    refine lv_iconst (v := 0) hx hb d_M_trierTold_53 (by decide) ?_
    refine lv_iconst (v := 5) hx hb d_M_trierTold_54 (by decide) ?_
    obtain ⟨r_16, σ_17, h_15, hf⟩ := bd_e hf
    refine k_callV (As := [.int 0, .int 5]) (rest := []) C w (c_M_number (q := q) h_15) cv_M_number k1403 (mr_0 C w) (by decide) hl.1 rfl (Nat.le_of_ble_eq_true rfl) d_M_trierTold_55 (fun H locs w => ?_)
    show WK p l e s m _ below meth c 5 g (wM g q) A none σ2 H locs (F0 m 58 ls [.int r_16])
    refine lv_istore (lv' := [(6, .int r_16), (5, .int r_11), (3, .long r_6), (2, .int x_4), (0, .ref (q 0)), (1, .int x1)]) hx hb d_M_trierTold_58 hl (by decide) rfl (fun ls hl => ?_)
    refine lv_aload_n hx hb d_M_trierTold_60 rfl (lv_at hl 4 rfl) ?_
    refine lv_aload_n hx hb d_M_trierTold_61 rfl (lv_at hl 4 rfl) ?_
    refine mg_0_tiresWord C w k1109 d_M_trierTold_62 ?_
    obtain ⟨σ_19, h_18, hf⟩ := bp_e hf
    refine k_callV (As := [.ref (q (1 + 5))]) (rest := []) C w (c_M_asks (q := q) (j := 5) (by decide) h_18) cv_M_asks k1399 (mr_0 C w) (by decide) hl.1 rfl (Nat.le_of_ble_eq_true rfl) d_M_trierTold_65 (fun H locs w => ?_)
    show WK p l e s m _ below meth c 5 g (wM g q) A none σ2 H locs (F0 m 68 ls [])
    refine lv_aload_n hx hb d_M_trierTold_68 rfl (lv_at hl 4 rfl) ?_
    refine lv_iconst (v := 0) hx hb d_M_trierTold_69 (by decide) ?_
    refine lv_bipush (v := 20) hx hb d_M_trierTold_70 (by decide) ?_
    obtain ⟨r_21, σ_22, h_20, hf⟩ := bd_e hf
    refine k_callV (As := [.int 0, .int 20]) (rest := []) C w (c_M_number (q := q) h_20) cv_M_number k1403 (mr_0 C w) (by decide) hl.1 rfl (Nat.le_of_ble_eq_true rfl) d_M_trierTold_72 (fun H locs w => ?_)
    show WK p l e s m _ below meth c 5 g (wM g q) A none σ2 H locs (F0 m 75 ls [.int r_21])
    refine lv_istore (lv' := [(7, .int r_21), (6, .int r_16), (5, .int r_11), (3, .long r_6), (2, .int x_4), (0, .ref (q 0)), (1, .int x1)]) hx hb d_M_trierTold_75 hl (by decide) rfl (fun ls hl => ?_)
    refine lv_aload_n hx hb d_M_trierTold_77 rfl (lv_at hl 5 rfl) ?_
    refine lv_aload_n hx hb d_M_trierTold_78 rfl (lv_at hl 5 rfl) ?_
    refine mg_0_coinsWord C w k1110 d_M_trierTold_79 ?_
    obtain ⟨σ_24, h_23, hf⟩ := bp_e hf
    refine k_callV (As := [.ref (q (1 + 6))]) (rest := []) C w (c_M_asks (q := q) (j := 6) (by decide) h_23) cv_M_asks k1399 (mr_0 C w) (by decide) hl.1 rfl (Nat.le_of_ble_eq_true rfl) d_M_trierTold_82 (fun H locs w => ?_)
    show WK p l e s m _ below meth c 5 g (wM g q) A none σ2 H locs (F0 m 85 ls [])
    refine lv_aload_n hx hb d_M_trierTold_85 rfl (lv_at hl 5 rfl) ?_
    refine lv_iconst (v := 0) hx hb d_M_trierTold_86 (by decide) ?_
    refine lv_bipush (v := 99) hx hb d_M_trierTold_87 (by decide) ?_
    obtain ⟨r_26, σ_27, h_25, hf⟩ := bd_e hf
    refine k_callV (As := [.int 0, .int 99]) (rest := []) C w (c_M_number (q := q) h_25) cv_M_number k1403 (mr_0 C w) (by decide) hl.1 rfl (Nat.le_of_ble_eq_true rfl) d_M_trierTold_89 (fun H locs w => ?_)
    show WK p l e s m _ below meth c 5 g (wM g q) A none σ2 H locs (F0 m 92 ls [.int r_26])
    refine lv_istore (lv' := [(8, .int r_26), (7, .int r_21), (6, .int r_16), (5, .int r_11), (3, .long r_6), (2, .int x_4), (0, .ref (q 0)), (1, .int x1)]) hx hb d_M_trierTold_92 hl (by decide) rfl (fun ls hl => ?_)
    refine lv_aload_n hx hb d_M_trierTold_94 rfl (lv_at hl 6 rfl) ?_
    refine lv_aload_n hx hb d_M_trierTold_95 rfl (lv_at hl 6 rfl) ?_
    refine mg_0_staysWord C w k1111 d_M_trierTold_96 ?_
    obtain ⟨σ_29, h_28, hf⟩ := bp_e hf
    refine k_callV (As := [.ref (q (1 + 7))]) (rest := []) C w (c_M_asks (q := q) (j := 7) (by decide) h_28) cv_M_asks k1399 (mr_0 C w) (by decide) hl.1 rfl (Nat.le_of_ble_eq_true rfl) d_M_trierTold_99 (fun H locs w => ?_)
    show WK p l e s m _ below meth c 5 g (wM g q) A none σ2 H locs (F0 m 102 ls [])
    refine lv_aload_n hx hb d_M_trierTold_102 rfl (lv_at hl 6 rfl) ?_
    refine lv_iconst (v := 0) hx hb d_M_trierTold_103 (by decide) ?_
    refine lv_bipush (v := 99) hx hb d_M_trierTold_104 (by decide) ?_
    obtain ⟨r_31, σ_32, h_30, hf⟩ := bd_e hf
    refine k_callV (As := [.int 0, .int 99]) (rest := []) C w (c_M_number (q := q) h_30) cv_M_number k1403 (mr_0 C w) (by decide) hl.1 rfl (Nat.le_of_ble_eq_true rfl) d_M_trierTold_106 (fun H locs w => ?_)
    show WK p l e s m _ below meth c 5 g (wM g q) A none σ2 H locs (F0 m 109 ls [.int r_31])
    refine lv_istore (lv' := [(9, .int r_31), (8, .int r_26), (7, .int r_21), (6, .int r_16), (5, .int r_11), (3, .long r_6), (2, .int x_4), (0, .ref (q 0)), (1, .int x1)]) hx hb d_M_trierTold_109 hl (by decide) rfl (fun ls hl => ?_)
    refine lv_aload_n hx hb d_M_trierTold_111 rfl (lv_at hl 7 rfl) ?_
    refine lv_aload_n hx hb d_M_trierTold_112 rfl (lv_at hl 7 rfl) ?_
    refine mg_0_ladyWord C w k1112 d_M_trierTold_113 ?_
    obtain ⟨r_34, σ_35, h_33, hf⟩ := bd_e hf
    refine k_callV (As := [.ref (q (1 + 8))]) (rest := []) C w (c_M_takes (q := q) (j := 8) (by decide) h_33) cv_M_takes k1366 (mr_0 C w) (by decide) hl.1 rfl (Nat.le_of_ble_eq_true rfl) d_M_trierTold_116 (fun H locs w => ?_)
    show WK p l e s m _ below meth c 5 g (wM g q) A none σ2 H locs (F0 m 119 ls [.int r_34])
    refine lv_if_eq (tgt := 126) hx hb d_M_trierTold_119 (by decide) (fun cd => ?_) (fun cd => ?_)
    · have hf := it_e cd hf
      refine lv_iconst (v := 0) hx hb d_M_trierTold_126 (by decide) ?_
      exact t_M_trierTold_127 C  hf w (lv_sub hl [7, 6, 5, 4, 3, 2, 1, 0] rfl)
    · have hf := if_e cd hf
      refine lv_iconst (v := 1) hx hb d_M_trierTold_122 (by decide) ?_
      refine lv_goto (tgt := 127) hx hb d_M_trierTold_123 (by decide) ?_
      exact t_M_trierTold_127 C  hf w (lv_sub hl [7, 6, 5, 4, 3, 2, 1, 0] rfl)
  · have hf := if_e cd hf
    cases some_e hf
    exact k_vret C w d_M_trierTold_11
def f_M_markTold (x1 : Int32) (σ : St) : Option (St) :=
  bd (f_M_isFull 0 6 x1 σ) fun r_2 σ_3 =>
  if r_2 = 0 then
    lt ((sA σ_3 2 (0 : Int32).toNatClampNeg)) fun x_4 =>
    bd (f_M_newName σ_3) fun r_6 σ_7 =>
    bp (f_M_asks 1 σ_7) fun σ_9 =>
    bd (f_M_number 1 99 σ_9) fun r_11 σ_12 =>
    if (sI σ_12 4) = 0 then
      gd (inB x_4 32) <|
      lt (uB σ_12 0 (vp_updL (sB σ_12 0) x_4.toNatClampNeg r_6)) fun σ_14 =>
      gd (inB x_4 12) <|
      lt (uA σ_14 3 (upd (sA σ_14 3) x_4.toNatClampNeg r_11)) fun σ_16 =>
      lt (uA σ_16 2 (upd (sA σ_16 2) (0 : Int32).toNatClampNeg ((sA σ_16 2 (0 : Int32).toNatClampNeg) + 1))) fun σ_17 =>
      some σ_17
    else
      some σ_12
  else
    some σ_3
set_option maxHeartbeats 4000000 in
set_option maxRecDepth 20000 in
theorem c_M_markTold {l : Launch} {g : GX} {q : Nat → Nat} {x1 : Int32}  {σ : St} {σ2 : St} (hf : f_M_markTold  x1 σ = some σ2) : KK l y_M_markTold prog_13_method_19_code 6 none 5 g (wM g q) σ [.ref (q 0), .int x1] none (wM g q) σ2 := by
  refine KK_of (plainFor_of_name (by decide)) (Nat.le_of_ble_eq_true rfl) (fun p e s m below meth c A ls C w hl => ?_)
  have hl : lv_has ls 6 [(0, .ref (q 0)), (1, .int x1)] := hl
  obtain ⟨hx, hb, hml, hown, hts, hK, hA, hZ, hlocks, hr, hN⟩ := id C
  unfold f_M_markTold at hf
  refine lv_aload_n hx hb d_M_markTold_0 rfl (lv_at hl 0 rfl) ?_
  refine lv_iconst (v := 0) hx hb d_M_markTold_1 (by decide) ?_
  refine lv_bipush (v := 6) hx hb d_M_markTold_2 (by decide) ?_
  refine lv_iload_n hx hb d_M_markTold_4 rfl (lv_at hl 1 rfl) ?_
  obtain ⟨r_2, σ_3, h_1, hf⟩ := bd_e hf
  refine k_callV (As := [.int 0, .int 6, .int x1]) (rest := []) C w (c_M_isFull (q := q) h_1) cv_M_isFull k1381 (mr_0 C w) (by decide) hl.1 rfl (Nat.le_of_ble_eq_true rfl) d_M_markTold_5 (fun H locs w => ?_)
  show WK p l e s m _ below meth c 5 g (wM g q) A none σ2 H locs (F0 m 8 ls [.int r_2])
  refine lv_if_eq (tgt := 12) hx hb d_M_markTold_8 (by decide) (fun cd => ?_) (fun cd => ?_)
  · have hf := it_e cd hf
    refine lv_aload_n hx hb d_M_markTold_12 rfl (lv_at hl 0 rfl) ?_
    refine mg_0_many C w k1132 d_M_markTold_13 ?_
    refine lv_iconst (v := 0) hx hb d_M_markTold_16 (by decide) ?_
    refine ml_30 C w (by decide) d_M_markTold_17 ?_
    refine lv_topi (fun x_4 ex_4 => ?_)
    have hf := lt_e ex_4 hf
    refine lv_istore_n (lv' := [(2, .int x_4), (0, .ref (q 0)), (1, .int x1)]) hx hb d_M_markTold_18 rfl hl (by decide) rfl (fun ls hl => ?_)
    refine lv_aload_n hx hb d_M_markTold_19 rfl (lv_at hl 1 rfl) ?_
    obtain ⟨r_6, σ_7, h_5, hf⟩ := bd_e hf
    refine k_callV (As := []) (rest := []) C w (c_M_newName (q := q) h_5) cv_M_newName k1385 (mr_0 C w) (by decide) hl.1 rfl (Nat.le_of_ble_eq_true rfl) d_M_markTold_20 (fun H locs w => ?_)
    show WK p l e s m _ below meth c 5 g (wM g q) A none σ2 H locs (F0 m 23 ls [.long r_6])
    refine lv_lstore_n (lv' := [(3, .long r_6), (2, .int x_4), (0, .ref (q 0)), (1, .int x1)]) hx hb d_M_markTold_23 rfl hl (by decide) rfl (fun ls hl => ?_)
    refine lv_aload_n hx hb d_M_markTold_24 rfl (lv_at hl 2 rfl) ?_
    refine lv_aload_n hx hb d_M_markTold_25 rfl (lv_at hl 2 rfl) ?_
    refine mg_0_atWord C w k1105 d_M_markTold_26 ?_
    obtain ⟨σ_9, h_8, hf⟩ := bp_e hf
    refine k_callV (As := [.ref (q (1 + 1))]) (rest := []) C w (c_M_asks (q := q) (j := 1) (by decide) h_8) cv_M_asks k1399 (mr_0 C w) (by decide) hl.1 rfl (Nat.le_of_ble_eq_true rfl) d_M_markTold_29 (fun H locs w => ?_)
    show WK p l e s m _ below meth c 5 g (wM g q) A none σ2 H locs (F0 m 32 ls [])
    refine lv_aload_n hx hb d_M_markTold_32 rfl (lv_at hl 2 rfl) ?_
    refine lv_iconst (v := 1) hx hb d_M_markTold_33 (by decide) ?_
    refine lv_bipush (v := 99) hx hb d_M_markTold_34 (by decide) ?_
    obtain ⟨r_11, σ_12, h_10, hf⟩ := bd_e hf
    refine k_callV (As := [.int 1, .int 99]) (rest := []) C w (c_M_number (q := q) h_10) cv_M_number k1403 (mr_0 C w) (by decide) hl.1 rfl (Nat.le_of_ble_eq_true rfl) d_M_markTold_36 (fun H locs w => ?_)
    show WK p l e s m _ below meth c 5 g (wM g q) A none σ2 H locs (F0 m 39 ls [.int r_11])
    refine lv_istore (lv' := [(5, .int r_11), (3, .long r_6), (2, .int x_4), (0, .ref (q 0)), (1, .int x1)]) hx hb d_M_markTold_39 hl (by decide) rfl (fun ls hl => ?_)
    refine lv_aload_n hx hb d_M_markTold_41 rfl (lv_at hl 3 rfl) ?_
    refine mg_0_bad C w k1099 d_M_markTold_42 ?_
    refine lv_if_eq (tgt := 49) hx hb d_M_markTold_45 (by decide) (fun cd => ?_) (fun cd => ?_)
    · have hf := it_e cd hf
      refine lv_aload_n hx hb d_M_markTold_49 rfl (lv_at hl 3 rfl) ?_
      refine mg_0_names C w k1133 d_M_markTold_50 ?_
      refine lv_iload_n hx hb d_M_markTold_53 rfl (lv_at hl 2 rfl) ?_
      refine lv_lload_n hx hb d_M_markTold_54 rfl (lv_at hl 1 rfl) ?_
      obtain ⟨g_13, hf⟩ := gd_e hf
      refine ms_31 C w g_13 d_M_markTold_55 (fun σ_14 H locs eσ_14 w => ?_)
      have hf := lt_e eσ_14 hf
      refine lv_aload_n hx hb d_M_markTold_56 rfl (lv_at hl 3 rfl) ?_
      refine mg_0_marks C w k1134 d_M_markTold_57 ?_
      refine lv_iload_n hx hb d_M_markTold_60 rfl (lv_at hl 2 rfl) ?_
      refine lv_iload hx hb d_M_markTold_61 (lv_at hl 0 rfl) ?_
      obtain ⟨g_15, hf⟩ := gd_e hf
      refine ms_32 C w g_15 d_M_markTold_63 (fun σ_16 H locs eσ_16 w => ?_)
      have hf := lt_e eσ_16 hf
      refine lv_aload_n hx hb d_M_markTold_64 rfl (lv_at hl 3 rfl) ?_
      refine mg_0_many C w k1132 d_M_markTold_65 ?_
      refine lv_iconst (v := 0) hx hb d_M_markTold_68 (by decide) ?_
      refine lv_dup2_11 hx hb d_M_markTold_69 rfl rfl ?_
      refine ml_30 C w (by decide) d_M_markTold_70 ?_
      refine lv_iconst (v := 1) hx hb d_M_markTold_71 (by decide) ?_
      refine lv_iadd hx hb d_M_markTold_72 ?_
      refine ms_30 C w (by decide) d_M_markTold_73 (fun σ_17 H locs eσ_17 w => ?_)
      have hf := lt_e eσ_17 hf
      cases some_e hf
      exact k_vret C w d_M_markTold_74
    · have hf := if_e cd hf
      cases some_e hf
      exact k_vret C w d_M_markTold_48
  · have hf := if_e cd hf
    cases some_e hf
    exact k_vret C w d_M_markTold_11
def f_M_statementTold_82 (σ : St) : Option (St) :=
  bp (f_M_asksSign 59 σ) fun σ_2 =>
  lt (uI σ_2 9 ((sI σ_2 9) + 1)) fun σ_3 =>
  some σ_3
def f_M_statementTold (σ : St) : Option (St) :=
  lt ((sI σ 1)) fun x_1 =>
  if (sI σ 9) = 70 then
    bp (f_M_fail 5 x_1 σ) fun σ_20 =>
    some σ_20
  else
    bd (f_M_takes 0 σ) fun r_3 σ_4 =>
    if r_3 = 0 then
      bd (f_M_takes 2 σ_4) fun r_6 σ_7 =>
      if r_6 = 0 then
        bd (f_M_takes 9 σ_7) fun r_9 σ_10 =>
        if r_9 = 0 then
          bp (f_M_settingTold σ_10) fun σ_12 =>
          f_M_statementTold_82 σ_12
        else
          bp (f_M_ruleTold x_1 σ_10) fun σ_14 =>
          f_M_statementTold_82 σ_14
      else
        bp (f_M_trierTold x_1 σ_7) fun σ_16 =>
        f_M_statementTold_82 σ_16
    else
      bp (f_M_markTold x_1 σ_4) fun σ_18 =>
      f_M_statementTold_82 σ_18
set_option maxHeartbeats 4000000 in
set_option maxRecDepth 20000 in
theorem t_M_statementTold_82 {σ2 : St} (C : Cx g A p s m av meth c prog_13_method_24_code 2 "BellHammerModel" none)  {σ : St} {H : Heap} {locs : List Loc} {ls : Array Slot} (hf : f_M_statementTold_82    σ = some σ2) (w : Wd g (wM g q) A s σ H locs) (hl : lv_has ls 2 [(0, .ref (q 0))]) : WK p l e s m av below meth c 9 g (wM g q) A none σ2 H locs (F0 m 82 ls []) := by
  obtain ⟨hx, hb, hml, hown, hts, hK, hA, hZ, hlocks, hr, hN⟩ := id C
  unfold f_M_statementTold_82 at hf
  refine lv_aload_n hx hb d_M_statementTold_82 rfl (lv_at hl 0 rfl) ?_
  refine lv_bipush (v := 59) hx hb d_M_statementTold_83 (by decide) ?_
  obtain ⟨σ_2, h_1, hf⟩ := bp_e hf
  refine k_callV (As := [.int 59]) (rest := []) C w (c_M_asksSign (q := q) h_1) cv_M_asksSign k1449 (mr_0 C w) (by decide) hl.1 rfl (Nat.le_of_ble_eq_true rfl) d_M_statementTold_85 (fun H locs w => ?_)
  show WK p l e s m av below meth c 9 g (wM g q) A none σ2 H locs (F0 m 88 ls [])
  refine lv_aload_n hx hb d_M_statementTold_88 rfl (lv_at hl 0 rfl) ?_
  refine lv_dup hx hb d_M_statementTold_89 rfl ?_
  refine mg_0_statements C w k1137 d_M_statementTold_90 ?_
  refine lv_iconst (v := 1) hx hb d_M_statementTold_93 (by decide) ?_
  refine lv_iadd hx hb d_M_statementTold_94 ?_
  refine mp_0_statements C w k1137 d_M_statementTold_95 (fun σ_3 H locs eσ_3 w => ?_)
  have hf := lt_e eσ_3 hf
  cases some_e hf
  exact k_vret C w d_M_statementTold_98
set_option maxHeartbeats 4000000 in
set_option maxRecDepth 20000 in
theorem c_M_statementTold {l : Launch} {g : GX} {q : Nat → Nat}  {σ : St} {σ2 : St} (hf : f_M_statementTold   σ = some σ2) : KK l y_M_statementTold prog_13_method_24_code 2 none 9 g (wM g q) σ [.ref (q 0)] none (wM g q) σ2 := by
  refine KK_of (plainFor_of_name (by decide)) (Nat.le_of_ble_eq_true rfl) (fun p e s m below meth c A ls C w hl => ?_)
  have hl : lv_has ls 2 [(0, .ref (q 0))] := hl
  obtain ⟨hx, hb, hml, hown, hts, hK, hA, hZ, hlocks, hr, hN⟩ := id C
  unfold f_M_statementTold at hf
  refine lv_aload_n hx hb d_M_statementTold_0 rfl (lv_at hl 0 rfl) ?_
  refine mg_0_at C w k1096 d_M_statementTold_1 ?_
  refine lv_topi (fun x_1 ex_1 => ?_)
  have hf := lt_e ex_1 hf
  refine lv_istore_n (lv' := [(1, .int x_1), (0, .ref (q 0))]) hx hb d_M_statementTold_4 rfl hl (by decide) rfl (fun ls hl => ?_)
  refine lv_aload_n hx hb d_M_statementTold_5 rfl (lv_at hl 1 rfl) ?_
  refine mg_0_statements C w k1137 d_M_statementTold_6 ?_
  refine lv_bipush (v := 70) hx hb d_M_statementTold_9 (by decide) ?_
  refine lv_icmp_ne (tgt := 21) hx hb d_M_statementTold_11 (by decide) (fun cd => ?_) (fun cd => ?_)
  · have hf := if_e cd hf
    refine lv_aload_n hx hb d_M_statementTold_21 rfl (lv_at hl 1 rfl) ?_
    refine lv_aload_n hx hb d_M_statementTold_22 rfl (lv_at hl 1 rfl) ?_
    refine mg_0_markWord C w k1104 d_M_statementTold_23 ?_
    obtain ⟨r_3, σ_4, h_2, hf⟩ := bd_e hf
    refine k_callV (As := [.ref (q (1 + 0))]) (rest := []) C w (c_M_takes (q := q) (j := 0) (by decide) h_2) cv_M_takes k1366 (mr_0 C w) (by decide) hl.1 rfl (Nat.le_of_ble_eq_true rfl) d_M_statementTold_26 (fun H locs w => ?_)
    show WK p l e s m _ below meth c 9 g (wM g q) A none σ2 H locs (F0 m 29 ls [.int r_3])
    refine lv_if_eq (tgt := 40) hx hb d_M_statementTold_29 (by decide) (fun cd => ?_) (fun cd => ?_)
    · have hf := it_e cd hf
      refine lv_aload_n hx hb d_M_statementTold_40 rfl (lv_at hl 1 rfl) ?_
      refine lv_aload_n hx hb d_M_statementTold_41 rfl (lv_at hl 1 rfl) ?_
      refine mg_0_trierWord C w k1106 d_M_statementTold_42 ?_
      obtain ⟨r_6, σ_7, h_5, hf⟩ := bd_e hf
      refine k_callV (As := [.ref (q (1 + 2))]) (rest := []) C w (c_M_takes (q := q) (j := 2) (by decide) h_5) cv_M_takes k1366 (mr_0 C w) (by decide) hl.1 rfl (Nat.le_of_ble_eq_true rfl) d_M_statementTold_45 (fun H locs w => ?_)
      show WK p l e s m _ below meth c 9 g (wM g q) A none σ2 H locs (F0 m 48 ls [.int r_6])
      refine lv_if_eq (tgt := 59) hx hb d_M_statementTold_48 (by decide) (fun cd => ?_) (fun cd => ?_)
      · have hf := it_e cd hf
        refine lv_aload_n hx hb d_M_statementTold_59 rfl (lv_at hl 1 rfl) ?_
        refine lv_aload_n hx hb d_M_statementTold_60 rfl (lv_at hl 1 rfl) ?_
        refine mg_0_leanWord C w k1113 d_M_statementTold_61 ?_
        obtain ⟨r_9, σ_10, h_8, hf⟩ := bd_e hf
        refine k_callV (As := [.ref (q (1 + 9))]) (rest := []) C w (c_M_takes (q := q) (j := 9) (by decide) h_8) cv_M_takes k1366 (mr_0 C w) (by decide) hl.1 rfl (Nat.le_of_ble_eq_true rfl) d_M_statementTold_64 (fun H locs w => ?_)
        show WK p l e s m _ below meth c 9 g (wM g q) A none σ2 H locs (F0 m 67 ls [.int r_9])
        refine lv_if_eq (tgt := 78) hx hb d_M_statementTold_67 (by decide) (fun cd => ?_) (fun cd => ?_)
        · have hf := it_e cd hf
          refine lv_aload_n hx hb d_M_statementTold_78 rfl (lv_at hl 1 rfl) ?_
          obtain ⟨σ_12, h_11, hf⟩ := bp_e hf
          refine k_callV (As := []) (rest := []) C w (c_M_settingTold (q := q) h_11) cv_M_settingTold k1493 (mr_0 C w) (by decide) hl.1 rfl (Nat.le_of_ble_eq_true rfl) d_M_statementTold_79 (fun H locs w => ?_)
          show WK p l e s m _ below meth c 9 g (wM g q) A none σ2 H locs (F0 m 82 ls [])
          exact t_M_statementTold_82 C  hf w (lv_sub hl [1] rfl)
        · have hf := if_e cd hf
          refine lv_aload_n hx hb d_M_statementTold_70 rfl (lv_at hl 1 rfl) ?_
          refine lv_iload_n hx hb d_M_statementTold_71 rfl (lv_at hl 0 rfl) ?_
          obtain ⟨σ_14, h_13, hf⟩ := bp_e hf
          refine k_callV (As := [.int x_1]) (rest := []) C w (c_M_ruleTold (q := q) h_13) cv_M_ruleTold k1417 (mr_0 C w) (by decide) hl.1 rfl (Nat.le_of_ble_eq_true rfl) d_M_statementTold_72 (fun H locs w => ?_)
          show WK p l e s m _ below meth c 9 g (wM g q) A none σ2 H locs (F0 m 75 ls [])
          refine lv_goto (tgt := 82) hx hb d_M_statementTold_75 (by decide) ?_
          exact t_M_statementTold_82 C  hf w (lv_sub hl [1] rfl)
      · have hf := if_e cd hf
        refine lv_aload_n hx hb d_M_statementTold_51 rfl (lv_at hl 1 rfl) ?_
        refine lv_iload_n hx hb d_M_statementTold_52 rfl (lv_at hl 0 rfl) ?_
        obtain ⟨σ_16, h_15, hf⟩ := bp_e hf
        refine k_callV (As := [.int x_1]) (rest := []) C w (c_M_trierTold (q := q) h_15) cv_M_trierTold k1413 (mr_0 C w) (by decide) hl.1 rfl (Nat.le_of_ble_eq_true rfl) d_M_statementTold_53 (fun H locs w => ?_)
        show WK p l e s m _ below meth c 9 g (wM g q) A none σ2 H locs (F0 m 56 ls [])
        refine lv_goto (tgt := 82) hx hb d_M_statementTold_56 (by decide) ?_
        exact t_M_statementTold_82 C  hf w (lv_sub hl [1] rfl)
    · have hf := if_e cd hf
      refine lv_aload_n hx hb d_M_statementTold_32 rfl (lv_at hl 1 rfl) ?_
      refine lv_iload_n hx hb d_M_statementTold_33 rfl (lv_at hl 0 rfl) ?_
      obtain ⟨σ_18, h_17, hf⟩ := bp_e hf
      refine k_callV (As := [.int x_1]) (rest := []) C w (c_M_markTold (q := q) h_17) cv_M_markTold k1377 (mr_0 C w) (by decide) hl.1 rfl (Nat.le_of_ble_eq_true rfl) d_M_statementTold_34 (fun H locs w => ?_)
      show WK p l e s m _ below meth c 9 g (wM g q) A none σ2 H locs (F0 m 37 ls [])
      refine lv_goto (tgt := 82) hx hb d_M_statementTold_37 (by decide) ?_
      exact t_M_statementTold_82 C  hf w (lv_sub hl [1] rfl)
  · have hf := it_e cd hf
    refine lv_aload_n hx hb d_M_statementTold_14 rfl (lv_at hl 1 rfl) ?_
    refine lv_iconst (v := 5) hx hb d_M_statementTold_15 (by decide) ?_
    refine lv_iload_n hx hb d_M_statementTold_16 rfl (lv_at hl 0 rfl) ?_
    obtain ⟨σ_20, h_19, hf⟩ := bp_e hf
    refine k_callV (As := [.int 5, .int x_1]) (rest := []) C w (c_M_fail (q := q) h_19) cv_M_fail k1362 (mr_0 C w) (by decide) hl.1 rfl (Nat.le_of_ble_eq_true rfl) d_M_statementTold_17 (fun H locs w => ?_)
    show WK p l e s m _ below meth c 9 g (wM g q) A none σ2 H locs (F0 m 20 ls [])
    cases some_e hf
    exact k_vret C w d_M_statementTold_20
def f_M_fair_153 (σ : St) : Option (Int32 × St) :=
  lt (uI σ 6 (sI σ 4)) fun σ_1 =>
  lt (uI σ_1 7 (sI σ_1 5)) fun σ_2 =>
  if (sI σ_2 4) = 0 then
    bp (f_M_stands σ_2) fun σ_4 =>
    some ((sI σ_4 9), σ_4)
  else
    lt (uA σ_2 1 (upd (sA σ_2 1) (1 : Int32).toNatClampNeg ((sA σ_2 1 (1 : Int32).toNatClampNeg) + 1))) fun σ_5 =>
    some ((-1), σ_5)
def f_M_fair_131b (k131 : St → Option (Int32 × St)) (σ : St) : Option (Int32 × St) :=
  if (sI σ 4) = 0 then
    bd (f_M_look σ) fun r_2 σ_3 =>
    if r_2 = (-1) then
      f_M_fair_153 σ_3
    else
      bp (f_M_statementTold σ_3) fun σ_5 =>
      k131 σ_5
  else
    f_M_fair_153 σ
def f_M_fair_131 : Nat → St → Option (Int32 × St)
  | 0 => fun  _ => none
  | n + 1 => f_M_fair_131b   (f_M_fair_131   n)
def f_M_fair_45b (k45 : Int32 → St → Option (Int32 × St)) (x1 : Int32) (σ : St) : Option (Int32 × St) :=
  if 3 ≤ x1 then
    lt (uA σ 5 (upd (sA σ 5) (0 : Int32).toNatClampNeg 50)) fun σ_1 =>
    lt (uA σ_1 5 (upd (sA σ_1 5) (1 : Int32).toNatClampNeg 1)) fun σ_2 =>
    lt (uA σ_2 5 (upd (sA σ_2 5) (2 : Int32).toNatClampNeg 3)) fun σ_3 =>
    lt (uA σ_3 5 (upd (sA σ_3 5) (3 : Int32).toNatClampNeg 20)) fun σ_4 =>
    lt (uA σ_4 5 (upd (sA σ_4 5) (4 : Int32).toNatClampNeg 0)) fun σ_5 =>
    lt (uA σ_5 5 (upd (sA σ_5 5) (5 : Int32).toNatClampNeg 3)) fun σ_6 =>
    lt (uA σ_6 5 (upd (sA σ_6 5) (6 : Int32).toNatClampNeg 3)) fun σ_7 =>
    lt (uA σ_7 5 (upd (sA σ_7 5) (7 : Int32).toNatClampNeg 1)) fun σ_8 =>
    lt (uA σ_8 5 (upd (sA σ_8 5) (8 : Int32).toNatClampNeg 0)) fun σ_9 =>
    f_M_fair_131 FU σ_9
  else
    gd (inB x1 6) <|
    lt (uA σ 2 (upd (sA σ 2) x1.toNatClampNeg 0)) fun σ_11 =>
    lt ((x1 + 1)) fun x_12 =>
    k45 x_12 σ_11
def f_M_fair_45 : Nat → Int32 → St → Option (Int32 × St)
  | 0 => fun _ _ => none
  | n + 1 => f_M_fair_45b   (f_M_fair_45   n)
def f_M_fair (σ : St) : Option (Int32 × St) :=
  lt (uI σ 2 (sI σ 0)) fun σ_1 =>
  lt (uI σ_1 0 0) fun σ_2 =>
  lt (uI σ_2 1 0) fun σ_3 =>
  lt (uI σ_3 3 (-1)) fun σ_4 =>
  lt (uI σ_4 4 0) fun σ_5 =>
  lt (uI σ_5 5 (-1)) fun σ_6 =>
  lt (uI σ_6 9 0) fun σ_7 =>
  lt (uI σ_7 10 0) fun σ_8 =>
  f_M_fair_45 FU 0 σ_8
set_option maxHeartbeats 4000000 in
set_option maxRecDepth 20000 in
theorem t_M_fair_153 {r : Int32} {σ2 : St} (C : Cx g A p s m av meth c prog_13_method_25_code 2 "BellHammerModel" (some .int))  {σ : St} {H : Heap} {locs : List Loc} {ls : Array Slot} (hf : f_M_fair_153    σ = some (r, σ2)) (w : Wd g (wM g q) A s σ H locs) (hl : lv_has ls 2 [(0, .ref (q 0))]) : WK p l e s m av below meth c 10 g (wM g q) A (some (.int r)) σ2 H locs (F0 m 153 ls []) := by
  obtain ⟨hx, hb, hml, hown, hts, hK, hA, hZ, hlocks, hr, hN⟩ := id C
  unfold f_M_fair_153 at hf
  refine lv_aload_n hx hb d_M_fair_153 rfl (lv_at hl 0 rfl) ?_
  refine lv_aload_n hx hb d_M_fair_154 rfl (lv_at hl 0 rfl) ?_
  refine mg_0_bad C w k1099 d_M_fair_155 ?_
  refine mp_0_fault C w k1101 d_M_fair_158 (fun σ_1 H locs eσ_1 w => ?_)
  have hf := lt_e eσ_1 hf
  refine lv_aload_n hx hb d_M_fair_161 rfl (lv_at hl 0 rfl) ?_
  refine lv_aload_n hx hb d_M_fair_162 rfl (lv_at hl 0 rfl) ?_
  refine mg_0_badPlace C w k1100 d_M_fair_163 ?_
  refine mp_0_faultPlace C w k1102 d_M_fair_166 (fun σ_2 H locs eσ_2 w => ?_)
  have hf := lt_e eσ_2 hf
  refine lv_aload_n hx hb d_M_fair_169 rfl (lv_at hl 0 rfl) ?_
  refine mg_0_bad C w k1099 d_M_fair_170 ?_
  refine lv_if_eq (tgt := 188) hx hb d_M_fair_173 (by decide) (fun cd => ?_) (fun cd => ?_)
  · have hf := it_e cd hf
    refine lv_aload_n hx hb d_M_fair_188 rfl (lv_at hl 0 rfl) ?_
    obtain ⟨σ_4, h_3, hf⟩ := bp_e hf
    refine k_callV (As := []) (rest := []) C w (c_M_stands (q := q) h_3) cv_M_stands k1497 (mr_0 C w) (by decide) hl.1 rfl (Nat.le_of_ble_eq_true rfl) d_M_fair_189 (fun H locs w => ?_)
    show WK p l e s m av below meth c 10 g (wM g q) A (some (.int r)) σ2 H locs (F0 m 192 ls [])
    refine lv_aload_n hx hb d_M_fair_192 rfl (lv_at hl 0 rfl) ?_
    refine mg_0_statements C w k1137 d_M_fair_193 ?_
    obtain ⟨rfl, rfl⟩ := some2_e hf
    exact k_iret C w d_M_fair_196
  · have hf := if_e cd hf
    refine lv_aload_n hx hb d_M_fair_176 rfl (lv_at hl 0 rfl) ?_
    refine mg_0_refused C w k1103 d_M_fair_177 ?_
    refine lv_iconst (v := 1) hx hb d_M_fair_180 (by decide) ?_
    refine lv_dup2_11 hx hb d_M_fair_181 rfl rfl ?_
    refine ml_29 C w (by decide) d_M_fair_182 ?_
    refine lv_iconst (v := 1) hx hb d_M_fair_183 (by decide) ?_
    refine lv_iadd hx hb d_M_fair_184 ?_
    refine ms_29 C w (by decide) d_M_fair_185 (fun σ_5 H locs eσ_5 w => ?_)
    have hf := lt_e eσ_5 hf
    refine lv_iconst (v := (-1)) hx hb d_M_fair_186 (by decide) ?_
    obtain ⟨rfl, rfl⟩ := some2_e hf
    exact k_iret C w d_M_fair_187
set_option maxHeartbeats 4000000 in
set_option maxRecDepth 20000 in
theorem t_M_fair_131b {r : Int32} {σ2 : St} (C : Cx g A p s m av meth c prog_13_method_25_code 2 "BellHammerModel" (some .int)) {k131 : St → Option (Int32 × St)} (hk131 : ∀  (σ : St) (H : Heap) (locs : List Loc) (ls : Array Slot), k131  σ = some (r, σ2) → Wd g (wM g q) A s σ H locs → lv_has ls 2 [(0, .ref (q 0))] → WK p l e s m av below meth c 10 g (wM g q) A (some (.int r)) σ2 H locs (F0 m 131 ls []))  {σ : St} {H : Heap} {locs : List Loc} {ls : Array Slot} (hf : f_M_fair_131b  k131  σ = some (r, σ2)) (w : Wd g (wM g q) A s σ H locs) (hl : lv_has ls 2 [(0, .ref (q 0))]) : WK p l e s m av below meth c 10 g (wM g q) A (some (.int r)) σ2 H locs (F0 m 131 ls []) := by
  obtain ⟨hx, hb, hml, hown, hts, hK, hA, hZ, hlocks, hr, hN⟩ := id C
  unfold f_M_fair_131b at hf
  refine lv_aload_n hx hb d_M_fair_131 rfl (lv_at hl 0 rfl) ?_
  refine mg_0_bad C w k1099 d_M_fair_132 ?_
  refine lv_if_ne (tgt := 153) hx hb d_M_fair_135 (by decide) (fun cd => ?_) (fun cd => ?_)
  · have hf := if_e cd hf
    exact t_M_fair_153 C  hf w (lv_sub hl [0] rfl)
  · have hf := it_e cd hf
    refine lv_aload_n hx hb d_M_fair_138 rfl (lv_at hl 0 rfl) ?_
    obtain ⟨r_2, σ_3, h_1, hf⟩ := bd_e hf
    refine k_callV (As := []) (rest := []) C w (c_M_look (q := q) h_1) cv_M_look k1354 (mr_0 C w) (by decide) hl.1 rfl (Nat.le_of_ble_eq_true rfl) d_M_fair_139 (fun H locs w => ?_)
    show WK p l e s m av below meth c 10 g (wM g q) A (some (.int r)) σ2 H locs (F0 m 142 ls [.int r_2])
    refine lv_iconst (v := (-1)) hx hb d_M_fair_142 (by decide) ?_
    refine lv_icmp_eq (tgt := 153) hx hb d_M_fair_143 (by decide) (fun cd => ?_) (fun cd => ?_)
    · have hf := it_e cd hf
      exact t_M_fair_153 C  hf w (lv_sub hl [0] rfl)
    · have hf := if_e cd hf
      refine lv_aload_n hx hb d_M_fair_146 rfl (lv_at hl 0 rfl) ?_
      obtain ⟨σ_5, h_4, hf⟩ := bp_e hf
      refine k_callV (As := []) (rest := []) C w (c_M_statementTold (q := q) h_4) cv_M_statementTold k1358 (mr_0 C w) (by decide) hl.1 rfl (Nat.le_of_ble_eq_true rfl) d_M_fair_147 (fun H locs w => ?_)
      show WK p l e s m av below meth c 10 g (wM g q) A (some (.int r)) σ2 H locs (F0 m 150 ls [])
      refine lv_goto (tgt := 131) hx hb d_M_fair_150 (by decide) ?_
      exact hk131  σ_5 _ _ _ hf w (lv_sub hl [0] rfl)
set_option maxHeartbeats 4000000 in
set_option maxRecDepth 20000 in
theorem t_M_fair_131 {r : Int32} {σ2 : St} (C : Cx g A p s m av meth c prog_13_method_25_code 2 "BellHammerModel" (some .int))  : ∀ (n : Nat)  (σ : St) (H : Heap) (locs : List Loc) (ls : Array Slot), f_M_fair_131   n  σ = some (r, σ2) → Wd g (wM g q) A s σ H locs → lv_has ls 2 [(0, .ref (q 0))] → WK p l e s m av below meth c 10 g (wM g q) A (some (.int r)) σ2 H locs (F0 m 131 ls []) := by
  intro n
  induction n with
  | zero => intro  σ H locs ls hf; exact absurd hf (by intro z; cases z)
  | succ n ih => intro  σ H locs ls hf w hl; exact t_M_fair_131b C  ih hf w hl
set_option maxHeartbeats 4000000 in
set_option maxRecDepth 20000 in
theorem t_M_fair_45b {r : Int32} {σ2 : St} (C : Cx g A p s m av meth c prog_13_method_25_code 2 "BellHammerModel" (some .int)) {k45 : Int32 → St → Option (Int32 × St)} (hk45 : ∀ (x1 : Int32) (σ : St) (H : Heap) (locs : List Loc) (ls : Array Slot), k45 x1 σ = some (r, σ2) → Wd g (wM g q) A s σ H locs → lv_has ls 2 [(0, .ref (q 0)), (1, .int x1)] → WK p l e s m av below meth c 10 g (wM g q) A (some (.int r)) σ2 H locs (F0 m 45 ls []))  {x1 : Int32} {σ : St} {H : Heap} {locs : List Loc} {ls : Array Slot} (hf : f_M_fair_45b  k45 x1 σ = some (r, σ2)) (w : Wd g (wM g q) A s σ H locs) (hl : lv_has ls 2 [(0, .ref (q 0)), (1, .int x1)]) : WK p l e s m av below meth c 10 g (wM g q) A (some (.int r)) σ2 H locs (F0 m 45 ls []) := by
  obtain ⟨hx, hb, hml, hown, hts, hK, hA, hZ, hlocks, hr, hN⟩ := id C
  unfold f_M_fair_45b at hf
  refine lv_iload_n hx hb d_M_fair_45 rfl (lv_at hl 1 rfl) ?_
  refine lv_iconst (v := 3) hx hb d_M_fair_46 (by decide) ?_
  refine lv_icmp_ge (tgt := 63) hx hb d_M_fair_47 (by decide) (fun cd => ?_) (fun cd => ?_)
  · have hf := it_e cd hf
    refine lv_aload_n hx hb d_M_fair_63 rfl (lv_at hl 0 rfl) ?_
    refine mg_0_told C w k1136 d_M_fair_64 ?_
    refine lv_iconst (v := 0) hx hb d_M_fair_67 (by decide) ?_
    refine lv_bipush (v := 50) hx hb d_M_fair_68 (by decide) ?_
    refine ms_34 C w (by decide) d_M_fair_70 (fun σ_1 H locs eσ_1 w => ?_)
    have hf := lt_e eσ_1 hf
    refine lv_aload_n hx hb d_M_fair_71 rfl (lv_at hl 0 rfl) ?_
    refine mg_0_told C w k1136 d_M_fair_72 ?_
    refine lv_iconst (v := 1) hx hb d_M_fair_75 (by decide) ?_
    refine lv_iconst (v := 1) hx hb d_M_fair_76 (by decide) ?_
    refine ms_34 C w (by decide) d_M_fair_77 (fun σ_2 H locs eσ_2 w => ?_)
    have hf := lt_e eσ_2 hf
    refine lv_aload_n hx hb d_M_fair_78 rfl (lv_at hl 0 rfl) ?_
    refine mg_0_told C w k1136 d_M_fair_79 ?_
    refine lv_iconst (v := 2) hx hb d_M_fair_82 (by decide) ?_
    refine lv_iconst (v := 3) hx hb d_M_fair_83 (by decide) ?_
    refine ms_34 C w (by decide) d_M_fair_84 (fun σ_3 H locs eσ_3 w => ?_)
    have hf := lt_e eσ_3 hf
    refine lv_aload_n hx hb d_M_fair_85 rfl (lv_at hl 0 rfl) ?_
    refine mg_0_told C w k1136 d_M_fair_86 ?_
    refine lv_iconst (v := 3) hx hb d_M_fair_89 (by decide) ?_
    refine lv_bipush (v := 20) hx hb d_M_fair_90 (by decide) ?_
    refine ms_34 C w (by decide) d_M_fair_92 (fun σ_4 H locs eσ_4 w => ?_)
    have hf := lt_e eσ_4 hf
    refine lv_aload_n hx hb d_M_fair_93 rfl (lv_at hl 0 rfl) ?_
    refine mg_0_told C w k1136 d_M_fair_94 ?_
    refine lv_iconst (v := 4) hx hb d_M_fair_97 (by decide) ?_
    refine lv_iconst (v := 0) hx hb d_M_fair_98 (by decide) ?_
    refine ms_34 C w (by decide) d_M_fair_99 (fun σ_5 H locs eσ_5 w => ?_)
    have hf := lt_e eσ_5 hf
    refine lv_aload_n hx hb d_M_fair_100 rfl (lv_at hl 0 rfl) ?_
    refine mg_0_told C w k1136 d_M_fair_101 ?_
    refine lv_iconst (v := 5) hx hb d_M_fair_104 (by decide) ?_
    refine lv_iconst (v := 3) hx hb d_M_fair_105 (by decide) ?_
    refine ms_34 C w (by decide) d_M_fair_106 (fun σ_6 H locs eσ_6 w => ?_)
    have hf := lt_e eσ_6 hf
    refine lv_aload_n hx hb d_M_fair_107 rfl (lv_at hl 0 rfl) ?_
    refine mg_0_told C w k1136 d_M_fair_108 ?_
    refine lv_bipush (v := 6) hx hb d_M_fair_111 (by decide) ?_
    refine lv_iconst (v := 3) hx hb d_M_fair_113 (by decide) ?_
    refine ms_34 C w (by decide) d_M_fair_114 (fun σ_7 H locs eσ_7 w => ?_)
    have hf := lt_e eσ_7 hf
    refine lv_aload_n hx hb d_M_fair_115 rfl (lv_at hl 0 rfl) ?_
    refine mg_0_told C w k1136 d_M_fair_116 ?_
    refine lv_bipush (v := 7) hx hb d_M_fair_119 (by decide) ?_
    refine lv_iconst (v := 1) hx hb d_M_fair_121 (by decide) ?_
    refine ms_34 C w (by decide) d_M_fair_122 (fun σ_8 H locs eσ_8 w => ?_)
    have hf := lt_e eσ_8 hf
    refine lv_aload_n hx hb d_M_fair_123 rfl (lv_at hl 0 rfl) ?_
    refine mg_0_told C w k1136 d_M_fair_124 ?_
    refine lv_bipush (v := 8) hx hb d_M_fair_127 (by decide) ?_
    refine lv_iconst (v := 0) hx hb d_M_fair_129 (by decide) ?_
    refine ms_34 C w (by decide) d_M_fair_130 (fun σ_9 H locs eσ_9 w => ?_)
    have hf := lt_e eσ_9 hf
    exact t_M_fair_131 C  FU  σ_9 _ _ _ hf w (lv_sub hl [0] rfl)
  · have hf := if_e cd hf
    refine lv_aload_n hx hb d_M_fair_50 rfl (lv_at hl 0 rfl) ?_
    refine mg_0_many C w k1132 d_M_fair_51 ?_
    refine lv_iload_n hx hb d_M_fair_54 rfl (lv_at hl 1 rfl) ?_
    refine lv_iconst (v := 0) hx hb d_M_fair_55 (by decide) ?_
    obtain ⟨g_10, hf⟩ := gd_e hf
    refine ms_30 C w g_10 d_M_fair_56 (fun σ_11 H locs eσ_11 w => ?_)
    have hf := lt_e eσ_11 hf
    obtain ⟨x_12, ex_12⟩ : ∃ y : Int32, y = (x1 + 1) := ⟨_, rfl⟩
    have hf := lt_e ex_12 hf
    refine lv_iinc (v := x_12) (lv' := [(1, .int x_12), (0, .ref (q 0))]) hx hb d_M_fair_57 hl (k := 1) rfl (by rw [ex_12]; rfl) (by decide) rfl (fun ls hl => ?_)
    refine lv_goto (tgt := 45) hx hb d_M_fair_60 (by decide) ?_
    exact hk45 x_12 σ_11 _ _ _ hf w (lv_sub hl [1, 0] rfl)
set_option maxHeartbeats 4000000 in
set_option maxRecDepth 20000 in
theorem t_M_fair_45 {r : Int32} {σ2 : St} (C : Cx g A p s m av meth c prog_13_method_25_code 2 "BellHammerModel" (some .int))  : ∀ (n : Nat) (x1 : Int32) (σ : St) (H : Heap) (locs : List Loc) (ls : Array Slot), f_M_fair_45   n x1 σ = some (r, σ2) → Wd g (wM g q) A s σ H locs → lv_has ls 2 [(0, .ref (q 0)), (1, .int x1)] → WK p l e s m av below meth c 10 g (wM g q) A (some (.int r)) σ2 H locs (F0 m 45 ls []) := by
  intro n
  induction n with
  | zero => intro x1 σ H locs ls hf; exact absurd hf (by intro z; cases z)
  | succ n ih => intro x1 σ H locs ls hf w hl; exact t_M_fair_45b C  ih hf w hl
set_option maxHeartbeats 4000000 in
set_option maxRecDepth 20000 in
theorem c_M_fair {l : Launch} {g : GX} {q : Nat → Nat}  {σ : St} {r : Int32} {σ2 : St} (hf : f_M_fair   σ = some (r, σ2)) : KK l y_M_fair prog_13_method_25_code 2 (some .int) 10 g (wM g q) σ [.ref (q 0)] (some (.int r)) (wM g q) σ2 := by
  refine KK_of (plainFor_of_name (by decide)) (Nat.le_of_ble_eq_true rfl) (fun p e s m below meth c A ls C w hl => ?_)
  have hl : lv_has ls 2 [(0, .ref (q 0))] := hl
  obtain ⟨hx, hb, hml, hown, hts, hK, hA, hZ, hlocks, hr, hN⟩ := id C
  unfold f_M_fair at hf
  refine lv_aload_n hx hb d_M_fair_0 rfl (lv_at hl 0 rfl) ?_
  refine lv_aload_n hx hb d_M_fair_1 rfl (lv_at hl 0 rfl) ?_
  refine mg_0_taped C w k1095 d_M_fair_2 ?_
  refine mp_0_end C w k1097 d_M_fair_5 (fun σ_1 H locs eσ_1 w => ?_)
  have hf := lt_e eσ_1 hf
  refine lv_aload_n hx hb d_M_fair_8 rfl (lv_at hl 0 rfl) ?_
  refine lv_iconst (v := 0) hx hb d_M_fair_9 (by decide) ?_
  refine mp_0_taped C w k1095 d_M_fair_10 (fun σ_2 H locs eσ_2 w => ?_)
  have hf := lt_e eσ_2 hf
  refine lv_aload_n hx hb d_M_fair_13 rfl (lv_at hl 0 rfl) ?_
  refine lv_iconst (v := 0) hx hb d_M_fair_14 (by decide) ?_
  refine mp_0_at C w k1096 d_M_fair_15 (fun σ_3 H locs eσ_3 w => ?_)
  have hf := lt_e eσ_3 hf
  refine lv_aload_n hx hb d_M_fair_18 rfl (lv_at hl 0 rfl) ?_
  refine lv_iconst (v := (-1)) hx hb d_M_fair_19 (by decide) ?_
  refine mp_0_ended C w k1098 d_M_fair_20 (fun σ_4 H locs eσ_4 w => ?_)
  have hf := lt_e eσ_4 hf
  refine lv_aload_n hx hb d_M_fair_23 rfl (lv_at hl 0 rfl) ?_
  refine lv_iconst (v := 0) hx hb d_M_fair_24 (by decide) ?_
  refine mp_0_bad C w k1099 d_M_fair_25 (fun σ_5 H locs eσ_5 w => ?_)
  have hf := lt_e eσ_5 hf
  refine lv_aload_n hx hb d_M_fair_28 rfl (lv_at hl 0 rfl) ?_
  refine lv_iconst (v := (-1)) hx hb d_M_fair_29 (by decide) ?_
  refine mp_0_badPlace C w k1100 d_M_fair_30 (fun σ_6 H locs eσ_6 w => ?_)
  have hf := lt_e eσ_6 hf
  refine lv_aload_n hx hb d_M_fair_33 rfl (lv_at hl 0 rfl) ?_
  refine lv_iconst (v := 0) hx hb d_M_fair_34 (by decide) ?_
  refine mp_0_statements C w k1137 d_M_fair_35 (fun σ_7 H locs eσ_7 w => ?_)
  have hf := lt_e eσ_7 hf
  refine lv_aload_n hx hb d_M_fair_38 rfl (lv_at hl 0 rfl) ?_
  refine lv_iconst (v := 0) hx hb d_M_fair_39 (by decide) ?_
  refine mp_0_coded C w k1139 d_M_fair_40 (fun σ_8 H locs eσ_8 w => ?_)
  have hf := lt_e eσ_8 hf
  refine lv_iconst (v := 0) hx hb d_M_fair_43 (by decide) ?_
  refine lv_istore_n (lv' := [(1, .int 0), (0, .ref (q 0))]) hx hb d_M_fair_44 rfl hl (by decide) rfl (fun ls hl => ?_)
  exact t_M_fair_45 C  FU 0 σ_8 _ _ _ hf w (lv_sub hl [1, 0] rfl)
def f_M_fault (x1 : Int32) (σ : St) : Option (Int32) :=
  if x1 = 0 then
    some (sI σ 6)
  else
    if x1 = 1 then
      some (sI σ 7)
    else
      some (-1)
set_option maxHeartbeats 4000000 in
set_option maxRecDepth 20000 in
theorem c_M_fault {l : Launch} {g : GX} {q : Nat → Nat} {x1 : Int32}  {σ : St} {r : Int32} (hf : f_M_fault  x1 σ = some r) : KK l y_M_fault prog_13_method_42_code 2 (some .int) 0 g (wM g q) σ [.ref (q 0), .int x1] (some (.int r)) (wM g q) σ := by
  refine KK_of (plainFor_of_name (by decide)) (Nat.le_of_ble_eq_true rfl) (fun p e s m below meth c A ls C w hl => ?_)
  have hl : lv_has ls 2 [(0, .ref (q 0)), (1, .int x1)] := hl
  obtain ⟨hx, hb, hml, hown, hts, hK, hA, hZ, hlocks, hr, hN⟩ := id C
  unfold f_M_fault at hf
  refine lv_iload_n hx hb d_M_fault_0 rfl (lv_at hl 1 rfl) ?_
  refine lv_if_ne (tgt := 11) hx hb d_M_fault_1 (by decide) (fun cd => ?_) (fun cd => ?_)
  · have hf := if_e cd hf
    refine lv_iload_n hx hb d_M_fault_11 rfl (lv_at hl 1 rfl) ?_
    refine lv_iconst (v := 1) hx hb d_M_fault_12 (by decide) ?_
    refine lv_icmp_ne (tgt := 23) hx hb d_M_fault_13 (by decide) (fun cd => ?_) (fun cd => ?_)
    · have hf := if_e cd hf
      refine lv_iconst (v := (-1)) hx hb d_M_fault_23 (by decide) ?_
      cases some_e hf
      exact k_iret C w d_M_fault_24
    · have hf := it_e cd hf
      refine lv_aload_n hx hb d_M_fault_16 rfl (lv_at hl 0 rfl) ?_
      refine mg_0_faultPlace C w k1102 d_M_fault_17 ?_
      refine lv_goto (tgt := 24) hx hb d_M_fault_20 (by decide) ?_
      cases some_e hf
      exact k_iret C w d_M_fault_24
  · have hf := it_e cd hf
    refine lv_aload_n hx hb d_M_fault_4 rfl (lv_at hl 0 rfl) ?_
    refine mg_0_fault C w k1101 d_M_fault_5 ?_
    refine lv_goto (tgt := 24) hx hb d_M_fault_8 (by decide) ?_
    cases some_e hf
    exact k_iret C w d_M_fault_24
def f_M_toldOf (x1 : Int32) (σ : St) : Option (Int32) :=
  gd (inB (9 + x1) 18) <|
  some (sA σ 5 (9 + x1).toNatClampNeg)
set_option maxHeartbeats 4000000 in
set_option maxRecDepth 20000 in
theorem c_M_toldOf {l : Launch} {g : GX} {q : Nat → Nat} {x1 : Int32}  {σ : St} {r : Int32} (hf : f_M_toldOf  x1 σ = some r) : KK l y_M_toldOf prog_13_method_52_code 2 (some .int) 0 g (wM g q) σ [.ref (q 0), .int x1] (some (.int r)) (wM g q) σ := by
  refine KK_of (plainFor_of_name (by decide)) (Nat.le_of_ble_eq_true rfl) (fun p e s m below meth c A ls C w hl => ?_)
  have hl : lv_has ls 2 [(0, .ref (q 0)), (1, .int x1)] := hl
  obtain ⟨hx, hb, hml, hown, hts, hK, hA, hZ, hlocks, hr, hN⟩ := id C
  unfold f_M_toldOf at hf
  refine lv_aload_n hx hb d_M_toldOf_0 rfl (lv_at hl 0 rfl) ?_
  refine mg_0_told C w k1136 d_M_toldOf_1 ?_
  refine lv_bipush (v := 9) hx hb d_M_toldOf_4 (by decide) ?_
  refine lv_iload_n hx hb d_M_toldOf_6 rfl (lv_at hl 1 rfl) ?_
  refine lv_iadd hx hb d_M_toldOf_7 ?_
  obtain ⟨g_1, hf⟩ := gd_e hf
  refine ml_34 C w g_1 d_M_toldOf_8 ?_
  cases some_e hf
  exact k_iret C w d_M_toldOf_9
def f_M_ruleMany (σ : St) : Option (Int32) :=
  some (sA σ 2 (5 : Int32).toNatClampNeg)
set_option maxHeartbeats 4000000 in
set_option maxRecDepth 20000 in
theorem c_M_ruleMany {l : Launch} {g : GX} {q : Nat → Nat}  {σ : St} {r : Int32} (hf : f_M_ruleMany   σ = some r) : KK l y_M_ruleMany prog_13_method_49_code 1 (some .int) 0 g (wM g q) σ [.ref (q 0)] (some (.int r)) (wM g q) σ := by
  refine KK_of (plainFor_of_name (by decide)) (Nat.le_of_ble_eq_true rfl) (fun p e s m below meth c A ls C w hl => ?_)
  have hl : lv_has ls 1 [(0, .ref (q 0))] := hl
  obtain ⟨hx, hb, hml, hown, hts, hK, hA, hZ, hlocks, hr, hN⟩ := id C
  unfold f_M_ruleMany at hf
  refine lv_aload_n hx hb d_M_ruleMany_0 rfl (lv_at hl 0 rfl) ?_
  refine mg_0_many C w k1132 d_M_ruleMany_1 ?_
  refine lv_iconst (v := 5) hx hb d_M_ruleMany_4 (by decide) ?_
  refine ml_30 C w (by decide) d_M_ruleMany_5 ?_
  cases some_e hf
  exact k_iret C w d_M_ruleMany_6
def f_M_trierMany (σ : St) : Option (Int32) :=
  some (sA σ 2 (4 : Int32).toNatClampNeg)
set_option maxHeartbeats 4000000 in
set_option maxRecDepth 20000 in
theorem c_M_trierMany {l : Launch} {g : GX} {q : Nat → Nat}  {σ : St} {r : Int32} (hf : f_M_trierMany   σ = some r) : KK l y_M_trierMany prog_13_method_48_code 1 (some .int) 0 g (wM g q) σ [.ref (q 0)] (some (.int r)) (wM g q) σ := by
  refine KK_of (plainFor_of_name (by decide)) (Nat.le_of_ble_eq_true rfl) (fun p e s m below meth c A ls C w hl => ?_)
  have hl : lv_has ls 1 [(0, .ref (q 0))] := hl
  obtain ⟨hx, hb, hml, hown, hts, hK, hA, hZ, hlocks, hr, hN⟩ := id C
  unfold f_M_trierMany at hf
  refine lv_aload_n hx hb d_M_trierMany_0 rfl (lv_at hl 0 rfl) ?_
  refine mg_0_many C w k1132 d_M_trierMany_1 ?_
  refine lv_iconst (v := 4) hx hb d_M_trierMany_4 (by decide) ?_
  refine ml_30 C w (by decide) d_M_trierMany_5 ?_
  cases some_e hf
  exact k_iret C w d_M_trierMany_6
