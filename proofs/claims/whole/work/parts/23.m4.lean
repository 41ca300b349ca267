variable {p : Program} {l : Launch} {e : Env} {s : State} {m : MethodId} {av : Array Value} {below : List Frame} {meth : Method} {c : Code} {g : GX} {q : Nat → Nat} {A : Nat → Prop}
theorem d_M_has_0 : decode prog_13_method_61_code 0 = .ok (.iload_n 1, 1) := by decide +kernel
theorem d_M_has_1 : decode prog_13_method_61_code 1 = .ok (.tableswitch 161 0 13 #[71, 78, 83, 88, 95, 102, 109, 115, 122, 128, 134, 141, 148, 156], 71) := by decide +kernel
theorem d_M_has_72 : decode prog_13_method_61_code 72 = .ok (.aload_n 0, 1) := by decide +kernel
theorem d_M_has_73 : decode prog_13_method_61_code 73 = .ok (.getfield 102, 3) := by decide +kernel
theorem d_M_has_76 : decode prog_13_method_61_code 76 = .ok (.iconst 3, 1) := by decide +kernel
theorem d_M_has_77 : decode prog_13_method_61_code 77 = .ok (.iaload, 1) := by decide +kernel
theorem d_M_has_78 : decode prog_13_method_61_code 78 = .ok (.ireturn, 1) := by decide +kernel
theorem d_M_has_79 : decode prog_13_method_61_code 79 = .ok (.aload_n 0, 1) := by decide +kernel
theorem d_M_has_80 : decode prog_13_method_61_code 80 = .ok (.invokevirtual 352, 3) := by decide +kernel
theorem d_M_has_83 : decode prog_13_method_61_code 83 = .ok (.ireturn, 1) := by decide +kernel
theorem d_M_has_84 : decode prog_13_method_61_code 84 = .ok (.aload_n 0, 1) := by decide +kernel
theorem d_M_has_85 : decode prog_13_method_61_code 85 = .ok (.invokevirtual 387, 3) := by decide +kernel
theorem d_M_has_88 : decode prog_13_method_61_code 88 = .ok (.ireturn, 1) := by decide +kernel
theorem d_M_has_89 : decode prog_13_method_61_code 89 = .ok (.aload_n 0, 1) := by decide +kernel
theorem d_M_has_90 : decode prog_13_method_61_code 90 = .ok (.getfield 136, 3) := by decide +kernel
theorem d_M_has_93 : decode prog_13_method_61_code 93 = .ok (.iconst 2, 1) := by decide +kernel
theorem d_M_has_94 : decode prog_13_method_61_code 94 = .ok (.iaload, 1) := by decide +kernel
theorem d_M_has_95 : decode prog_13_method_61_code 95 = .ok (.ireturn, 1) := by decide +kernel
theorem d_M_has_96 : decode prog_13_method_61_code 96 = .ok (.aload_n 0, 1) := by decide +kernel
theorem d_M_has_97 : decode prog_13_method_61_code 97 = .ok (.getfield 136, 3) := by decide +kernel
theorem d_M_has_100 : decode prog_13_method_61_code 100 = .ok (.iconst 3, 1) := by decide +kernel
theorem d_M_has_101 : decode prog_13_method_61_code 101 = .ok (.iaload, 1) := by decide +kernel
theorem d_M_has_102 : decode prog_13_method_61_code 102 = .ok (.ireturn, 1) := by decide +kernel
theorem d_M_has_103 : decode prog_13_method_61_code 103 = .ok (.aload_n 0, 1) := by decide +kernel
theorem d_M_has_104 : decode prog_13_method_61_code 104 = .ok (.getfield 136, 3) := by decide +kernel
theorem d_M_has_107 : decode prog_13_method_61_code 107 = .ok (.iconst 5, 1) := by decide +kernel
theorem d_M_has_108 : decode prog_13_method_61_code 108 = .ok (.iaload, 1) := by decide +kernel
theorem d_M_has_109 : decode prog_13_method_61_code 109 = .ok (.ireturn, 1) := by decide +kernel
theorem d_M_has_110 : decode prog_13_method_61_code 110 = .ok (.aload_n 0, 1) := by decide +kernel
theorem d_M_has_111 : decode prog_13_method_61_code 111 = .ok (.iconst 2, 1) := by decide +kernel
theorem d_M_has_112 : decode prog_13_method_61_code 112 = .ok (.invokevirtual 374, 3) := by decide +kernel
theorem d_M_has_115 : decode prog_13_method_61_code 115 = .ok (.ireturn, 1) := by decide +kernel
theorem d_M_has_116 : decode prog_13_method_61_code 116 = .ok (.aload_n 0, 1) := by decide +kernel
theorem d_M_has_117 : decode prog_13_method_61_code 117 = .ok (.getfield 136, 3) := by decide +kernel
theorem d_M_has_120 : decode prog_13_method_61_code 120 = .ok (.iconst 4, 1) := by decide +kernel
theorem d_M_has_121 : decode prog_13_method_61_code 121 = .ok (.iaload, 1) := by decide +kernel
theorem d_M_has_122 : decode prog_13_method_61_code 122 = .ok (.ireturn, 1) := by decide +kernel
theorem d_M_has_123 : decode prog_13_method_61_code 123 = .ok (.aload_n 0, 1) := by decide +kernel
theorem d_M_has_124 : decode prog_13_method_61_code 124 = .ok (.iconst 4, 1) := by decide +kernel
theorem d_M_has_125 : decode prog_13_method_61_code 125 = .ok (.invokevirtual 374, 3) := by decide +kernel
theorem d_M_has_128 : decode prog_13_method_61_code 128 = .ok (.ireturn, 1) := by decide +kernel
theorem d_M_has_129 : decode prog_13_method_61_code 129 = .ok (.aload_n 0, 1) := by decide +kernel
theorem d_M_has_130 : decode prog_13_method_61_code 130 = .ok (.iconst 5, 1) := by decide +kernel
theorem d_M_has_131 : decode prog_13_method_61_code 131 = .ok (.invokevirtual 374, 3) := by decide +kernel
theorem d_M_has_134 : decode prog_13_method_61_code 134 = .ok (.ireturn, 1) := by decide +kernel
theorem d_M_has_135 : decode prog_13_method_61_code 135 = .ok (.aload_n 0, 1) := by decide +kernel
theorem d_M_has_136 : decode prog_13_method_61_code 136 = .ok (.getfield 136, 3) := by decide +kernel
theorem d_M_has_139 : decode prog_13_method_61_code 139 = .ok (.iconst 0, 1) := by decide +kernel
theorem d_M_has_140 : decode prog_13_method_61_code 140 = .ok (.iaload, 1) := by decide +kernel
theorem d_M_has_141 : decode prog_13_method_61_code 141 = .ok (.ireturn, 1) := by decide +kernel
theorem d_M_has_142 : decode prog_13_method_61_code 142 = .ok (.aload_n 0, 1) := by decide +kernel
theorem d_M_has_143 : decode prog_13_method_61_code 143 = .ok (.getfield 136, 3) := by decide +kernel
theorem d_M_has_146 : decode prog_13_method_61_code 146 = .ok (.iconst 1, 1) := by decide +kernel
theorem d_M_has_147 : decode prog_13_method_61_code 147 = .ok (.iaload, 1) := by decide +kernel
theorem d_M_has_148 : decode prog_13_method_61_code 148 = .ok (.ireturn, 1) := by decide +kernel
theorem d_M_has_149 : decode prog_13_method_61_code 149 = .ok (.aload_n 0, 1) := by decide +kernel
theorem d_M_has_150 : decode prog_13_method_61_code 150 = .ok (.getfield 136, 3) := by decide +kernel
theorem d_M_has_153 : decode prog_13_method_61_code 153 = .ok (.bipush 6, 2) := by decide +kernel
theorem d_M_has_155 : decode prog_13_method_61_code 155 = .ok (.iaload, 1) := by decide +kernel
theorem d_M_has_156 : decode prog_13_method_61_code 156 = .ok (.ireturn, 1) := by decide +kernel
theorem d_M_has_157 : decode prog_13_method_61_code 157 = .ok (.aload_n 0, 1) := by decide +kernel
theorem d_M_has_158 : decode prog_13_method_61_code 158 = .ok (.getfield 278, 3) := by decide +kernel
theorem d_M_has_161 : decode prog_13_method_61_code 161 = .ok (.ireturn, 1) := by decide +kernel
theorem d_M_has_162 : decode prog_13_method_61_code 162 = .ok (.iconst (-1), 1) := by decide +kernel
theorem d_M_has_163 : decode prog_13_method_61_code 163 = .ok (.ireturn, 1) := by decide +kernel
theorem d_M_letter_0 : decode prog_13_method_62_code 0 = .ok (.iload_n 1, 1) := by decide +kernel
theorem d_M_letter_1 : decode prog_13_method_62_code 1 = .ok (.i2l, 1) := by decide +kernel
theorem d_M_letter_2 : decode prog_13_method_62_code 2 = .ok (.lconst 0, 1) := by decide +kernel
theorem d_M_letter_3 : decode prog_13_method_62_code 3 = .ok (.lconst 1, 1) := by decide +kernel
theorem d_M_letter_4 : decode prog_13_method_62_code 4 = .ok (.invokestatic 198, 3) := by decide +kernel
theorem d_M_letter_7 : decode prog_13_method_62_code 7 = .ok (.ifCond .eq 35, 3) := by decide +kernel
theorem d_M_letter_10 : decode prog_13_method_62_code 10 = .ok (.iload_n 2, 1) := by decide +kernel
theorem d_M_letter_11 : decode prog_13_method_62_code 11 = .ok (.i2l, 1) := by decide +kernel
theorem d_M_letter_12 : decode prog_13_method_62_code 12 = .ok (.lconst 0, 1) := by decide +kernel
theorem d_M_letter_13 : decode prog_13_method_62_code 13 = .ok (.aload_n 0, 1) := by decide +kernel
theorem d_M_letter_14 : decode prog_13_method_62_code 14 = .ok (.getfield 102, 3) := by decide +kernel
theorem d_M_letter_17 : decode prog_13_method_62_code 17 = .ok (.iconst 3, 1) := by decide +kernel
theorem d_M_letter_18 : decode prog_13_method_62_code 18 = .ok (.iload_n 1, 1) := by decide +kernel
theorem d_M_letter_19 : decode prog_13_method_62_code 19 = .ok (.iadd, 1) := by decide +kernel
theorem d_M_letter_20 : decode prog_13_method_62_code 20 = .ok (.iaload, 1) := by decide +kernel
theorem d_M_letter_21 : decode prog_13_method_62_code 21 = .ok (.iconst 1, 1) := by decide +kernel
theorem d_M_letter_22 : decode prog_13_method_62_code 22 = .ok (.isub, 1) := by decide +kernel
theorem d_M_letter_23 : decode prog_13_method_62_code 23 = .ok (.i2l, 1) := by decide +kernel
theorem d_M_letter_24 : decode prog_13_method_62_code 24 = .ok (.invokestatic 198, 3) := by decide +kernel
theorem d_M_letter_27 : decode prog_13_method_62_code 27 = .ok (.ifCond .eq 15, 3) := by decide +kernel
theorem d_M_letter_30 : decode prog_13_method_62_code 30 = .ok (.iload_n 3, 1) := by decide +kernel
theorem d_M_letter_31 : decode prog_13_method_62_code 31 = .ok (.i2l, 1) := by decide +kernel
theorem d_M_letter_32 : decode prog_13_method_62_code 32 = .ok (.lconst 0, 1) := by decide +kernel
theorem d_M_letter_33 : decode prog_13_method_62_code 33 = .ok (.ldc2_w 413, 3) := by decide +kernel
theorem d_M_letter_36 : decode prog_13_method_62_code 36 = .ok (.invokestatic 198, 3) := by decide +kernel
theorem d_M_letter_39 : decode prog_13_method_62_code 39 = .ok (.ifCond .ne 5, 3) := by decide +kernel
theorem d_M_letter_42 : decode prog_13_method_62_code 42 = .ok (.iconst (-1), 1) := by decide +kernel
theorem d_M_letter_43 : decode prog_13_method_62_code 43 = .ok (.ireturn, 1) := by decide +kernel
theorem d_M_letter_44 : decode prog_13_method_62_code 44 = .ok (.aload_n 0, 1) := by decide +kernel
theorem d_M_letter_45 : decode prog_13_method_62_code 45 = .ok (.getfield 105, 3) := by decide +kernel
theorem d_M_letter_48 : decode prog_13_method_62_code 48 = .ok (.bipush 16, 2) := by decide +kernel
theorem d_M_letter_50 : decode prog_13_method_62_code 50 = .ok (.bipush 8, 2) := by decide +kernel
theorem d_M_letter_52 : decode prog_13_method_62_code 52 = .ok (.iload_n 1, 1) := by decide +kernel
theorem d_M_letter_53 : decode prog_13_method_62_code 53 = .ok (.imul, 1) := by decide +kernel
theorem d_M_letter_54 : decode prog_13_method_62_code 54 = .ok (.iadd, 1) := by decide +kernel
theorem d_M_letter_55 : decode prog_13_method_62_code 55 = .ok (.iload_n 2, 1) := by decide +kernel
theorem d_M_letter_56 : decode prog_13_method_62_code 56 = .ok (.iadd, 1) := by decide +kernel
theorem d_M_letter_57 : decode prog_13_method_62_code 57 = .ok (.laload, 1) := by decide +kernel
theorem d_M_letter_58 : decode prog_13_method_62_code 58 = .ok (.lstore 4, 2) := by decide +kernel
theorem d_M_letter_60 : decode prog_13_method_62_code 60 = .ok (.iconst 0, 1) := by decide +kernel
theorem d_M_letter_61 : decode prog_13_method_62_code 61 = .ok (.istore 6, 2) := by decide +kernel
theorem d_M_letter_63 : decode prog_13_method_62_code 63 = .ok (.lload 4, 2) := by decide +kernel
theorem d_M_letter_65 : decode prog_13_method_62_code 65 = .ok (.lstore 7, 2) := by decide +kernel
theorem d_M_letter_67 : decode prog_13_method_62_code 67 = .ok (.lload 7, 2) := by decide +kernel
theorem d_M_letter_69 : decode prog_13_method_62_code 69 = .ok (.lconst 0, 1) := by decide +kernel
theorem d_M_letter_70 : decode prog_13_method_62_code 70 = .ok (.lcmp, 1) := by decide +kernel
theorem d_M_letter_71 : decode prog_13_method_62_code 71 = .ok (.ifCond .le 17, 3) := by decide +kernel
theorem d_M_letter_74 : decode prog_13_method_62_code 74 = .ok (.iinc 6 1, 3) := by decide +kernel
theorem d_M_letter_77 : decode prog_13_method_62_code 77 = .ok (.lload 7, 2) := by decide +kernel
theorem d_M_letter_79 : decode prog_13_method_62_code 79 = .ok (.ldc2_w 209, 3) := by decide +kernel
theorem d_M_letter_82 : decode prog_13_method_62_code 82 = .ok (.ldiv, 1) := by decide +kernel
theorem d_M_letter_83 : decode prog_13_method_62_code 83 = .ok (.lstore 7, 2) := by decide +kernel
theorem d_M_letter_85 : decode prog_13_method_62_code 85 = .ok (.goto (-18), 3) := by decide +kernel
theorem d_M_letter_88 : decode prog_13_method_62_code 88 = .ok (.iload_n 3, 1) := by decide +kernel
theorem d_M_letter_89 : decode prog_13_method_62_code 89 = .ok (.iload 6, 2) := by decide +kernel
theorem d_M_letter_91 : decode prog_13_method_62_code 91 = .ok (.if_icmp .lt 5, 3) := by decide +kernel
theorem d_M_letter_94 : decode prog_13_method_62_code 94 = .ok (.iconst 0, 1) := by decide +kernel
theorem d_M_letter_95 : decode prog_13_method_62_code 95 = .ok (.ireturn, 1) := by decide +kernel
theorem d_M_letter_96 : decode prog_13_method_62_code 96 = .ok (.iload 6, 2) := by decide +kernel
theorem d_M_letter_98 : decode prog_13_method_62_code 98 = .ok (.iconst 1, 1) := by decide +kernel
theorem d_M_letter_99 : decode prog_13_method_62_code 99 = .ok (.isub, 1) := by decide +kernel
theorem d_M_letter_100 : decode prog_13_method_62_code 100 = .ok (.istore 7, 2) := by decide +kernel
theorem d_M_letter_102 : decode prog_13_method_62_code 102 = .ok (.iload 7, 2) := by decide +kernel
theorem d_M_letter_104 : decode prog_13_method_62_code 104 = .ok (.iload_n 3, 1) := by decide +kernel
theorem d_M_letter_105 : decode prog_13_method_62_code 105 = .ok (.if_icmp .le 17, 3) := by decide +kernel
theorem d_M_letter_108 : decode prog_13_method_62_code 108 = .ok (.lload 4, 2) := by decide +kernel
theorem d_M_letter_110 : decode prog_13_method_62_code 110 = .ok (.ldc2_w 209, 3) := by decide +kernel
theorem d_M_letter_113 : decode prog_13_method_62_code 113 = .ok (.ldiv, 1) := by decide +kernel
theorem d_M_letter_114 : decode prog_13_method_62_code 114 = .ok (.lstore 4, 2) := by decide +kernel
theorem d_M_letter_116 : decode prog_13_method_62_code 116 = .ok (.iinc 7 (-1), 3) := by decide +kernel
theorem d_M_letter_119 : decode prog_13_method_62_code 119 = .ok (.goto (-17), 3) := by decide +kernel
theorem d_M_letter_122 : decode prog_13_method_62_code 122 = .ok (.lload 4, 2) := by decide +kernel
theorem d_M_letter_124 : decode prog_13_method_62_code 124 = .ok (.ldc2_w 209, 3) := by decide +kernel
theorem d_M_letter_127 : decode prog_13_method_62_code 127 = .ok (.lrem, 1) := by decide +kernel
theorem d_M_letter_128 : decode prog_13_method_62_code 128 = .ok (.l2i, 1) := by decide +kernel
theorem d_M_letter_129 : decode prog_13_method_62_code 129 = .ok (.ireturn, 1) := by decide +kernel
theorem d_M_isTrier_0 : decode prog_13_method_50_code 0 = .ok (.iload_n 1, 1) := by decide +kernel
theorem d_M_isTrier_1 : decode prog_13_method_50_code 1 = .ok (.i2l, 1) := by decide +kernel
theorem d_M_isTrier_2 : decode prog_13_method_50_code 2 = .ok (.lconst 0, 1) := by decide +kernel
theorem d_M_isTrier_3 : decode prog_13_method_50_code 3 = .ok (.aload_n 0, 1) := by decide +kernel
theorem d_M_isTrier_4 : decode prog_13_method_50_code 4 = .ok (.invokevirtual 352, 3) := by decide +kernel
theorem d_M_isTrier_7 : decode prog_13_method_50_code 7 = .ok (.iconst 1, 1) := by decide +kernel
theorem d_M_isTrier_8 : decode prog_13_method_50_code 8 = .ok (.isub, 1) := by decide +kernel
theorem d_M_isTrier_9 : decode prog_13_method_50_code 9 = .ok (.i2l, 1) := by decide +kernel
theorem d_M_isTrier_10 : decode prog_13_method_50_code 10 = .ok (.invokestatic 198, 3) := by decide +kernel
theorem d_M_isTrier_13 : decode prog_13_method_50_code 13 = .ok (.ireturn, 1) := by decide +kernel
theorem d_M_trierOf_0 : decode prog_13_method_51_code 0 = .ok (.aload_n 0, 1) := by decide +kernel
theorem d_M_trierOf_1 : decode prog_13_method_51_code 1 = .ok (.getfield 112, 3) := by decide +kernel
theorem d_M_trierOf_4 : decode prog_13_method_51_code 4 = .ok (.bipush 48, 2) := by decide +kernel
theorem d_M_trierOf_6 : decode prog_13_method_51_code 6 = .ok (.bipush 6, 2) := by decide +kernel
theorem d_M_trierOf_8 : decode prog_13_method_51_code 8 = .ok (.iload_n 1, 1) := by decide +kernel
theorem d_M_trierOf_9 : decode prog_13_method_51_code 9 = .ok (.imul, 1) := by decide +kernel
theorem d_M_trierOf_10 : decode prog_13_method_51_code 10 = .ok (.iadd, 1) := by decide +kernel
theorem d_M_trierOf_11 : decode prog_13_method_51_code 11 = .ok (.iload_n 2, 1) := by decide +kernel
theorem d_M_trierOf_12 : decode prog_13_method_51_code 12 = .ok (.iadd, 1) := by decide +kernel
theorem d_M_trierOf_13 : decode prog_13_method_51_code 13 = .ok (.iaload, 1) := by decide +kernel
theorem d_M_trierOf_14 : decode prog_13_method_51_code 14 = .ok (.ireturn, 1) := by decide +kernel
theorem d_M_trier_0 : decode prog_13_method_63_code 0 = .ok (.aload_n 0, 1) := by decide +kernel
theorem d_M_trier_1 : decode prog_13_method_63_code 1 = .ok (.iload_n 1, 1) := by decide +kernel
theorem d_M_trier_2 : decode prog_13_method_63_code 2 = .ok (.invokevirtual 415, 3) := by decide +kernel
theorem d_M_trier_5 : decode prog_13_method_63_code 5 = .ok (.ifCond .eq 24, 3) := by decide +kernel
theorem d_M_trier_8 : decode prog_13_method_63_code 8 = .ok (.iload_n 2, 1) := by decide +kernel
theorem d_M_trier_9 : decode prog_13_method_63_code 9 = .ok (.i2l, 1) := by decide +kernel
theorem d_M_trier_10 : decode prog_13_method_63_code 10 = .ok (.lconst 0, 1) := by decide +kernel
theorem d_M_trier_11 : decode prog_13_method_63_code 11 = .ok (.ldc2_w 413, 3) := by decide +kernel
theorem d_M_trier_14 : decode prog_13_method_63_code 14 = .ok (.invokestatic 198, 3) := by decide +kernel
theorem d_M_trier_17 : decode prog_13_method_63_code 17 = .ok (.ifCond .eq 12, 3) := by decide +kernel
theorem d_M_trier_20 : decode prog_13_method_63_code 20 = .ok (.aload_n 0, 1) := by decide +kernel
theorem d_M_trier_21 : decode prog_13_method_63_code 21 = .ok (.iload_n 1, 1) := by decide +kernel
theorem d_M_trier_22 : decode prog_13_method_63_code 22 = .ok (.iload_n 2, 1) := by decide +kernel
theorem d_M_trier_23 : decode prog_13_method_63_code 23 = .ok (.invokevirtual 358, 3) := by decide +kernel
theorem d_M_trier_26 : decode prog_13_method_63_code 26 = .ok (.goto 4, 3) := by decide +kernel
theorem d_M_trier_29 : decode prog_13_method_63_code 29 = .ok (.iconst (-1), 1) := by decide +kernel
theorem d_M_trier_30 : decode prog_13_method_63_code 30 = .ok (.ireturn, 1) := by decide +kernel
theorem d_M_mark_0 : decode prog_13_method_64_code 0 = .ok (.iload_n 1, 1) := by decide +kernel
theorem d_M_mark_1 : decode prog_13_method_64_code 1 = .ok (.i2l, 1) := by decide +kernel
theorem d_M_mark_2 : decode prog_13_method_64_code 2 = .ok (.lconst 0, 1) := by decide +kernel
theorem d_M_mark_3 : decode prog_13_method_64_code 3 = .ok (.aload_n 0, 1) := by decide +kernel
theorem d_M_mark_4 : decode prog_13_method_64_code 4 = .ok (.getfield 102, 3) := by decide +kernel
theorem d_M_mark_7 : decode prog_13_method_64_code 7 = .ok (.iconst 3, 1) := by decide +kernel
theorem d_M_mark_8 : decode prog_13_method_64_code 8 = .ok (.iaload, 1) := by decide +kernel
theorem d_M_mark_9 : decode prog_13_method_64_code 9 = .ok (.iconst 1, 1) := by decide +kernel
theorem d_M_mark_10 : decode prog_13_method_64_code 10 = .ok (.isub, 1) := by decide +kernel
theorem d_M_mark_11 : decode prog_13_method_64_code 11 = .ok (.i2l, 1) := by decide +kernel
theorem d_M_mark_12 : decode prog_13_method_64_code 12 = .ok (.invokestatic 198, 3) := by decide +kernel
theorem d_M_mark_15 : decode prog_13_method_64_code 15 = .ok (.ifCond .eq 15, 3) := by decide +kernel
theorem d_M_mark_18 : decode prog_13_method_64_code 18 = .ok (.aload_n 0, 1) := by decide +kernel
theorem d_M_mark_19 : decode prog_13_method_64_code 19 = .ok (.getfield 109, 3) := by decide +kernel
theorem d_M_mark_22 : decode prog_13_method_64_code 22 = .ok (.bipush 6, 2) := by decide +kernel
theorem d_M_mark_24 : decode prog_13_method_64_code 24 = .ok (.iload_n 1, 1) := by decide +kernel
theorem d_M_mark_25 : decode prog_13_method_64_code 25 = .ok (.iadd, 1) := by decide +kernel
theorem d_M_mark_26 : decode prog_13_method_64_code 26 = .ok (.iaload, 1) := by decide +kernel
theorem d_M_mark_27 : decode prog_13_method_64_code 27 = .ok (.goto 4, 3) := by decide +kernel
theorem d_M_mark_30 : decode prog_13_method_64_code 30 = .ok (.iconst (-1), 1) := by decide +kernel
theorem d_M_mark_31 : decode prog_13_method_64_code 31 = .ok (.ireturn, 1) := by decide +kernel
theorem d_M_past_0 : decode prog_13_method_65_code 0 = .ok (.iload_n 1, 1) := by decide +kernel
theorem d_M_past_1 : decode prog_13_method_65_code 1 = .ok (.i2l, 1) := by decide +kernel
theorem d_M_past_2 : decode prog_13_method_65_code 2 = .ok (.lconst 0, 1) := by decide +kernel
theorem d_M_past_3 : decode prog_13_method_65_code 3 = .ok (.ldc2_w 418, 3) := by decide +kernel
theorem d_M_past_6 : decode prog_13_method_65_code 6 = .ok (.invokestatic 198, 3) := by decide +kernel
theorem d_M_past_9 : decode prog_13_method_65_code 9 = .ok (.ifCond .ne 5, 3) := by decide +kernel
theorem d_M_past_12 : decode prog_13_method_65_code 12 = .ok (.iconst (-1), 1) := by decide +kernel
theorem d_M_past_13 : decode prog_13_method_65_code 13 = .ok (.ireturn, 1) := by decide +kernel
theorem d_M_past_14 : decode prog_13_method_65_code 14 = .ok (.iconst (-1), 1) := by decide +kernel
theorem d_M_past_15 : decode prog_13_method_65_code 15 = .ok (.istore_n 2, 1) := by decide +kernel
theorem d_M_past_16 : decode prog_13_method_65_code 16 = .ok (.iconst 0, 1) := by decide +kernel
theorem d_M_past_17 : decode prog_13_method_65_code 17 = .ok (.istore_n 3, 1) := by decide +kernel
theorem d_M_past_18 : decode prog_13_method_65_code 18 = .ok (.iload_n 3, 1) := by decide +kernel
theorem d_M_past_19 : decode prog_13_method_65_code 19 = .ok (.aload_n 0, 1) := by decide +kernel
theorem d_M_past_20 : decode prog_13_method_65_code 20 = .ok (.getfield 102, 3) := by decide +kernel
theorem d_M_past_23 : decode prog_13_method_65_code 23 = .ok (.iconst 3, 1) := by decide +kernel
theorem d_M_past_24 : decode prog_13_method_65_code 24 = .ok (.iaload, 1) := by decide +kernel
theorem d_M_past_25 : decode prog_13_method_65_code 25 = .ok (.if_icmp .ge 50, 3) := by decide +kernel
theorem d_M_past_28 : decode prog_13_method_65_code 28 = .ok (.aload_n 0, 1) := by decide +kernel
theorem d_M_past_29 : decode prog_13_method_65_code 29 = .ok (.getfield 109, 3) := by decide +kernel
theorem d_M_past_32 : decode prog_13_method_65_code 32 = .ok (.bipush 6, 2) := by decide +kernel
theorem d_M_past_34 : decode prog_13_method_65_code 34 = .ok (.iload_n 3, 1) := by decide +kernel
theorem d_M_past_35 : decode prog_13_method_65_code 35 = .ok (.iadd, 1) := by decide +kernel
theorem d_M_past_36 : decode prog_13_method_65_code 36 = .ok (.iaload, 1) := by decide +kernel
theorem d_M_past_37 : decode prog_13_method_65_code 37 = .ok (.iload_n 1, 1) := by decide +kernel
theorem d_M_past_38 : decode prog_13_method_65_code 38 = .ok (.if_icmp .gt 31, 3) := by decide +kernel
theorem d_M_past_41 : decode prog_13_method_65_code 41 = .ok (.iload_n 2, 1) := by decide +kernel
theorem d_M_past_42 : decode prog_13_method_65_code 42 = .ok (.iconst (-1), 1) := by decide +kernel
theorem d_M_past_43 : decode prog_13_method_65_code 43 = .ok (.if_icmp .eq 24, 3) := by decide +kernel
theorem d_M_past_46 : decode prog_13_method_65_code 46 = .ok (.aload_n 0, 1) := by decide +kernel
theorem d_M_past_47 : decode prog_13_method_65_code 47 = .ok (.getfield 109, 3) := by decide +kernel
theorem d_M_past_50 : decode prog_13_method_65_code 50 = .ok (.bipush 6, 2) := by decide +kernel
theorem d_M_past_52 : decode prog_13_method_65_code 52 = .ok (.iload_n 3, 1) := by decide +kernel
theorem d_M_past_53 : decode prog_13_method_65_code 53 = .ok (.iadd, 1) := by decide +kernel
theorem d_M_past_54 : decode prog_13_method_65_code 54 = .ok (.iaload, 1) := by decide +kernel
theorem d_M_past_55 : decode prog_13_method_65_code 55 = .ok (.aload_n 0, 1) := by decide +kernel
theorem d_M_past_56 : decode prog_13_method_65_code 56 = .ok (.getfield 109, 3) := by decide +kernel
theorem d_M_past_59 : decode prog_13_method_65_code 59 = .ok (.bipush 6, 2) := by decide +kernel
theorem d_M_past_61 : decode prog_13_method_65_code 61 = .ok (.iload_n 2, 1) := by decide +kernel
theorem d_M_past_62 : decode prog_13_method_65_code 62 = .ok (.iadd, 1) := by decide +kernel
theorem d_M_past_63 : decode prog_13_method_65_code 63 = .ok (.iaload, 1) := by decide +kernel
theorem d_M_past_64 : decode prog_13_method_65_code 64 = .ok (.if_icmp .le 5, 3) := by decide +kernel
theorem d_M_past_67 : decode prog_13_method_65_code 67 = .ok (.iload_n 3, 1) := by decide +kernel
theorem d_M_past_68 : decode prog_13_method_65_code 68 = .ok (.istore_n 2, 1) := by decide +kernel
theorem d_M_past_69 : decode prog_13_method_65_code 69 = .ok (.iinc 3 1, 3) := by decide +kernel
theorem d_M_past_72 : decode prog_13_method_65_code 72 = .ok (.goto (-54), 3) := by decide +kernel
theorem d_M_past_75 : decode prog_13_method_65_code 75 = .ok (.iload_n 2, 1) := by decide +kernel
theorem d_M_past_76 : decode prog_13_method_65_code 76 = .ok (.ireturn, 1) := by decide +kernel
theorem d_M_tiredBy_0 : decode prog_13_method_55_code 0 = .ok (.iload_n 0, 1) := by decide +kernel
theorem d_M_tiredBy_1 : decode prog_13_method_55_code 1 = .ok (.iload_n 2, 1) := by decide +kernel
theorem d_M_tiredBy_2 : decode prog_13_method_55_code 2 = .ok (.iload_n 1, 1) := by decide +kernel
theorem d_M_tiredBy_3 : decode prog_13_method_55_code 3 = .ok (.imul, 1) := by decide +kernel
theorem d_M_tiredBy_4 : decode prog_13_method_55_code 4 = .ok (.isub, 1) := by decide +kernel
theorem d_M_tiredBy_5 : decode prog_13_method_55_code 5 = .ok (.istore_n 3, 1) := by decide +kernel
theorem d_M_tiredBy_6 : decode prog_13_method_55_code 6 = .ok (.iload_n 3, 1) := by decide +kernel
theorem d_M_tiredBy_7 : decode prog_13_method_55_code 7 = .ok (.iconst 1, 1) := by decide +kernel
theorem d_M_tiredBy_8 : decode prog_13_method_55_code 8 = .ok (.if_icmp .ge 7, 3) := by decide +kernel
theorem d_M_tiredBy_11 : decode prog_13_method_55_code 11 = .ok (.iconst 1, 1) := by decide +kernel
theorem d_M_tiredBy_12 : decode prog_13_method_55_code 12 = .ok (.goto 4, 3) := by decide +kernel
theorem d_M_tiredBy_15 : decode prog_13_method_55_code 15 = .ok (.iload_n 3, 1) := by decide +kernel
theorem d_M_tiredBy_16 : decode prog_13_method_55_code 16 = .ok (.ireturn, 1) := by decide +kernel
theorem d_M_raisedBy_0 : decode prog_13_method_53_code 0 = .ok (.iload_n 0, 1) := by decide +kernel
theorem d_M_raisedBy_1 : decode prog_13_method_53_code 1 = .ok (.bipush 100, 2) := by decide +kernel
theorem d_M_raisedBy_3 : decode prog_13_method_53_code 3 = .ok (.bipush 10, 2) := by decide +kernel
theorem d_M_raisedBy_5 : decode prog_13_method_53_code 5 = .ok (.iload_n 1, 1) := by decide +kernel
theorem d_M_raisedBy_6 : decode prog_13_method_53_code 6 = .ok (.imul, 1) := by decide +kernel
theorem d_M_raisedBy_7 : decode prog_13_method_53_code 7 = .ok (.isub, 1) := by decide +kernel
theorem d_M_raisedBy_8 : decode prog_13_method_53_code 8 = .ok (.imul, 1) := by decide +kernel
theorem d_M_raisedBy_9 : decode prog_13_method_53_code 9 = .ok (.bipush 100, 2) := by decide +kernel
theorem d_M_raisedBy_11 : decode prog_13_method_53_code 11 = .ok (.idiv, 1) := by decide +kernel
theorem d_M_raisedBy_12 : decode prog_13_method_53_code 12 = .ok (.ireturn, 1) := by decide +kernel
theorem d_M_heightBy_0 : decode prog_13_method_54_code 0 = .ok (.iload_n 1, 1) := by decide +kernel
theorem d_M_heightBy_1 : decode prog_13_method_54_code 1 = .ok (.iload_n 2, 1) := by decide +kernel
theorem d_M_heightBy_2 : decode prog_13_method_54_code 2 = .ok (.invokestatic 355, 3) := by decide +kernel
theorem d_M_heightBy_5 : decode prog_13_method_54_code 5 = .ok (.istore 4, 2) := by decide +kernel
theorem d_M_heightBy_7 : decode prog_13_method_54_code 7 = .ok (.iload_n 3, 1) := by decide +kernel
theorem d_M_heightBy_8 : decode prog_13_method_54_code 8 = .ok (.ifCond .eq 21, 3) := by decide +kernel
theorem d_M_heightBy_11 : decode prog_13_method_54_code 11 = .ok (.iload 4, 2) := by decide +kernel
theorem d_M_heightBy_13 : decode prog_13_method_54_code 13 = .ok (.bipush 100, 2) := by decide +kernel
theorem d_M_heightBy_15 : decode prog_13_method_54_code 15 = .ok (.aload_n 0, 1) := by decide +kernel
theorem d_M_heightBy_16 : decode prog_13_method_54_code 16 = .ok (.getfield 136, 3) := by decide +kernel
theorem d_M_heightBy_19 : decode prog_13_method_54_code 19 = .ok (.iconst 4, 1) := by decide +kernel
theorem d_M_heightBy_20 : decode prog_13_method_54_code 20 = .ok (.iaload, 1) := by decide +kernel
theorem d_M_heightBy_21 : decode prog_13_method_54_code 21 = .ok (.isub, 1) := by decide +kernel
theorem d_M_heightBy_22 : decode prog_13_method_54_code 22 = .ok (.imul, 1) := by decide +kernel
theorem d_M_heightBy_23 : decode prog_13_method_54_code 23 = .ok (.bipush 100, 2) := by decide +kernel
theorem d_M_heightBy_25 : decode prog_13_method_54_code 25 = .ok (.idiv, 1) := by decide +kernel
theorem d_M_heightBy_26 : decode prog_13_method_54_code 26 = .ok (.goto 5, 3) := by decide +kernel
theorem d_M_heightBy_29 : decode prog_13_method_54_code 29 = .ok (.iload 4, 2) := by decide +kernel
theorem d_M_heightBy_31 : decode prog_13_method_54_code 31 = .ok (.ireturn, 1) := by decide +kernel
theorem d_M_cut_0 : decode prog_13_method_56_code 0 = .ok (.iload_n 1, 1) := by decide +kernel
theorem d_M_cut_1 : decode prog_13_method_56_code 1 = .ok (.iload_n 2, 1) := by decide +kernel
theorem d_M_cut_2 : decode prog_13_method_56_code 2 = .ok (.if_icmp .le 7, 3) := by decide +kernel
theorem d_M_cut_5 : decode prog_13_method_56_code 5 = .ok (.iload_n 2, 1) := by decide +kernel
theorem d_M_cut_6 : decode prog_13_method_56_code 6 = .ok (.goto 4, 3) := by decide +kernel
theorem d_M_cut_9 : decode prog_13_method_56_code 9 = .ok (.iload_n 1, 1) := by decide +kernel
theorem d_M_cut_10 : decode prog_13_method_56_code 10 = .ok (.ireturn, 1) := by decide +kernel
theorem d_M_high_0 : decode prog_13_method_66_code 0 = .ok (.aload_n 0, 1) := by decide +kernel
theorem d_M_high_1 : decode prog_13_method_66_code 1 = .ok (.iload_n 1, 1) := by decide +kernel
theorem d_M_high_2 : decode prog_13_method_66_code 2 = .ok (.invokevirtual 415, 3) := by decide +kernel
theorem d_M_high_5 : decode prog_13_method_66_code 5 = .ok (.ifCond .eq 27, 3) := by decide +kernel
theorem d_M_high_8 : decode prog_13_method_66_code 8 = .ok (.iload_n 2, 1) := by decide +kernel
theorem d_M_high_9 : decode prog_13_method_66_code 9 = .ok (.i2l, 1) := by decide +kernel
theorem d_M_high_10 : decode prog_13_method_66_code 10 = .ok (.lconst 0, 1) := by decide +kernel
theorem d_M_high_11 : decode prog_13_method_66_code 11 = .ok (.ldc2_w 420, 3) := by decide +kernel
theorem d_M_high_14 : decode prog_13_method_66_code 14 = .ok (.invokestatic 198, 3) := by decide +kernel
theorem d_M_high_17 : decode prog_13_method_66_code 17 = .ok (.ifCond .eq 15, 3) := by decide +kernel
theorem d_M_high_20 : decode prog_13_method_66_code 20 = .ok (.iload_n 3, 1) := by decide +kernel
theorem d_M_high_21 : decode prog_13_method_66_code 21 = .ok (.i2l, 1) := by decide +kernel
theorem d_M_high_22 : decode prog_13_method_66_code 22 = .ok (.lconst 0, 1) := by decide +kernel
theorem d_M_high_23 : decode prog_13_method_66_code 23 = .ok (.ldc2_w 422, 3) := by decide +kernel
theorem d_M_high_26 : decode prog_13_method_66_code 26 = .ok (.invokestatic 198, 3) := by decide +kernel
theorem d_M_high_29 : decode prog_13_method_66_code 29 = .ok (.ifCond .ne 5, 3) := by decide +kernel
theorem d_M_high_32 : decode prog_13_method_66_code 32 = .ok (.iconst (-1), 1) := by decide +kernel
theorem d_M_high_33 : decode prog_13_method_66_code 33 = .ok (.ireturn, 1) := by decide +kernel
theorem d_M_high_34 : decode prog_13_method_66_code 34 = .ok (.aload_n 0, 1) := by decide +kernel
theorem d_M_high_35 : decode prog_13_method_66_code 35 = .ok (.aload_n 0, 1) := by decide +kernel
theorem d_M_high_36 : decode prog_13_method_66_code 36 = .ok (.aload_n 0, 1) := by decide +kernel
theorem d_M_high_37 : decode prog_13_method_66_code 37 = .ok (.iload_n 1, 1) := by decide +kernel
theorem d_M_high_38 : decode prog_13_method_66_code 38 = .ok (.iconst 0, 1) := by decide +kernel
theorem d_M_high_39 : decode prog_13_method_66_code 39 = .ok (.invokevirtual 358, 3) := by decide +kernel
theorem d_M_high_42 : decode prog_13_method_66_code 42 = .ok (.aload_n 0, 1) := by decide +kernel
theorem d_M_high_43 : decode prog_13_method_66_code 43 = .ok (.iload_n 1, 1) := by decide +kernel
theorem d_M_high_44 : decode prog_13_method_66_code 44 = .ok (.iconst 2, 1) := by decide +kernel
theorem d_M_high_45 : decode prog_13_method_66_code 45 = .ok (.invokevirtual 358, 3) := by decide +kernel
theorem d_M_high_48 : decode prog_13_method_66_code 48 = .ok (.iload_n 2, 1) := by decide +kernel
theorem d_M_high_49 : decode prog_13_method_66_code 49 = .ok (.invokestatic 402, 3) := by decide +kernel
theorem d_M_high_52 : decode prog_13_method_66_code 52 = .ok (.iload_n 3, 1) := by decide +kernel
theorem d_M_high_53 : decode prog_13_method_66_code 53 = .ok (.iload 4, 2) := by decide +kernel
theorem d_M_high_55 : decode prog_13_method_66_code 55 = .ok (.invokevirtual 406, 3) := by decide +kernel
theorem d_M_high_58 : decode prog_13_method_66_code 58 = .ok (.aload_n 0, 1) := by decide +kernel
theorem d_M_high_59 : decode prog_13_method_66_code 59 = .ok (.getfield 136, 3) := by decide +kernel
theorem d_M_high_62 : decode prog_13_method_66_code 62 = .ok (.iconst 3, 1) := by decide +kernel
theorem d_M_high_63 : decode prog_13_method_66_code 63 = .ok (.iaload, 1) := by decide +kernel
theorem d_M_high_64 : decode prog_13_method_66_code 64 = .ok (.invokevirtual 410, 3) := by decide +kernel
theorem d_M_high_67 : decode prog_13_method_66_code 67 = .ok (.ireturn, 1) := by decide +kernel
theorem d_M_hard_0 : decode prog_13_method_67_code 0 = .ok (.iload_n 1, 1) := by decide +kernel
theorem d_M_hard_1 : decode prog_13_method_67_code 1 = .ok (.i2l, 1) := by decide +kernel
theorem d_M_hard_2 : decode prog_13_method_67_code 2 = .ok (.lconst 0, 1) := by decide +kernel
theorem d_M_hard_3 : decode prog_13_method_67_code 3 = .ok (.ldc2_w 422, 3) := by decide +kernel
theorem d_M_hard_6 : decode prog_13_method_67_code 6 = .ok (.invokestatic 198, 3) := by decide +kernel
theorem d_M_hard_9 : decode prog_13_method_67_code 9 = .ok (.ifCond .ne 5, 3) := by decide +kernel
theorem d_M_hard_12 : decode prog_13_method_67_code 12 = .ok (.iconst (-1), 1) := by decide +kernel
theorem d_M_hard_13 : decode prog_13_method_67_code 13 = .ok (.ireturn, 1) := by decide +kernel
theorem d_M_hard_14 : decode prog_13_method_67_code 14 = .ok (.iconst 1, 1) := by decide +kernel
theorem d_M_hard_15 : decode prog_13_method_67_code 15 = .ok (.istore_n 3, 1) := by decide +kernel
theorem d_M_hard_16 : decode prog_13_method_67_code 16 = .ok (.iload_n 3, 1) := by decide +kernel
theorem d_M_hard_17 : decode prog_13_method_67_code 17 = .ok (.bipush 100, 2) := by decide +kernel
theorem d_M_hard_19 : decode prog_13_method_67_code 19 = .ok (.if_icmp .ge 27, 3) := by decide +kernel
theorem d_M_hard_22 : decode prog_13_method_67_code 22 = .ok (.aload_n 0, 1) := by decide +kernel
theorem d_M_hard_23 : decode prog_13_method_67_code 23 = .ok (.iload_n 3, 1) := by decide +kernel
theorem d_M_hard_24 : decode prog_13_method_67_code 24 = .ok (.iload_n 1, 1) := by decide +kernel
theorem d_M_hard_25 : decode prog_13_method_67_code 25 = .ok (.iload_n 2, 1) := by decide +kernel
theorem d_M_hard_26 : decode prog_13_method_67_code 26 = .ok (.invokevirtual 406, 3) := by decide +kernel
theorem d_M_hard_29 : decode prog_13_method_67_code 29 = .ok (.aload_n 0, 1) := by decide +kernel
theorem d_M_hard_30 : decode prog_13_method_67_code 30 = .ok (.getfield 136, 3) := by decide +kernel
theorem d_M_hard_33 : decode prog_13_method_67_code 33 = .ok (.iconst 3, 1) := by decide +kernel
theorem d_M_hard_34 : decode prog_13_method_67_code 34 = .ok (.iaload, 1) := by decide +kernel
theorem d_M_hard_35 : decode prog_13_method_67_code 35 = .ok (.if_icmp .lt 5, 3) := by decide +kernel
theorem d_M_hard_38 : decode prog_13_method_67_code 38 = .ok (.iload_n 3, 1) := by decide +kernel
theorem d_M_hard_39 : decode prog_13_method_67_code 39 = .ok (.ireturn, 1) := by decide +kernel
theorem d_M_hard_40 : decode prog_13_method_67_code 40 = .ok (.iinc 3 1, 3) := by decide +kernel
theorem d_M_hard_43 : decode prog_13_method_67_code 43 = .ok (.goto (-27), 3) := by decide +kernel
theorem d_M_hard_46 : decode prog_13_method_67_code 46 = .ok (.iconst (-1), 1) := by decide +kernel
theorem d_M_hard_47 : decode prog_13_method_67_code 47 = .ok (.ireturn, 1) := by decide +kernel
theorem d_M_wide_0 : decode prog_13_method_68_code 0 = .ok (.iload_n 1, 1) := by decide +kernel
theorem d_M_wide_1 : decode prog_13_method_68_code 1 = .ok (.i2l, 1) := by decide +kernel
theorem d_M_wide_2 : decode prog_13_method_68_code 2 = .ok (.lconst 1, 1) := by decide +kernel
theorem d_M_wide_3 : decode prog_13_method_68_code 3 = .ok (.ldc2_w 418, 3) := by decide +kernel
theorem d_M_wide_6 : decode prog_13_method_68_code 6 = .ok (.invokestatic 198, 3) := by decide +kernel
theorem d_M_wide_9 : decode prog_13_method_68_code 9 = .ok (.ifCond .ne 5, 3) := by decide +kernel
theorem d_M_wide_12 : decode prog_13_method_68_code 12 = .ok (.iconst (-1), 1) := by decide +kernel
theorem d_M_wide_13 : decode prog_13_method_68_code 13 = .ok (.ireturn, 1) := by decide +kernel
theorem d_M_wide_14 : decode prog_13_method_68_code 14 = .ok (.bipush 9, 2) := by decide +kernel
theorem d_M_wide_16 : decode prog_13_method_68_code 16 = .ok (.istore_n 3, 1) := by decide +kernel
theorem d_M_wide_17 : decode prog_13_method_68_code 17 = .ok (.iload_n 3, 1) := by decide +kernel
theorem d_M_wide_18 : decode prog_13_method_68_code 18 = .ok (.ifCond .lt 27, 3) := by decide +kernel
theorem d_M_wide_21 : decode prog_13_method_68_code 21 = .ok (.aload_n 0, 1) := by decide +kernel
theorem d_M_wide_22 : decode prog_13_method_68_code 22 = .ok (.iload_n 1, 1) := by decide +kernel
theorem d_M_wide_23 : decode prog_13_method_68_code 23 = .ok (.iload_n 3, 1) := by decide +kernel
theorem d_M_wide_24 : decode prog_13_method_68_code 24 = .ok (.iload_n 2, 1) := by decide +kernel
theorem d_M_wide_25 : decode prog_13_method_68_code 25 = .ok (.invokevirtual 406, 3) := by decide +kernel
theorem d_M_wide_28 : decode prog_13_method_68_code 28 = .ok (.aload_n 0, 1) := by decide +kernel
theorem d_M_wide_29 : decode prog_13_method_68_code 29 = .ok (.getfield 136, 3) := by decide +kernel
theorem d_M_wide_32 : decode prog_13_method_68_code 32 = .ok (.iconst 3, 1) := by decide +kernel
theorem d_M_wide_33 : decode prog_13_method_68_code 33 = .ok (.iaload, 1) := by decide +kernel
theorem d_M_wide_34 : decode prog_13_method_68_code 34 = .ok (.if_icmp .lt 5, 3) := by decide +kernel
theorem d_M_wide_37 : decode prog_13_method_68_code 37 = .ok (.iload_n 3, 1) := by decide +kernel
theorem d_M_wide_38 : decode prog_13_method_68_code 38 = .ok (.ireturn, 1) := by decide +kernel
theorem d_M_wide_39 : decode prog_13_method_68_code 39 = .ok (.iinc 3 (-1), 3) := by decide +kernel
theorem d_M_wide_42 : decode prog_13_method_68_code 42 = .ok (.goto (-25), 3) := by decide +kernel
theorem d_M_wide_45 : decode prog_13_method_68_code 45 = .ok (.iconst (-1), 1) := by decide +kernel
theorem d_M_wide_46 : decode prog_13_method_68_code 46 = .ok (.ireturn, 1) := by decide +kernel
theorem d_M_puts_0 : decode prog_13_method_45_code 0 = .ok (.aload_n 0, 1) := by decide +kernel
theorem d_M_puts_1 : decode prog_13_method_45_code 1 = .ok (.getfield 130, 3) := by decide +kernel
theorem d_M_puts_4 : decode prog_13_method_45_code 4 = .ok (.aload_n 0, 1) := by decide +kernel
theorem d_M_puts_5 : decode prog_13_method_45_code 5 = .ok (.getfield 330, 3) := by decide +kernel
theorem d_M_puts_8 : decode prog_13_method_45_code 8 = .ok (.lload_n 1, 1) := by decide +kernel
theorem d_M_puts_9 : decode prog_13_method_45_code 9 = .ok (.lastore, 1) := by decide +kernel
theorem d_M_puts_10 : decode prog_13_method_45_code 10 = .ok (.aload_n 0, 1) := by decide +kernel
theorem d_M_puts_11 : decode prog_13_method_45_code 11 = .ok (.dup, 1) := by decide +kernel
theorem d_M_puts_12 : decode prog_13_method_45_code 12 = .ok (.getfield 330, 3) := by decide +kernel
theorem d_M_puts_15 : decode prog_13_method_45_code 15 = .ok (.iconst 1, 1) := by decide +kernel
theorem d_M_puts_16 : decode prog_13_method_45_code 16 = .ok (.iadd, 1) := by decide +kernel
theorem d_M_puts_17 : decode prog_13_method_45_code 17 = .ok (.putfield 330, 3) := by decide +kernel
theorem d_M_puts_20 : decode prog_13_method_45_code 20 = .ok (.return_, 1) := by decide +kernel
theorem d_M_floor_0 : decode prog_13_method_44_code 0 = .ok (.lload_n 2, 1) := by decide +kernel
theorem d_M_floor_1 : decode prog_13_method_44_code 1 = .ok (.lconst 0, 1) := by decide +kernel
theorem d_M_floor_2 : decode prog_13_method_44_code 2 = .ok (.lcmp, 1) := by decide +kernel
theorem d_M_floor_3 : decode prog_13_method_44_code 3 = .ok (.ifCond .ne 5, 3) := by decide +kernel
theorem d_M_floor_6 : decode prog_13_method_44_code 6 = .ok (.lconst 0, 1) := by decide +kernel
theorem d_M_floor_7 : decode prog_13_method_44_code 7 = .ok (.lreturn, 1) := by decide +kernel
theorem d_M_floor_8 : decode prog_13_method_44_code 8 = .ok (.lload_n 0, 1) := by decide +kernel
theorem d_M_floor_9 : decode prog_13_method_44_code 9 = .ok (.lload_n 2, 1) := by decide +kernel
theorem d_M_floor_10 : decode prog_13_method_44_code 10 = .ok (.ldiv, 1) := by decide +kernel
theorem d_M_floor_11 : decode prog_13_method_44_code 11 = .ok (.lstore 4, 2) := by decide +kernel
theorem d_M_floor_13 : decode prog_13_method_44_code 13 = .ok (.lload_n 0, 1) := by decide +kernel
theorem d_M_floor_14 : decode prog_13_method_44_code 14 = .ok (.lload_n 2, 1) := by decide +kernel
theorem d_M_floor_15 : decode prog_13_method_44_code 15 = .ok (.lrem, 1) := by decide +kernel
theorem d_M_floor_16 : decode prog_13_method_44_code 16 = .ok (.lconst 0, 1) := by decide +kernel
theorem d_M_floor_17 : decode prog_13_method_44_code 17 = .ok (.lcmp, 1) := by decide +kernel
theorem d_M_floor_18 : decode prog_13_method_44_code 18 = .ok (.ifCond .eq 35, 3) := by decide +kernel
theorem d_M_floor_21 : decode prog_13_method_44_code 21 = .ok (.lload_n 0, 1) := by decide +kernel
theorem d_M_floor_22 : decode prog_13_method_44_code 22 = .ok (.lconst 0, 1) := by decide +kernel
theorem d_M_floor_23 : decode prog_13_method_44_code 23 = .ok (.lcmp, 1) := by decide +kernel
theorem d_M_floor_24 : decode prog_13_method_44_code 24 = .ok (.ifCond .ge 7, 3) := by decide +kernel
theorem d_M_floor_27 : decode prog_13_method_44_code 27 = .ok (.iconst 1, 1) := by decide +kernel
theorem d_M_floor_28 : decode prog_13_method_44_code 28 = .ok (.goto 4, 3) := by decide +kernel
theorem d_M_floor_31 : decode prog_13_method_44_code 31 = .ok (.iconst 0, 1) := by decide +kernel
theorem d_M_floor_32 : decode prog_13_method_44_code 32 = .ok (.lload_n 2, 1) := by decide +kernel
theorem d_M_floor_33 : decode prog_13_method_44_code 33 = .ok (.lconst 0, 1) := by decide +kernel
theorem d_M_floor_34 : decode prog_13_method_44_code 34 = .ok (.lcmp, 1) := by decide +kernel
theorem d_M_floor_35 : decode prog_13_method_44_code 35 = .ok (.ifCond .ge 7, 3) := by decide +kernel
theorem d_M_floor_38 : decode prog_13_method_44_code 38 = .ok (.iconst 1, 1) := by decide +kernel
theorem d_M_floor_39 : decode prog_13_method_44_code 39 = .ok (.goto 4, 3) := by decide +kernel
theorem d_M_floor_42 : decode prog_13_method_44_code 42 = .ok (.iconst 0, 1) := by decide +kernel
theorem d_M_floor_43 : decode prog_13_method_44_code 43 = .ok (.if_icmp .eq 10, 3) := by decide +kernel
theorem d_M_floor_46 : decode prog_13_method_44_code 46 = .ok (.lload 4, 2) := by decide +kernel
theorem d_M_floor_48 : decode prog_13_method_44_code 48 = .ok (.lconst 1, 1) := by decide +kernel
theorem d_M_floor_49 : decode prog_13_method_44_code 49 = .ok (.lsub, 1) := by decide +kernel
theorem d_M_floor_50 : decode prog_13_method_44_code 50 = .ok (.goto 5, 3) := by decide +kernel
theorem d_M_floor_53 : decode prog_13_method_44_code 53 = .ok (.lload 4, 2) := by decide +kernel
theorem d_M_floor_55 : decode prog_13_method_44_code 55 = .ok (.lreturn, 1) := by decide +kernel
theorem d_M_clip_0 : decode prog_13_method_43_code 0 = .ok (.lload_n 0, 1) := by decide +kernel
theorem d_M_clip_1 : decode prog_13_method_43_code 1 = .ok (.ldc2_w 326, 3) := by decide +kernel
theorem d_M_clip_4 : decode prog_13_method_43_code 4 = .ok (.lcmp, 1) := by decide +kernel
theorem d_M_clip_5 : decode prog_13_method_43_code 5 = .ok (.ifCond .le 9, 3) := by decide +kernel
theorem d_M_clip_8 : decode prog_13_method_43_code 8 = .ok (.ldc2_w 326, 3) := by decide +kernel
theorem d_M_clip_11 : decode prog_13_method_43_code 11 = .ok (.goto 18, 3) := by decide +kernel
theorem d_M_clip_14 : decode prog_13_method_43_code 14 = .ok (.lload_n 0, 1) := by decide +kernel
theorem d_M_clip_15 : decode prog_13_method_43_code 15 = .ok (.ldc2_w 328, 3) := by decide +kernel
theorem d_M_clip_18 : decode prog_13_method_43_code 18 = .ok (.lcmp, 1) := by decide +kernel
theorem d_M_clip_19 : decode prog_13_method_43_code 19 = .ok (.ifCond .ge 9, 3) := by decide +kernel
theorem d_M_clip_22 : decode prog_13_method_43_code 22 = .ok (.ldc2_w 328, 3) := by decide +kernel
theorem d_M_clip_25 : decode prog_13_method_43_code 25 = .ok (.goto 4, 3) := by decide +kernel
theorem d_M_clip_28 : decode prog_13_method_43_code 28 = .ok (.lload_n 0, 1) := by decide +kernel
theorem d_M_clip_29 : decode prog_13_method_43_code 29 = .ok (.lreturn, 1) := by decide +kernel
theorem d_M_joins_0 : decode prog_13_method_46_code 0 = .ok (.aload_n 0, 1) := by decide +kernel
theorem d_M_joins_1 : decode prog_13_method_46_code 1 = .ok (.getfield 130, 3) := by decide +kernel
theorem d_M_joins_4 : decode prog_13_method_46_code 4 = .ok (.aload_n 0, 1) := by decide +kernel
theorem d_M_joins_5 : decode prog_13_method_46_code 5 = .ok (.getfield 330, 3) := by decide +kernel
theorem d_M_joins_8 : decode prog_13_method_46_code 8 = .ok (.iconst 1, 1) := by decide +kernel
theorem d_M_joins_9 : decode prog_13_method_46_code 9 = .ok (.isub, 1) := by decide +kernel
theorem d_M_joins_10 : decode prog_13_method_46_code 10 = .ok (.laload, 1) := by decide +kernel
theorem d_M_joins_11 : decode prog_13_method_46_code 11 = .ok (.lstore_n 2, 1) := by decide +kernel
theorem d_M_joins_12 : decode prog_13_method_46_code 12 = .ok (.aload_n 0, 1) := by decide +kernel
theorem d_M_joins_13 : decode prog_13_method_46_code 13 = .ok (.getfield 130, 3) := by decide +kernel
theorem d_M_joins_16 : decode prog_13_method_46_code 16 = .ok (.aload_n 0, 1) := by decide +kernel
theorem d_M_joins_17 : decode prog_13_method_46_code 17 = .ok (.getfield 330, 3) := by decide +kernel
theorem d_M_joins_20 : decode prog_13_method_46_code 20 = .ok (.iconst 2, 1) := by decide +kernel
theorem d_M_joins_21 : decode prog_13_method_46_code 21 = .ok (.isub, 1) := by decide +kernel
theorem d_M_joins_22 : decode prog_13_method_46_code 22 = .ok (.laload, 1) := by decide +kernel
theorem d_M_joins_23 : decode prog_13_method_46_code 23 = .ok (.lstore 4, 2) := by decide +kernel
theorem d_M_joins_25 : decode prog_13_method_46_code 25 = .ok (.aload_n 0, 1) := by decide +kernel
theorem d_M_joins_26 : decode prog_13_method_46_code 26 = .ok (.dup, 1) := by decide +kernel
theorem d_M_joins_27 : decode prog_13_method_46_code 27 = .ok (.getfield 330, 3) := by decide +kernel
theorem d_M_joins_30 : decode prog_13_method_46_code 30 = .ok (.iconst 2, 1) := by decide +kernel
theorem d_M_joins_31 : decode prog_13_method_46_code 31 = .ok (.isub, 1) := by decide +kernel
theorem d_M_joins_32 : decode prog_13_method_46_code 32 = .ok (.putfield 330, 3) := by decide +kernel
theorem d_M_joins_35 : decode prog_13_method_46_code 35 = .ok (.iload_n 1, 1) := by decide +kernel
theorem d_M_joins_36 : decode prog_13_method_46_code 36 = .ok (.tableswitch 243 1 16 #[80, 94, 108, 122, 135, 155, 243, 243, 243, 243, 243, 243, 175, 194, 213, 232], 80) := by decide +kernel
theorem d_M_joins_116 : decode prog_13_method_46_code 116 = .ok (.aload_n 0, 1) := by decide +kernel
theorem d_M_joins_117 : decode prog_13_method_46_code 117 = .ok (.lload 4, 2) := by decide +kernel
theorem d_M_joins_119 : decode prog_13_method_46_code 119 = .ok (.lload_n 2, 1) := by decide +kernel
theorem d_M_joins_120 : decode prog_13_method_46_code 120 = .ok (.ladd, 1) := by decide +kernel
theorem d_M_joins_121 : decode prog_13_method_46_code 121 = .ok (.invokestatic 333, 3) := by decide +kernel
theorem d_M_joins_124 : decode prog_13_method_46_code 124 = .ok (.invokevirtual 337, 3) := by decide +kernel
theorem d_M_joins_127 : decode prog_13_method_46_code 127 = .ok (.goto 170, 3) := by decide +kernel
theorem d_M_joins_130 : decode prog_13_method_46_code 130 = .ok (.aload_n 0, 1) := by decide +kernel
theorem d_M_joins_131 : decode prog_13_method_46_code 131 = .ok (.lload 4, 2) := by decide +kernel
theorem d_M_joins_133 : decode prog_13_method_46_code 133 = .ok (.lload_n 2, 1) := by decide +kernel
theorem d_M_joins_134 : decode prog_13_method_46_code 134 = .ok (.lsub, 1) := by decide +kernel
theorem d_M_joins_135 : decode prog_13_method_46_code 135 = .ok (.invokestatic 333, 3) := by decide +kernel
theorem d_M_joins_138 : decode prog_13_method_46_code 138 = .ok (.invokevirtual 337, 3) := by decide +kernel
theorem d_M_joins_141 : decode prog_13_method_46_code 141 = .ok (.goto 156, 3) := by decide +kernel
theorem d_M_joins_144 : decode prog_13_method_46_code 144 = .ok (.aload_n 0, 1) := by decide +kernel
theorem d_M_joins_145 : decode prog_13_method_46_code 145 = .ok (.lload 4, 2) := by decide +kernel
theorem d_M_joins_147 : decode prog_13_method_46_code 147 = .ok (.lload_n 2, 1) := by decide +kernel
theorem d_M_joins_148 : decode prog_13_method_46_code 148 = .ok (.lmul, 1) := by decide +kernel
theorem d_M_joins_149 : decode prog_13_method_46_code 149 = .ok (.invokestatic 333, 3) := by decide +kernel
theorem d_M_joins_152 : decode prog_13_method_46_code 152 = .ok (.invokevirtual 337, 3) := by decide +kernel
theorem d_M_joins_155 : decode prog_13_method_46_code 155 = .ok (.goto 142, 3) := by decide +kernel
theorem d_M_joins_158 : decode prog_13_method_46_code 158 = .ok (.aload_n 0, 1) := by decide +kernel
theorem d_M_joins_159 : decode prog_13_method_46_code 159 = .ok (.lload 4, 2) := by decide +kernel
theorem d_M_joins_161 : decode prog_13_method_46_code 161 = .ok (.lload_n 2, 1) := by decide +kernel
theorem d_M_joins_162 : decode prog_13_method_46_code 162 = .ok (.invokestatic 341, 3) := by decide +kernel
theorem d_M_joins_165 : decode prog_13_method_46_code 165 = .ok (.invokevirtual 337, 3) := by decide +kernel
theorem d_M_joins_168 : decode prog_13_method_46_code 168 = .ok (.goto 129, 3) := by decide +kernel
theorem d_M_joins_171 : decode prog_13_method_46_code 171 = .ok (.aload_n 0, 1) := by decide +kernel
theorem d_M_joins_172 : decode prog_13_method_46_code 172 = .ok (.lload 4, 2) := by decide +kernel
theorem d_M_joins_174 : decode prog_13_method_46_code 174 = .ok (.lload_n 2, 1) := by decide +kernel
theorem d_M_joins_175 : decode prog_13_method_46_code 175 = .ok (.lcmp, 1) := by decide +kernel
theorem d_M_joins_176 : decode prog_13_method_46_code 176 = .ok (.ifCond .ge 8, 3) := by decide +kernel
theorem d_M_joins_179 : decode prog_13_method_46_code 179 = .ok (.lload 4, 2) := by decide +kernel
theorem d_M_joins_181 : decode prog_13_method_46_code 181 = .ok (.goto 4, 3) := by decide +kernel
theorem d_M_joins_184 : decode prog_13_method_46_code 184 = .ok (.lload_n 2, 1) := by decide +kernel
theorem d_M_joins_185 : decode prog_13_method_46_code 185 = .ok (.invokevirtual 337, 3) := by decide +kernel
theorem d_M_joins_188 : decode prog_13_method_46_code 188 = .ok (.goto 109, 3) := by decide +kernel
theorem d_M_joins_191 : decode prog_13_method_46_code 191 = .ok (.aload_n 0, 1) := by decide +kernel
theorem d_M_joins_192 : decode prog_13_method_46_code 192 = .ok (.lload 4, 2) := by decide +kernel
theorem d_M_joins_194 : decode prog_13_method_46_code 194 = .ok (.lload_n 2, 1) := by decide +kernel
theorem d_M_joins_195 : decode prog_13_method_46_code 195 = .ok (.lcmp, 1) := by decide +kernel
theorem d_M_joins_196 : decode prog_13_method_46_code 196 = .ok (.ifCond .le 8, 3) := by decide +kernel
theorem d_M_joins_199 : decode prog_13_method_46_code 199 = .ok (.lload 4, 2) := by decide +kernel
theorem d_M_joins_201 : decode prog_13_method_46_code 201 = .ok (.goto 4, 3) := by decide +kernel
theorem d_M_joins_204 : decode prog_13_method_46_code 204 = .ok (.lload_n 2, 1) := by decide +kernel
theorem d_M_joins_205 : decode prog_13_method_46_code 205 = .ok (.invokevirtual 337, 3) := by decide +kernel
theorem d_M_joins_208 : decode prog_13_method_46_code 208 = .ok (.goto 89, 3) := by decide +kernel
theorem d_M_joins_211 : decode prog_13_method_46_code 211 = .ok (.aload_n 0, 1) := by decide +kernel
theorem d_M_joins_212 : decode prog_13_method_46_code 212 = .ok (.lload 4, 2) := by decide +kernel
theorem d_M_joins_214 : decode prog_13_method_46_code 214 = .ok (.lload_n 2, 1) := by decide +kernel
theorem d_M_joins_215 : decode prog_13_method_46_code 215 = .ok (.lcmp, 1) := by decide +kernel
theorem d_M_joins_216 : decode prog_13_method_46_code 216 = .ok (.ifCond .ge 7, 3) := by decide +kernel
theorem d_M_joins_219 : decode prog_13_method_46_code 219 = .ok (.lconst 1, 1) := by decide +kernel
theorem d_M_joins_220 : decode prog_13_method_46_code 220 = .ok (.goto 4, 3) := by decide +kernel
theorem d_M_joins_223 : decode prog_13_method_46_code 223 = .ok (.lconst 0, 1) := by decide +kernel
theorem d_M_joins_224 : decode prog_13_method_46_code 224 = .ok (.invokevirtual 337, 3) := by decide +kernel
theorem d_M_joins_227 : decode prog_13_method_46_code 227 = .ok (.goto 70, 3) := by decide +kernel
theorem d_M_joins_230 : decode prog_13_method_46_code 230 = .ok (.aload_n 0, 1) := by decide +kernel
theorem d_M_joins_231 : decode prog_13_method_46_code 231 = .ok (.lload 4, 2) := by decide +kernel
theorem d_M_joins_233 : decode prog_13_method_46_code 233 = .ok (.lload_n 2, 1) := by decide +kernel
theorem d_M_joins_234 : decode prog_13_method_46_code 234 = .ok (.lcmp, 1) := by decide +kernel
theorem d_M_joins_235 : decode prog_13_method_46_code 235 = .ok (.ifCond .le 7, 3) := by decide +kernel
theorem d_M_joins_238 : decode prog_13_method_46_code 238 = .ok (.lconst 1, 1) := by decide +kernel
theorem d_M_joins_239 : decode prog_13_method_46_code 239 = .ok (.goto 4, 3) := by decide +kernel
theorem d_M_joins_242 : decode prog_13_method_46_code 242 = .ok (.lconst 0, 1) := by decide +kernel
theorem d_M_joins_243 : decode prog_13_method_46_code 243 = .ok (.invokevirtual 337, 3) := by decide +kernel
theorem d_M_joins_246 : decode prog_13_method_46_code 246 = .ok (.goto 51, 3) := by decide +kernel
theorem d_M_joins_249 : decode prog_13_method_46_code 249 = .ok (.aload_n 0, 1) := by decide +kernel
theorem d_M_joins_250 : decode prog_13_method_46_code 250 = .ok (.lload 4, 2) := by decide +kernel
theorem d_M_joins_252 : decode prog_13_method_46_code 252 = .ok (.lload_n 2, 1) := by decide +kernel
theorem d_M_joins_253 : decode prog_13_method_46_code 253 = .ok (.lcmp, 1) := by decide +kernel
theorem d_M_joins_254 : decode prog_13_method_46_code 254 = .ok (.ifCond .ne 7, 3) := by decide +kernel
theorem d_M_joins_257 : decode prog_13_method_46_code 257 = .ok (.lconst 1, 1) := by decide +kernel
theorem d_M_joins_258 : decode prog_13_method_46_code 258 = .ok (.goto 4, 3) := by decide +kernel
theorem d_M_joins_261 : decode prog_13_method_46_code 261 = .ok (.lconst 0, 1) := by decide +kernel
theorem d_M_joins_262 : decode prog_13_method_46_code 262 = .ok (.invokevirtual 337, 3) := by decide +kernel
theorem d_M_joins_265 : decode prog_13_method_46_code 265 = .ok (.goto 32, 3) := by decide +kernel
theorem d_M_joins_268 : decode prog_13_method_46_code 268 = .ok (.aload_n 0, 1) := by decide +kernel
theorem d_M_joins_269 : decode prog_13_method_46_code 269 = .ok (.lload 4, 2) := by decide +kernel
theorem d_M_joins_271 : decode prog_13_method_46_code 271 = .ok (.lload_n 2, 1) := by decide +kernel
theorem d_M_joins_272 : decode prog_13_method_46_code 272 = .ok (.lmul, 1) := by decide +kernel
theorem d_M_joins_273 : decode prog_13_method_46_code 273 = .ok (.invokevirtual 337, 3) := by decide +kernel
theorem d_M_joins_276 : decode prog_13_method_46_code 276 = .ok (.goto 21, 3) := by decide +kernel
theorem d_M_joins_279 : decode prog_13_method_46_code 279 = .ok (.aload_n 0, 1) := by decide +kernel
theorem d_M_joins_280 : decode prog_13_method_46_code 280 = .ok (.lload 4, 2) := by decide +kernel
theorem d_M_joins_282 : decode prog_13_method_46_code 282 = .ok (.lload_n 2, 1) := by decide +kernel
theorem d_M_joins_283 : decode prog_13_method_46_code 283 = .ok (.ladd, 1) := by decide +kernel
theorem d_M_joins_284 : decode prog_13_method_46_code 284 = .ok (.lconst 0, 1) := by decide +kernel
theorem d_M_joins_285 : decode prog_13_method_46_code 285 = .ok (.lcmp, 1) := by decide +kernel
theorem d_M_joins_286 : decode prog_13_method_46_code 286 = .ok (.ifCond .le 7, 3) := by decide +kernel
theorem d_M_joins_289 : decode prog_13_method_46_code 289 = .ok (.lconst 1, 1) := by decide +kernel
theorem d_M_joins_290 : decode prog_13_method_46_code 290 = .ok (.goto 4, 3) := by decide +kernel
theorem d_M_joins_293 : decode prog_13_method_46_code 293 = .ok (.lconst 0, 1) := by decide +kernel
theorem d_M_joins_294 : decode prog_13_method_46_code 294 = .ok (.invokevirtual 337, 3) := by decide +kernel
theorem d_M_joins_297 : decode prog_13_method_46_code 297 = .ok (.return_, 1) := by decide +kernel
theorem d_M_holds_0 : decode prog_13_method_47_code 0 = .ok (.aload_n 0, 1) := by decide +kernel
theorem d_M_holds_1 : decode prog_13_method_47_code 1 = .ok (.iconst 0, 1) := by decide +kernel
theorem d_M_holds_2 : decode prog_13_method_47_code 2 = .ok (.putfield 330, 3) := by decide +kernel
theorem d_M_holds_5 : decode prog_13_method_47_code 5 = .ok (.aload_n 0, 1) := by decide +kernel
theorem d_M_holds_6 : decode prog_13_method_47_code 6 = .ok (.getfield 124, 3) := by decide +kernel
theorem d_M_holds_9 : decode prog_13_method_47_code 9 = .ok (.bipush 6, 2) := by decide +kernel
theorem d_M_holds_11 : decode prog_13_method_47_code 11 = .ok (.iload_n 1, 1) := by decide +kernel
theorem d_M_holds_12 : decode prog_13_method_47_code 12 = .ok (.iadd, 1) := by decide +kernel
theorem d_M_holds_13 : decode prog_13_method_47_code 13 = .ok (.iaload, 1) := by decide +kernel
theorem d_M_holds_14 : decode prog_13_method_47_code 14 = .ok (.istore_n 2, 1) := by decide +kernel
theorem d_M_holds_15 : decode prog_13_method_47_code 15 = .ok (.iload_n 2, 1) := by decide +kernel
theorem d_M_holds_16 : decode prog_13_method_47_code 16 = .ok (.aload_n 0, 1) := by decide +kernel
theorem d_M_holds_17 : decode prog_13_method_47_code 17 = .ok (.getfield 127, 3) := by decide +kernel
theorem d_M_holds_20 : decode prog_13_method_47_code 20 = .ok (.bipush 6, 2) := by decide +kernel
theorem d_M_holds_22 : decode prog_13_method_47_code 22 = .ok (.iload_n 1, 1) := by decide +kernel
theorem d_M_holds_23 : decode prog_13_method_47_code 23 = .ok (.iadd, 1) := by decide +kernel
theorem d_M_holds_24 : decode prog_13_method_47_code 24 = .ok (.iaload, 1) := by decide +kernel
theorem d_M_holds_25 : decode prog_13_method_47_code 25 = .ok (.if_icmp .ge 123, 3) := by decide +kernel
theorem d_M_holds_28 : decode prog_13_method_47_code 28 = .ok (.aload_n 0, 1) := by decide +kernel
theorem d_M_holds_29 : decode prog_13_method_47_code 29 = .ok (.getfield 118, 3) := by decide +kernel
theorem d_M_holds_32 : decode prog_13_method_47_code 32 = .ok (.sipush 1600, 3) := by decide +kernel
theorem d_M_holds_35 : decode prog_13_method_47_code 35 = .ok (.iload_n 2, 1) := by decide +kernel
theorem d_M_holds_36 : decode prog_13_method_47_code 36 = .ok (.iadd, 1) := by decide +kernel
theorem d_M_holds_37 : decode prog_13_method_47_code 37 = .ok (.iaload, 1) := by decide +kernel
theorem d_M_holds_38 : decode prog_13_method_47_code 38 = .ok (.istore_n 3, 1) := by decide +kernel
theorem d_M_holds_39 : decode prog_13_method_47_code 39 = .ok (.iload_n 3, 1) := by decide +kernel
theorem d_M_holds_40 : decode prog_13_method_47_code 40 = .ok (.sipush 1000, 3) := by decide +kernel
theorem d_M_holds_43 : decode prog_13_method_47_code 43 = .ok (.if_icmp .lt 16, 3) := by decide +kernel
theorem d_M_holds_46 : decode prog_13_method_47_code 46 = .ok (.aload_n 0, 1) := by decide +kernel
theorem d_M_holds_47 : decode prog_13_method_47_code 47 = .ok (.iload_n 3, 1) := by decide +kernel
theorem d_M_holds_48 : decode prog_13_method_47_code 48 = .ok (.sipush 1000, 3) := by decide +kernel
theorem d_M_holds_51 : decode prog_13_method_47_code 51 = .ok (.isub, 1) := by decide +kernel
theorem d_M_holds_52 : decode prog_13_method_47_code 52 = .ok (.i2l, 1) := by decide +kernel
theorem d_M_holds_53 : decode prog_13_method_47_code 53 = .ok (.invokevirtual 337, 3) := by decide +kernel
theorem d_M_holds_56 : decode prog_13_method_47_code 56 = .ok (.goto 86, 3) := by decide +kernel
theorem d_M_holds_59 : decode prog_13_method_47_code 59 = .ok (.iload_n 3, 1) := by decide +kernel
theorem d_M_holds_60 : decode prog_13_method_47_code 60 = .ok (.bipush 19, 2) := by decide +kernel
theorem d_M_holds_62 : decode prog_13_method_47_code 62 = .ok (.if_icmp .ne 11, 3) := by decide +kernel
theorem d_M_holds_65 : decode prog_13_method_47_code 65 = .ok (.aload_n 0, 1) := by decide +kernel
theorem d_M_holds_66 : decode prog_13_method_47_code 66 = .ok (.lconst 1, 1) := by decide +kernel
theorem d_M_holds_67 : decode prog_13_method_47_code 67 = .ok (.invokevirtual 337, 3) := by decide +kernel
theorem d_M_holds_70 : decode prog_13_method_47_code 70 = .ok (.goto 72, 3) := by decide +kernel
theorem d_M_holds_73 : decode prog_13_method_47_code 73 = .ok (.iload_n 3, 1) := by decide +kernel
theorem d_M_holds_74 : decode prog_13_method_47_code 74 = .ok (.bipush 18, 2) := by decide +kernel
theorem d_M_holds_76 : decode prog_13_method_47_code 76 = .ok (.if_icmp .ne 30, 3) := by decide +kernel
theorem d_M_holds_79 : decode prog_13_method_47_code 79 = .ok (.aload_n 0, 1) := by decide +kernel
theorem d_M_holds_80 : decode prog_13_method_47_code 80 = .ok (.getfield 130, 3) := by decide +kernel
theorem d_M_holds_83 : decode prog_13_method_47_code 83 = .ok (.aload_n 0, 1) := by decide +kernel
theorem d_M_holds_84 : decode prog_13_method_47_code 84 = .ok (.getfield 330, 3) := by decide +kernel
theorem d_M_holds_87 : decode prog_13_method_47_code 87 = .ok (.iconst 1, 1) := by decide +kernel
theorem d_M_holds_88 : decode prog_13_method_47_code 88 = .ok (.isub, 1) := by decide +kernel
theorem d_M_holds_89 : decode prog_13_method_47_code 89 = .ok (.lconst 1, 1) := by decide +kernel
theorem d_M_holds_90 : decode prog_13_method_47_code 90 = .ok (.aload_n 0, 1) := by decide +kernel
theorem d_M_holds_91 : decode prog_13_method_47_code 91 = .ok (.getfield 130, 3) := by decide +kernel
theorem d_M_holds_94 : decode prog_13_method_47_code 94 = .ok (.aload_n 0, 1) := by decide +kernel
theorem d_M_holds_95 : decode prog_13_method_47_code 95 = .ok (.getfield 330, 3) := by decide +kernel
theorem d_M_holds_98 : decode prog_13_method_47_code 98 = .ok (.iconst 1, 1) := by decide +kernel
theorem d_M_holds_99 : decode prog_13_method_47_code 99 = .ok (.isub, 1) := by decide +kernel
theorem d_M_holds_100 : decode prog_13_method_47_code 100 = .ok (.laload, 1) := by decide +kernel
theorem d_M_holds_101 : decode prog_13_method_47_code 101 = .ok (.lsub, 1) := by decide +kernel
theorem d_M_holds_102 : decode prog_13_method_47_code 102 = .ok (.lastore, 1) := by decide +kernel
theorem d_M_holds_103 : decode prog_13_method_47_code 103 = .ok (.goto 39, 3) := by decide +kernel
theorem d_M_holds_106 : decode prog_13_method_47_code 106 = .ok (.iload_n 3, 1) := by decide +kernel
theorem d_M_holds_107 : decode prog_13_method_47_code 107 = .ok (.i2l, 1) := by decide +kernel
theorem d_M_holds_108 : decode prog_13_method_47_code 108 = .ok (.ldc2_w 345, 3) := by decide +kernel
theorem d_M_holds_111 : decode prog_13_method_47_code 111 = .ok (.ldc2_w 347, 3) := by decide +kernel
theorem d_M_holds_114 : decode prog_13_method_47_code 114 = .ok (.invokestatic 198, 3) := by decide +kernel
theorem d_M_holds_117 : decode prog_13_method_47_code 117 = .ok (.ifCond .eq 20, 3) := by decide +kernel
theorem d_M_holds_120 : decode prog_13_method_47_code 120 = .ok (.aload_n 0, 1) := by decide +kernel
theorem d_M_holds_121 : decode prog_13_method_47_code 121 = .ok (.aload_n 0, 1) := by decide +kernel
theorem d_M_holds_122 : decode prog_13_method_47_code 122 = .ok (.getfield 133, 3) := by decide +kernel
theorem d_M_holds_125 : decode prog_13_method_47_code 125 = .ok (.iload_n 3, 1) := by decide +kernel
theorem d_M_holds_126 : decode prog_13_method_47_code 126 = .ok (.bipush 7, 2) := by decide +kernel
theorem d_M_holds_128 : decode prog_13_method_47_code 128 = .ok (.isub, 1) := by decide +kernel
theorem d_M_holds_129 : decode prog_13_method_47_code 129 = .ok (.iaload, 1) := by decide +kernel
theorem d_M_holds_130 : decode prog_13_method_47_code 130 = .ok (.i2l, 1) := by decide +kernel
theorem d_M_holds_131 : decode prog_13_method_47_code 131 = .ok (.invokevirtual 337, 3) := by decide +kernel
theorem d_M_holds_134 : decode prog_13_method_47_code 134 = .ok (.goto 8, 3) := by decide +kernel
theorem d_M_holds_137 : decode prog_13_method_47_code 137 = .ok (.aload_n 0, 1) := by decide +kernel
theorem d_M_holds_138 : decode prog_13_method_47_code 138 = .ok (.iload_n 3, 1) := by decide +kernel
theorem d_M_holds_139 : decode prog_13_method_47_code 139 = .ok (.invokevirtual 349, 3) := by decide +kernel
theorem d_M_holds_142 : decode prog_13_method_47_code 142 = .ok (.iinc 2 1, 3) := by decide +kernel
theorem d_M_holds_145 : decode prog_13_method_47_code 145 = .ok (.goto (-130), 3) := by decide +kernel
theorem d_M_holds_148 : decode prog_13_method_47_code 148 = .ok (.aload_n 0, 1) := by decide +kernel
theorem d_M_holds_149 : decode prog_13_method_47_code 149 = .ok (.getfield 130, 3) := by decide +kernel
theorem d_M_holds_152 : decode prog_13_method_47_code 152 = .ok (.iconst 0, 1) := by decide +kernel
theorem d_M_holds_153 : decode prog_13_method_47_code 153 = .ok (.laload, 1) := by decide +kernel
theorem d_M_holds_154 : decode prog_13_method_47_code 154 = .ok (.lconst 1, 1) := by decide +kernel
theorem d_M_holds_155 : decode prog_13_method_47_code 155 = .ok (.lcmp, 1) := by decide +kernel
theorem d_M_holds_156 : decode prog_13_method_47_code 156 = .ok (.ifCond .ne 7, 3) := by decide +kernel
theorem d_M_holds_159 : decode prog_13_method_47_code 159 = .ok (.iconst 1, 1) := by decide +kernel
theorem d_M_holds_160 : decode prog_13_method_47_code 160 = .ok (.goto 4, 3) := by decide +kernel
theorem d_M_holds_163 : decode prog_13_method_47_code 163 = .ok (.iconst 0, 1) := by decide +kernel
theorem d_M_holds_164 : decode prog_13_method_47_code 164 = .ok (.ireturn, 1) := by decide +kernel
theorem d_M_isLeant_0 : decode prog_13_method_59_code 0 = .ok (.aload_n 0, 1) := by decide +kernel
theorem d_M_isLeant_1 : decode prog_13_method_59_code 1 = .ok (.getfield 133, 3) := by decide +kernel
theorem d_M_isLeant_4 : decode prog_13_method_59_code 4 = .ok (.iconst 0, 1) := by decide +kernel
theorem d_M_isLeant_5 : decode prog_13_method_59_code 5 = .ok (.aload_n 0, 1) := by decide +kernel
theorem d_M_isLeant_6 : decode prog_13_method_59_code 6 = .ok (.getfield 381, 3) := by decide +kernel
theorem d_M_isLeant_9 : decode prog_13_method_59_code 9 = .ok (.iastore, 1) := by decide +kernel
theorem d_M_isLeant_10 : decode prog_13_method_59_code 10 = .ok (.aload_n 0, 1) := by decide +kernel
theorem d_M_isLeant_11 : decode prog_13_method_59_code 11 = .ok (.getfield 133, 3) := by decide +kernel
theorem d_M_isLeant_14 : decode prog_13_method_59_code 14 = .ok (.iconst 1, 1) := by decide +kernel
theorem d_M_isLeant_15 : decode prog_13_method_59_code 15 = .ok (.aload_n 0, 1) := by decide +kernel
theorem d_M_isLeant_16 : decode prog_13_method_59_code 16 = .ok (.getfield 364, 3) := by decide +kernel
theorem d_M_isLeant_19 : decode prog_13_method_59_code 19 = .ok (.iastore, 1) := by decide +kernel
theorem d_M_isLeant_20 : decode prog_13_method_59_code 20 = .ok (.aload_n 0, 1) := by decide +kernel
theorem d_M_isLeant_21 : decode prog_13_method_59_code 21 = .ok (.getfield 133, 3) := by decide +kernel
theorem d_M_isLeant_24 : decode prog_13_method_59_code 24 = .ok (.iconst 2, 1) := by decide +kernel
theorem d_M_isLeant_25 : decode prog_13_method_59_code 25 = .ok (.aload_n 0, 1) := by decide +kernel
theorem d_M_isLeant_26 : decode prog_13_method_59_code 26 = .ok (.getfield 367, 3) := by decide +kernel
theorem d_M_isLeant_29 : decode prog_13_method_59_code 29 = .ok (.iastore, 1) := by decide +kernel
theorem d_M_isLeant_30 : decode prog_13_method_59_code 30 = .ok (.aload_n 0, 1) := by decide +kernel
theorem d_M_isLeant_31 : decode prog_13_method_59_code 31 = .ok (.getfield 133, 3) := by decide +kernel
theorem d_M_isLeant_34 : decode prog_13_method_59_code 34 = .ok (.iconst 3, 1) := by decide +kernel
theorem d_M_isLeant_35 : decode prog_13_method_59_code 35 = .ok (.aload_n 0, 1) := by decide +kernel
theorem d_M_isLeant_36 : decode prog_13_method_59_code 36 = .ok (.iload_n 1, 1) := by decide +kernel
theorem d_M_isLeant_37 : decode prog_13_method_59_code 37 = .ok (.iconst 5, 1) := by decide +kernel
theorem d_M_isLeant_38 : decode prog_13_method_59_code 38 = .ok (.invokevirtual 358, 3) := by decide +kernel
theorem d_M_isLeant_41 : decode prog_13_method_59_code 41 = .ok (.iastore, 1) := by decide +kernel
theorem d_M_isLeant_42 : decode prog_13_method_59_code 42 = .ok (.aload_n 0, 1) := by decide +kernel
theorem d_M_isLeant_43 : decode prog_13_method_59_code 43 = .ok (.getfield 133, 3) := by decide +kernel
theorem d_M_isLeant_46 : decode prog_13_method_59_code 46 = .ok (.iconst 4, 1) := by decide +kernel
theorem d_M_isLeant_47 : decode prog_13_method_59_code 47 = .ok (.aload_n 0, 1) := by decide +kernel
theorem d_M_isLeant_48 : decode prog_13_method_59_code 48 = .ok (.getfield 384, 3) := by decide +kernel
theorem d_M_isLeant_51 : decode prog_13_method_59_code 51 = .ok (.iastore, 1) := by decide +kernel
theorem d_M_isLeant_52 : decode prog_13_method_59_code 52 = .ok (.aload_n 0, 1) := by decide +kernel
theorem d_M_isLeant_53 : decode prog_13_method_59_code 53 = .ok (.getfield 133, 3) := by decide +kernel
theorem d_M_isLeant_56 : decode prog_13_method_59_code 56 = .ok (.iconst 5, 1) := by decide +kernel
theorem d_M_isLeant_57 : decode prog_13_method_59_code 57 = .ok (.aload_n 0, 1) := by decide +kernel
theorem d_M_isLeant_58 : decode prog_13_method_59_code 58 = .ok (.getfield 361, 3) := by decide +kernel
theorem d_M_isLeant_61 : decode prog_13_method_59_code 61 = .ok (.iastore, 1) := by decide +kernel
theorem d_M_isLeant_62 : decode prog_13_method_59_code 62 = .ok (.iconst 0, 1) := by decide +kernel
theorem d_M_isLeant_63 : decode prog_13_method_59_code 63 = .ok (.istore_n 2, 1) := by decide +kernel
theorem d_M_isLeant_64 : decode prog_13_method_59_code 64 = .ok (.iload_n 2, 1) := by decide +kernel
theorem d_M_isLeant_65 : decode prog_13_method_59_code 65 = .ok (.aload_n 0, 1) := by decide +kernel
theorem d_M_isLeant_66 : decode prog_13_method_59_code 66 = .ok (.invokevirtual 387, 3) := by decide +kernel
theorem d_M_isLeant_69 : decode prog_13_method_59_code 69 = .ok (.if_icmp .ge 31, 3) := by decide +kernel
theorem d_M_isLeant_72 : decode prog_13_method_59_code 72 = .ok (.aload_n 0, 1) := by decide +kernel
theorem d_M_isLeant_73 : decode prog_13_method_59_code 73 = .ok (.getfield 390, 3) := by decide +kernel
theorem d_M_isLeant_76 : decode prog_13_method_59_code 76 = .ok (.iload_n 2, 1) := by decide +kernel
theorem d_M_isLeant_77 : decode prog_13_method_59_code 77 = .ok (.ishr, 1) := by decide +kernel
theorem d_M_isLeant_78 : decode prog_13_method_59_code 78 = .ok (.iconst 1, 1) := by decide +kernel
theorem d_M_isLeant_79 : decode prog_13_method_59_code 79 = .ok (.iand, 1) := by decide +kernel
theorem d_M_isLeant_80 : decode prog_13_method_59_code 80 = .ok (.iconst 1, 1) := by decide +kernel
theorem d_M_isLeant_81 : decode prog_13_method_59_code 81 = .ok (.if_icmp .ne 13, 3) := by decide +kernel
theorem d_M_isLeant_84 : decode prog_13_method_59_code 84 = .ok (.aload_n 0, 1) := by decide +kernel
theorem d_M_isLeant_85 : decode prog_13_method_59_code 85 = .ok (.iload_n 2, 1) := by decide +kernel
theorem d_M_isLeant_86 : decode prog_13_method_59_code 86 = .ok (.invokevirtual 393, 3) := by decide +kernel
theorem d_M_isLeant_89 : decode prog_13_method_59_code 89 = .ok (.ifCond .eq 5, 3) := by decide +kernel
theorem d_M_isLeant_92 : decode prog_13_method_59_code 92 = .ok (.iconst 1, 1) := by decide +kernel
theorem d_M_isLeant_93 : decode prog_13_method_59_code 93 = .ok (.ireturn, 1) := by decide +kernel
theorem d_M_isLeant_94 : decode prog_13_method_59_code 94 = .ok (.iinc 2 1, 3) := by decide +kernel
theorem d_M_isLeant_97 : decode prog_13_method_59_code 97 = .ok (.goto (-33), 3) := by decide +kernel
theorem d_M_isLeant_100 : decode prog_13_method_59_code 100 = .ok (.iconst 0, 1) := by decide +kernel
theorem d_M_isLeant_101 : decode prog_13_method_59_code 101 = .ok (.ireturn, 1) := by decide +kernel
def f_M_has (x1 : Int32) (σ : St) : Option (Int32) :=
  if x1 = 0 then
    some (sA σ 2 (3 : Int32).toNatClampNeg)
  else
    if x1 = 1 then
      bp (f_M_trierMany σ) fun r_2 =>
      some r_2
    else
      if x1 = 2 then
        bp (f_M_ruleMany σ) fun r_4 =>
        some r_4
      else
        if x1 = 3 then
          some (sA σ 11 (2 : Int32).toNatClampNeg)
        else
          if x1 = 4 then
            some (sA σ 11 (3 : Int32).toNatClampNeg)
          else
            if x1 = 5 then
              some (sA σ 11 (5 : Int32).toNatClampNeg)
            else
              if x1 = 6 then
                bp (f_M_toldOf 2 σ) fun r_6 =>
                some r_6
              else
                if x1 = 7 then
                  some (sA σ 11 (4 : Int32).toNatClampNeg)
                else
                  if x1 = 8 then
                    bp (f_M_toldOf 4 σ) fun r_8 =>
                    some r_8
                  else
                    if x1 = 9 then
                      bp (f_M_toldOf 5 σ) fun r_10 =>
                      some r_10
                    else
                      if x1 = 10 then
                        some (sA σ 11 (0 : Int32).toNatClampNeg)
                      else
                        if x1 = 11 then
                          some (sA σ 11 (1 : Int32).toNatClampNeg)
                        else
                          if x1 = 12 then
                            some (sA σ 11 (6 : Int32).toNatClampNeg)
                          else
                            if x1 = 13 then
                              some (sI σ 26)
                            else
                              some (-1)
set_option maxHeartbeats 4000000 in
set_option maxRecDepth 20000 in
theorem c_M_has {l : Launch} {g : GX} {q : Nat → Nat} {x1 : Int32}  {σ : St} {r : Int32} (hf : f_M_has  x1 σ = some r) : KK l y_M_has prog_13_method_61_code 2 (some .int) 1 g (wM g q) σ [.ref (q 0), .int x1] (some (.int r)) (wM g q) σ := by
  refine KK_of (plainFor_of_name (by decide)) (Nat.le_of_ble_eq_true rfl) (fun p e s m below meth c A ls C w hl => ?_)
  have hl : lv_has ls 2 [(0, .ref (q 0)), (1, .int x1)] := hl
  obtain ⟨hx, hb, hml, hown, hts, hK, hA, hZ, hlocks, hr, hN⟩ := id C
  unfold f_M_has at hf
  refine lv_iload_n hx hb d_M_has_0 rfl (lv_at hl 1 rfl) ?_
  by_cases c0 : x1 = 0
  · have hf := it_e c0 hf
    refine lv_tableIn (tgt := 72) hx hb d_M_has_1 (by rw [c0]; decide) (by rw [c0]; decide) (by rw [c0]; rfl) (by decide) ?_
    refine lv_aload_n hx hb d_M_has_72 rfl (lv_at hl 0 rfl) ?_
    refine mg_0_many C w k1132 d_M_has_73 ?_
    refine lv_iconst (v := 3) hx hb d_M_has_76 (by decide) ?_
    refine ml_30 C w (by decide) d_M_has_77 ?_
    cases some_e hf
    exact k_iret C w d_M_has_78
  have hf := if_e c0 hf
  have n0 := lv_neT c0 (a := 0) rfl
  by_cases c1 : x1 = 1
  · have hf := it_e c1 hf
    refine lv_tableIn (tgt := 79) hx hb d_M_has_1 (by rw [c1]; decide) (by rw [c1]; decide) (by rw [c1]; rfl) (by decide) ?_
    refine lv_aload_n hx hb d_M_has_79 rfl (lv_at hl 0 rfl) ?_
    obtain ⟨r_2, h_1, hf⟩ := bp_e hf
    refine k_callV (As := []) (rest := []) C w (c_M_trierMany (q := q) h_1) cv_M_trierMany k1509 (mr_0 C w) (by decide) hl.1 rfl (Nat.le_of_ble_eq_true rfl) d_M_has_80 (fun H locs w => ?_)
    show WK p l e s m _ below meth c 1 g (wM g q) A (some (.int r)) σ H locs (F0 m 83 ls [.int r_2])
    cases some_e hf
    exact k_iret C w d_M_has_83
  have hf := if_e c1 hf
  have n1 := lv_neT c1 (a := 1) rfl
  by_cases c2 : x1 = 2
  · have hf := it_e c2 hf
    refine lv_tableIn (tgt := 84) hx hb d_M_has_1 (by rw [c2]; decide) (by rw [c2]; decide) (by rw [c2]; rfl) (by decide) ?_
    refine lv_aload_n hx hb d_M_has_84 rfl (lv_at hl 0 rfl) ?_
    obtain ⟨r_4, h_3, hf⟩ := bp_e hf
    refine k_callV (As := []) (rest := []) C w (c_M_ruleMany (q := q) h_3) cv_M_ruleMany k1513 (mr_0 C w) (by decide) hl.1 rfl (Nat.le_of_ble_eq_true rfl) d_M_has_85 (fun H locs w => ?_)
    show WK p l e s m _ below meth c 1 g (wM g q) A (some (.int r)) σ H locs (F0 m 88 ls [.int r_4])
    cases some_e hf
    exact k_iret C w d_M_has_88
  have hf := if_e c2 hf
  have n2 := lv_neT c2 (a := 2) rfl
  by_cases c3 : x1 = 3
  · have hf := it_e c3 hf
    refine lv_tableIn (tgt := 89) hx hb d_M_has_1 (by rw [c3]; decide) (by rw [c3]; decide) (by rw [c3]; rfl) (by decide) ?_
    refine lv_aload_n hx hb d_M_has_89 rfl (lv_at hl 0 rfl) ?_
    refine mg_0_now C w k1149 d_M_has_90 ?_
    refine lv_iconst (v := 2) hx hb d_M_has_93 (by decide) ?_
    refine ml_41 C w (by decide) d_M_has_94 ?_
    cases some_e hf
    exact k_iret C w d_M_has_95
  have hf := if_e c3 hf
  have n3 := lv_neT c3 (a := 3) rfl
  by_cases c4 : x1 = 4
  · have hf := it_e c4 hf
    refine lv_tableIn (tgt := 96) hx hb d_M_has_1 (by rw [c4]; decide) (by rw [c4]; decide) (by rw [c4]; rfl) (by decide) ?_
    refine lv_aload_n hx hb d_M_has_96 rfl (lv_at hl 0 rfl) ?_
    refine mg_0_now C w k1149 d_M_has_97 ?_
    refine lv_iconst (v := 3) hx hb d_M_has_100 (by decide) ?_
    refine ml_41 C w (by decide) d_M_has_101 ?_
    cases some_e hf
    exact k_iret C w d_M_has_102
  have hf := if_e c4 hf
  have n4 := lv_neT c4 (a := 4) rfl
  by_cases c5 : x1 = 5
  · have hf := it_e c5 hf
    refine lv_tableIn (tgt := 103) hx hb d_M_has_1 (by rw [c5]; decide) (by rw [c5]; decide) (by rw [c5]; rfl) (by decide) ?_
    refine lv_aload_n hx hb d_M_has_103 rfl (lv_at hl 0 rfl) ?_
    refine mg_0_now C w k1149 d_M_has_104 ?_
    refine lv_iconst (v := 5) hx hb d_M_has_107 (by decide) ?_
    refine ml_41 C w (by decide) d_M_has_108 ?_
    cases some_e hf
    exact k_iret C w d_M_has_109
  have hf := if_e c5 hf
  have n5 := lv_neT c5 (a := 5) rfl
  by_cases c6 : x1 = 6
  · have hf := it_e c6 hf
    refine lv_tableIn (tgt := 110) hx hb d_M_has_1 (by rw [c6]; decide) (by rw [c6]; decide) (by rw [c6]; rfl) (by decide) ?_
    refine lv_aload_n hx hb d_M_has_110 rfl (lv_at hl 0 rfl) ?_
    refine lv_iconst (v := 2) hx hb d_M_has_111 (by decide) ?_
    obtain ⟨r_6, h_5, hf⟩ := bp_e hf
    refine k_callV (As := [.int 2]) (rest := []) C w (c_M_toldOf (q := q) h_5) cv_M_toldOf k1517 (mr_0 C w) (by decide) hl.1 rfl (Nat.le_of_ble_eq_true rfl) d_M_has_112 (fun H locs w => ?_)
    show WK p l e s m _ below meth c 1 g (wM g q) A (some (.int r)) σ H locs (F0 m 115 ls [.int r_6])
    cases some_e hf
    exact k_iret C w d_M_has_115
  have hf := if_e c6 hf
  have n6 := lv_neT c6 (a := 6) rfl
  by_cases c7 : x1 = 7
  · have hf := it_e c7 hf
    refine lv_tableIn (tgt := 116) hx hb d_M_has_1 (by rw [c7]; decide) (by rw [c7]; decide) (by rw [c7]; rfl) (by decide) ?_
    refine lv_aload_n hx hb d_M_has_116 rfl (lv_at hl 0 rfl) ?_
    refine mg_0_now C w k1149 d_M_has_117 ?_
    refine lv_iconst (v := 4) hx hb d_M_has_120 (by decide) ?_
    refine ml_41 C w (by decide) d_M_has_121 ?_
    cases some_e hf
    exact k_iret C w d_M_has_122
  have hf := if_e c7 hf
  have n7 := lv_neT c7 (a := 7) rfl
  by_cases c8 : x1 = 8
  · have hf := it_e c8 hf
    refine lv_tableIn (tgt := 123) hx hb d_M_has_1 (by rw [c8]; decide) (by rw [c8]; decide) (by rw [c8]; rfl) (by decide) ?_
    refine lv_aload_n hx hb d_M_has_123 rfl (lv_at hl 0 rfl) ?_
    refine lv_iconst (v := 4) hx hb d_M_has_124 (by decide) ?_
    obtain ⟨r_8, h_7, hf⟩ := bp_e hf
    refine k_callV (As := [.int 4]) (rest := []) C w (c_M_toldOf (q := q) h_7) cv_M_toldOf k1517 (mr_0 C w) (by decide) hl.1 rfl (Nat.le_of_ble_eq_true rfl) d_M_has_125 (fun H locs w => ?_)
    show WK p l e s m _ below meth c 1 g (wM g q) A (some (.int r)) σ H locs (F0 m 128 ls [.int r_8])
    cases some_e hf
    exact k_iret C w d_M_has_128
  have hf := if_e c8 hf
  have n8 := lv_neT c8 (a := 8) rfl
  by_cases c9 : x1 = 9
  · have hf := it_e c9 hf
    refine lv_tableIn (tgt := 129) hx hb d_M_has_1 (by rw [c9]; decide) (by rw [c9]; decide) (by rw [c9]; rfl) (by decide) ?_
    refine lv_aload_n hx hb d_M_has_129 rfl (lv_at hl 0 rfl) ?_
    refine lv_iconst (v := 5) hx hb d_M_has_130 (by decide) ?_
    obtain ⟨r_10, h_9, hf⟩ := bp_e hf
    refine k_callV (As := [.int 5]) (rest := []) C w (c_M_toldOf (q := q) h_9) cv_M_toldOf k1517 (mr_0 C w) (by decide) hl.1 rfl (Nat.le_of_ble_eq_true rfl) d_M_has_131 (fun H locs w => ?_)
    show WK p l e s m _ below meth c 1 g (wM g q) A (some (.int r)) σ H locs (F0 m 134 ls [.int r_10])
    cases some_e hf
    exact k_iret C w d_M_has_134
  have hf := if_e c9 hf
  have n9 := lv_neT c9 (a := 9) rfl
  by_cases c10 : x1 = 10
  · have hf := it_e c10 hf
    refine lv_tableIn (tgt := 135) hx hb d_M_has_1 (by rw [c10]; decide) (by rw [c10]; decide) (by rw [c10]; rfl) (by decide) ?_
    refine lv_aload_n hx hb d_M_has_135 rfl (lv_at hl 0 rfl) ?_
    refine mg_0_now C w k1149 d_M_has_136 ?_
    refine lv_iconst (v := 0) hx hb d_M_has_139 (by decide) ?_
    refine ml_41 C w (by decide) d_M_has_140 ?_
    cases some_e hf
    exact k_iret C w d_M_has_141
  have hf := if_e c10 hf
  have n10 := lv_neT c10 (a := 10) rfl
  by_cases c11 : x1 = 11
  · have hf := it_e c11 hf
    refine lv_tableIn (tgt := 142) hx hb d_M_has_1 (by rw [c11]; decide) (by rw [c11]; decide) (by rw [c11]; rfl) (by decide) ?_
    refine lv_aload_n hx hb d_M_has_142 rfl (lv_at hl 0 rfl) ?_
    refine mg_0_now C w k1149 d_M_has_143 ?_
    refine lv_iconst (v := 1) hx hb d_M_has_146 (by decide) ?_
    refine ml_41 C w (by decide) d_M_has_147 ?_
    cases some_e hf
    exact k_iret C w d_M_has_148
  have hf := if_e c11 hf
  have n11 := lv_neT c11 (a := 11) rfl
  by_cases c12 : x1 = 12
  · have hf := it_e c12 hf
    refine lv_tableIn (tgt := 149) hx hb d_M_has_1 (by rw [c12]; decide) (by rw [c12]; decide) (by rw [c12]; rfl) (by decide) ?_
    refine lv_aload_n hx hb d_M_has_149 rfl (lv_at hl 0 rfl) ?_
    refine mg_0_now C w k1149 d_M_has_150 ?_
    refine lv_bipush (v := 6) hx hb d_M_has_153 (by decide) ?_
    refine ml_41 C w (by decide) d_M_has_155 ?_
    cases some_e hf
    exact k_iret C w d_M_has_156
  have hf := if_e c12 hf
  have n12 := lv_neT c12 (a := 12) rfl
  by_cases c13 : x1 = 13
  · have hf := it_e c13 hf
    refine lv_tableIn (tgt := 157) hx hb d_M_has_1 (by rw [c13]; decide) (by rw [c13]; decide) (by rw [c13]; rfl) (by decide) ?_
    refine lv_aload_n hx hb d_M_has_157 rfl (lv_at hl 0 rfl) ?_
    refine mg_0_undoable C w k1168 d_M_has_158 ?_
    cases some_e hf
    exact k_iret C w d_M_has_161
  have hf := if_e c13 hf
  have n13 := lv_neT c13 (a := 13) rfl
  refine lv_tableOut (tgt := 162) hx hb d_M_has_1 (by omega) (by decide) ?_
  refine lv_iconst (v := (-1)) hx hb d_M_has_162 (by decide) ?_
  cases some_e hf
  exact k_iret C w d_M_has_163
def f_M_letter_102b (k102 : Int32 → Int64 → Int32 → St → Option (Int32)) (x3 : Int32) (x4 : Int64) (x7 : Int32) (σ : St) : Option (Int32) :=
  if x7 ≤ x3 then
    some ((lR x4 27)).toInt32
  else
    lt ((x4 / 27)) fun x_1 =>
    lt ((x7 + (-1))) fun x_2 =>
    k102 x3 x_1 x_2 σ
def f_M_letter_102 : Nat → Int32 → Int64 → Int32 → St → Option (Int32)
  | 0 => fun _ _ _ _ => none
  | n + 1 => f_M_letter_102b   (f_M_letter_102   n)
def f_M_letter_67b (k67 : Int32 → Int64 → Int32 → Int64 → St → Option (Int32)) (x3 : Int32) (x4 : Int64) (x6 : Int32) (x7 : Int64) (σ : St) : Option (Int32) :=
  if (lg_cmp x7 0) ≤ 0 then
    if x3 < x6 then
      lt ((x6 - 1)) fun x_1 =>
      f_M_letter_102 FU x3 x4 x_1 σ
    else
      some 0
  else
    lt ((x6 + 1)) fun x_2 =>
    lt ((x7 / 27)) fun x_3 =>
    k67 x3 x4 x_2 x_3 σ
def f_M_letter_67 : Nat → Int32 → Int64 → Int32 → Int64 → St → Option (Int32)
  | 0 => fun _ _ _ _ _ => none
  | n + 1 => f_M_letter_67b   (f_M_letter_67   n)
def f_M_letter (x1 : Int32) (x2 : Int32) (x3 : Int32) (σ : St) : Option (Int32) :=
  bp (f_M_isIn ((x1).toInt64) 0 1 σ) fun r_2 =>
  if r_2 = 0 then
    some (-1)
  else
    gd (inB (3 + x1) 6) <|
    bp (f_M_isIn ((x2).toInt64) 0 ((((sA σ 2 (3 + x1).toNatClampNeg) - 1)).toInt64) σ) fun r_5 =>
    if r_5 = 0 then
      some (-1)
    else
      bp (f_M_isIn ((x3).toInt64) 0 5 σ) fun r_7 =>
      if r_7 = 0 then
        some (-1)
      else
        gd (inB ((16 + (8 * x1)) + x2) 32) <|
        lt ((sB σ 0 ((16 + (8 * x1)) + x2).toNatClampNeg)) fun x_9 =>
        f_M_letter_67 FU x3 x_9 0 x_9 σ
set_option maxHeartbeats 4000000 in
set_option maxRecDepth 20000 in
theorem t_M_letter_102b {r : Int32} {σ : St} (C : Cx g A p s m av meth c prog_13_method_62_code 9 "BellHammerModel" (some .int)) {k102 : Int32 → Int64 → Int32 → St → Option (Int32)} (hk102 : ∀ (x3 : Int32) (x4 : Int64) (x7 : Int32) (H : Heap) (locs : List Loc) (ls : Array Slot), k102 x3 x4 x7 σ = some r → Wd g (wM g q) A s σ H locs → lv_has ls 9 [(3, .int x3), (4, .long x4), (7, .int x7)] → WK p l e s m av below meth c 1 g (wM g q) A (some (.int r)) σ H locs (F0 m 102 ls []))  {x3 : Int32} {x4 : Int64} {x7 : Int32} {H : Heap} {locs : List Loc} {ls : Array Slot} (hf : f_M_letter_102b  k102 x3 x4 x7 σ = some r) (w : Wd g (wM g q) A s σ H locs) (hl : lv_has ls 9 [(3, .int x3), (4, .long x4), (7, .int x7)]) : WK p l e s m av below meth c 1 g (wM g q) A (some (.int r)) σ H locs (F0 m 102 ls []) := by
  obtain ⟨hx, hb, hml, hown, hts, hK, hA, hZ, hlocks, hr, hN⟩ := id C
  unfold f_M_letter_102b at hf
  refine lv_iload hx hb d_M_letter_102 (lv_at hl 2 rfl) ?_
  refine lv_iload_n hx hb d_M_letter_104 rfl (lv_at hl 0 rfl) ?_
  refine lv_icmp_le (tgt := 122) hx hb d_M_letter_105 (by decide) (fun cd => ?_) (fun cd => ?_)
  · have hf := it_e cd hf
    refine lv_lload hx hb d_M_letter_122 (lv_at hl 1 rfl) ?_
    refine lv_ldc2 (v := 27) hx hb hown (hts _ k1397) d_M_letter_124 ?_
    refine r_lrem hx hb d_M_letter_127 (by decide) ?_
    refine lv_l2i hx hb d_M_letter_128 rfl ?_
    cases some_e hf
    exact k_iret C w d_M_letter_129
  · have hf := if_e cd hf
    refine lv_lload hx hb d_M_letter_108 (lv_at hl 1 rfl) ?_
    refine lv_ldc2 (v := 27) hx hb hown (hts _ k1397) d_M_letter_110 ?_
    refine lv_ldiv hx hb d_M_letter_113 (by decide) ?_
    refine lv_topl (fun x_1 ex_1 => ?_)
    have hf := lt_e ex_1 hf
    refine lv_lstore (lv' := [(4, .long x_1), (3, .int x3), (7, .int x7)]) hx hb d_M_letter_114 hl (by decide) rfl (fun ls hl => ?_)
    obtain ⟨x_2, ex_2⟩ : ∃ y : Int32, y = (x7 + (-1)) := ⟨_, rfl⟩
    have hf := lt_e ex_2 hf
    refine lv_iinc (v := x_2) (lv' := [(7, .int x_2), (4, .long x_1), (3, .int x3)]) hx hb d_M_letter_116 hl (k := 2) rfl (by rw [ex_2]; rfl) (by decide) rfl (fun ls hl => ?_)
    refine lv_goto (tgt := 102) hx hb d_M_letter_119 (by decide) ?_
    exact hk102 x3 x_1 x_2  _ _ _ hf w (lv_sub hl [2, 1, 0] rfl)
set_option maxHeartbeats 4000000 in
set_option maxRecDepth 20000 in
theorem t_M_letter_102 {r : Int32} {σ : St} (C : Cx g A p s m av meth c prog_13_method_62_code 9 "BellHammerModel" (some .int))  : ∀ (n : Nat) (x3 : Int32) (x4 : Int64) (x7 : Int32) (H : Heap) (locs : List Loc) (ls : Array Slot), f_M_letter_102   n x3 x4 x7 σ = some r → Wd g (wM g q) A s σ H locs → lv_has ls 9 [(3, .int x3), (4, .long x4), (7, .int x7)] → WK p l e s m av below meth c 1 g (wM g q) A (some (.int r)) σ H locs (F0 m 102 ls []) := by
  intro n
  induction n with
  | zero => intro x3 x4 x7 H locs ls hf; exact absurd hf (by intro z; cases z)
  | succ n ih => intro x3 x4 x7 H locs ls hf w hl; exact t_M_letter_102b C  ih hf w hl
set_option maxHeartbeats 4000000 in
set_option maxRecDepth 20000 in
theorem t_M_letter_67b {r : Int32} {σ : St} (C : Cx g A p s m av meth c prog_13_method_62_code 9 "BellHammerModel" (some .int)) {k67 : Int32 → Int64 → Int32 → Int64 → St → Option (Int32)} (hk67 : ∀ (x3 : Int32) (x4 : Int64) (x6 : Int32) (x7 : Int64) (H : Heap) (locs : List Loc) (ls : Array Slot), k67 x3 x4 x6 x7 σ = some r → Wd g (wM g q) A s σ H locs → lv_has ls 9 [(3, .int x3), (4, .long x4), (6, .int x6), (7, .long x7)] → WK p l e s m av below meth c 1 g (wM g q) A (some (.int r)) σ H locs (F0 m 67 ls []))  {x3 : Int32} {x4 : Int64} {x6 : Int32} {x7 : Int64} {H : Heap} {locs : List Loc} {ls : Array Slot} (hf : f_M_letter_67b  k67 x3 x4 x6 x7 σ = some r) (w : Wd g (wM g q) A s σ H locs) (hl : lv_has ls 9 [(3, .int x3), (4, .long x4), (6, .int x6), (7, .long x7)]) : WK p l e s m av below meth c 1 g (wM g q) A (some (.int r)) σ H locs (F0 m 67 ls []) := by
  obtain ⟨hx, hb, hml, hown, hts, hK, hA, hZ, hlocks, hr, hN⟩ := id C
  unfold f_M_letter_67b at hf
  refine lv_lload hx hb d_M_letter_67 (lv_at hl 3 rfl) ?_
  refine lv_lconst (v := 0) hx hb d_M_letter_69 (by decide) ?_
  refine W.lcmp hx hb d_M_letter_70 ?_
  refine lv_if_le (tgt := 88) hx hb d_M_letter_71 (by decide) (fun cd => ?_) (fun cd => ?_)
  · have hf := it_e cd hf
    refine lv_iload_n hx hb d_M_letter_88 rfl (lv_at hl 0 rfl) ?_
    refine lv_iload hx hb d_M_letter_89 (lv_at hl 2 rfl) ?_
    refine lv_icmp_lt (tgt := 96) hx hb d_M_letter_91 (by decide) (fun cd => ?_) (fun cd => ?_)
    · have hf := it_e cd hf
      refine lv_iload hx hb d_M_letter_96 (lv_at hl 2 rfl) ?_
      refine lv_iconst (v := 1) hx hb d_M_letter_98 (by decide) ?_
      refine lv_isub hx hb d_M_letter_99 ?_
      refine lv_topi (fun x_1 ex_1 => ?_)
      have hf := lt_e ex_1 hf
      refine lv_istore (lv' := [(7, .int x_1), (3, .int x3), (4, .long x4), (6, .int x6)]) hx hb d_M_letter_100 hl (by decide) rfl (fun ls hl => ?_)
      exact t_M_letter_102 C  FU x3 x4 x_1  _ _ _ hf w (lv_sub hl [1, 2, 0] rfl)
    · have hf := if_e cd hf
      refine lv_iconst (v := 0) hx hb d_M_letter_94 (by decide) ?_
      cases some_e hf
      exact k_iret C w d_M_letter_95
  · have hf := if_e cd hf
    obtain ⟨x_2, ex_2⟩ : ∃ y : Int32, y = (x6 + 1) := ⟨_, rfl⟩
    have hf := lt_e ex_2 hf
    refine lv_iinc (v := x_2) (lv' := [(6, .int x_2), (3, .int x3), (4, .long x4), (7, .long x7)]) hx hb d_M_letter_74 hl (k := 2) rfl (by rw [ex_2]; rfl) (by decide) rfl (fun ls hl => ?_)
    refine lv_lload hx hb d_M_letter_77 (lv_at hl 3 rfl) ?_
    refine lv_ldc2 (v := 27) hx hb hown (hts _ k1397) d_M_letter_79 ?_
    refine lv_ldiv hx hb d_M_letter_82 (by decide) ?_
    refine lv_topl (fun x_3 ex_3 => ?_)
    have hf := lt_e ex_3 hf
    refine lv_lstore (lv' := [(7, .long x_3), (6, .int x_2), (3, .int x3), (4, .long x4)]) hx hb d_M_letter_83 hl (by decide) rfl (fun ls hl => ?_)
    refine lv_goto (tgt := 67) hx hb d_M_letter_85 (by decide) ?_
    exact hk67 x3 x4 x_2 x_3  _ _ _ hf w (lv_sub hl [2, 3, 1, 0] rfl)
set_option maxHeartbeats 4000000 in
set_option maxRecDepth 20000 in
theorem t_M_letter_67 {r : Int32} {σ : St} (C : Cx g A p s m av meth c prog_13_method_62_code 9 "BellHammerModel" (some .int))  : ∀ (n : Nat) (x3 : Int32) (x4 : Int64) (x6 : Int32) (x7 : Int64) (H : Heap) (locs : List Loc) (ls : Array Slot), f_M_letter_67   n x3 x4 x6 x7 σ = some r → Wd g (wM g q) A s σ H locs → lv_has ls 9 [(3, .int x3), (4, .long x4), (6, .int x6), (7, .long x7)] → WK p l e s m av below meth c 1 g (wM g q) A (some (.int r)) σ H locs (F0 m 67 ls []) := by
  intro n
  induction n with
  | zero => intro x3 x4 x6 x7 H locs ls hf; exact absurd hf (by intro z; cases z)
  | succ n ih => intro x3 x4 x6 x7 H locs ls hf w hl; exact t_M_letter_67b C  ih hf w hl
set_option maxHeartbeats 4000000 in
set_option maxRecDepth 20000 in
theorem c_M_letter {l : Launch} {g : GX} {q : Nat → Nat} {x1 : Int32} {x2 : Int32} {x3 : Int32}  {σ : St} {r : Int32} (hf : f_M_letter  x1 x2 x3 σ = some r) : KK l y_M_letter prog_13_method_62_code 9 (some .int) 1 g (wM g q) σ [.ref (q 0), .int x1, .int x2, .int x3] (some (.int r)) (wM g q) σ := by
  refine KK_of (plainFor_of_name (by decide)) (Nat.le_of_ble_eq_true rfl) (fun p e s m below meth c A ls C w hl => ?_)
  have hl : lv_has ls 9 [(0, .ref (q 0)), (1, .int x1), (2, .int x2), (3, .int x3)] := hl
  obtain ⟨hx, hb, hml, hown, hts, hK, hA, hZ, hlocks, hr, hN⟩ := id C
  unfold f_M_letter at hf
  refine lv_iload_n hx hb d_M_letter_0 rfl (lv_at hl 1 rfl) ?_
  refine lv_i2l hx hb d_M_letter_1 rfl ?_
  refine lv_lconst (v := 0) hx hb d_M_letter_2 (by decide) ?_
  refine lv_lconst (v := 1) hx hb d_M_letter_3 (by decide) ?_
  obtain ⟨r_2, h_1, hf⟩ := bp_e hf
  refine k_callS (As := [.long (x1).toInt64, .long 0, .long 1]) (rest := []) C w (c_M_isIn (q := q) h_1) cv_M_isIn k1410 (by decide) hl.1 rfl (Nat.le_of_ble_eq_true rfl) d_M_letter_4 (fun H locs w => ?_)
  show WK p l e s m _ below meth c 1 g (wM g q) A (some (.int r)) σ H locs (F0 m 7 ls [.int r_2])
  refine lv_if_eq (tgt := 42) hx hb d_M_letter_7 (by decide) (fun cd => ?_) (fun cd => ?_)
  · have hf := it_e cd hf
    refine lv_iconst (v := (-1)) hx hb d_M_letter_42 (by decide) ?_
    cases some_e hf
    exact k_iret C w d_M_letter_43
  · have hf := if_e cd hf
    refine lv_iload_n hx hb d_M_letter_10 rfl (lv_at hl 2 rfl) ?_
    refine lv_i2l hx hb d_M_letter_11 rfl ?_
    refine lv_lconst (v := 0) hx hb d_M_letter_12 (by decide) ?_
    refine lv_aload_n hx hb d_M_letter_13 rfl (lv_at hl 0 rfl) ?_
    refine mg_0_many C w k1132 d_M_letter_14 ?_
    refine lv_iconst (v := 3) hx hb d_M_letter_17 (by decide) ?_
    refine lv_iload_n hx hb d_M_letter_18 rfl (lv_at hl 1 rfl) ?_
    refine lv_iadd hx hb d_M_letter_19 ?_
    obtain ⟨g_3, hf⟩ := gd_e hf
    refine ml_30 C w g_3 d_M_letter_20 ?_
    refine lv_iconst (v := 1) hx hb d_M_letter_21 (by decide) ?_
    refine lv_isub hx hb d_M_letter_22 ?_
    refine lv_i2l hx hb d_M_letter_23 rfl ?_
    obtain ⟨r_5, h_4, hf⟩ := bp_e hf
    refine k_callS (As := [.long (x2).toInt64, .long 0, .long (((sA σ 2 (3 + x1).toNatClampNeg) - 1)).toInt64]) (rest := []) C w (c_M_isIn (q := q) h_4) cv_M_isIn k1410 (by decide) hl.1 rfl (Nat.le_of_ble_eq_true rfl) d_M_letter_24 (fun H locs w => ?_)
    show WK p l e s m _ below meth c 1 g (wM g q) A (some (.int r)) σ H locs (F0 m 27 ls [.int r_5])
    refine lv_if_eq (tgt := 42) hx hb d_M_letter_27 (by decide) (fun cd => ?_) (fun cd => ?_)
    · have hf := it_e cd hf
      refine lv_iconst (v := (-1)) hx hb d_M_letter_42 (by decide) ?_
      cases some_e hf
      exact k_iret C w d_M_letter_43
    · have hf := if_e cd hf
      refine lv_iload_n hx hb d_M_letter_30 rfl (lv_at hl 3 rfl) ?_
      refine lv_i2l hx hb d_M_letter_31 rfl ?_
      refine lv_lconst (v := 0) hx hb d_M_letter_32 (by decide) ?_
      refine lv_ldc2 (v := 5) hx hb hown (hts _ k1525) d_M_letter_33 ?_
      obtain ⟨r_7, h_6, hf⟩ := bp_e hf
      refine k_callS (As := [.long (x3).toInt64, .long 0, .long 5]) (rest := []) C w (c_M_isIn (q := q) h_6) cv_M_isIn k1410 (by decide) hl.1 rfl (Nat.le_of_ble_eq_true rfl) d_M_letter_36 (fun H locs w => ?_)
      show WK p l e s m _ below meth c 1 g (wM g q) A (some (.int r)) σ H locs (F0 m 39 ls [.int r_7])
      refine lv_if_ne (tgt := 44) hx hb d_M_letter_39 (by decide) (fun cd => ?_) (fun cd => ?_)
      · have hf := if_e cd hf
        refine lv_aload_n hx hb d_M_letter_44 rfl (lv_at hl 0 rfl) ?_
        refine mg_0_names C w k1133 d_M_letter_45 ?_
        refine lv_bipush (v := 16) hx hb d_M_letter_48 (by decide) ?_
        refine lv_bipush (v := 8) hx hb d_M_letter_50 (by decide) ?_
        refine lv_iload_n hx hb d_M_letter_52 rfl (lv_at hl 1 rfl) ?_
        refine lv_imul hx hb d_M_letter_53 ?_
        refine lv_iadd hx hb d_M_letter_54 ?_
        refine lv_iload_n hx hb d_M_letter_55 rfl (lv_at hl 2 rfl) ?_
        refine lv_iadd hx hb d_M_letter_56 ?_
        obtain ⟨g_8, hf⟩ := gd_e hf
        refine ml_31 C w g_8 d_M_letter_57 ?_
        refine lv_topl (fun x_9 ex_9 => ?_)
        have hf := lt_e ex_9 hf
        refine lv_lstore (lv' := [(4, .long x_9), (0, .ref (q 0)), (1, .int x1), (2, .int x2), (3, .int x3)]) hx hb d_M_letter_58 hl (by decide) rfl (fun ls hl => ?_)
        refine lv_iconst (v := 0) hx hb d_M_letter_60 (by decide) ?_
        refine lv_istore (lv' := [(6, .int 0), (4, .long x_9), (0, .ref (q 0)), (1, .int x1), (2, .int x2), (3, .int x3)]) hx hb d_M_letter_61 hl (by decide) rfl (fun ls hl => ?_)
        refine lv_lload hx hb d_M_letter_63 (lv_at hl 1 rfl) ?_
        refine lv_lstore (lv' := [(7, .long x_9), (6, .int 0), (4, .long x_9), (0, .ref (q 0)), (1, .int x1), (2, .int x2), (3, .int x3)]) hx hb d_M_letter_65 hl (by decide) rfl (fun ls hl => ?_)
        exact t_M_letter_67 C  FU x3 x_9 0 x_9  _ _ _ hf w (lv_sub hl [6, 2, 1, 0] rfl)
      · have hf := it_e cd hf
        refine lv_iconst (v := (-1)) hx hb d_M_letter_42 (by decide) ?_
        cases some_e hf
        exact k_iret C w d_M_letter_43
def f_M_isTrier (x1 : Int32) (σ : St) : Option (Int32) :=
  bp (f_M_trierMany σ) fun r_2 =>
  bp (f_M_isIn ((x1).toInt64) 0 (((r_2 - 1)).toInt64) σ) fun r_4 =>
  gd (isB r_4) <|
  some r_4
set_option maxHeartbeats 4000000 in
set_option maxRecDepth 20000 in
theorem c_M_isTrier {l : Launch} {g : GX} {q : Nat → Nat} {x1 : Int32}  {σ : St} {r : Int32} (hf : f_M_isTrier  x1 σ = some r) : KK l y_M_isTrier prog_13_method_50_code 2 (some .boolean) 1 g (wM g q) σ [.ref (q 0), .int x1] (some (.int r)) (wM g q) σ := by
  refine KK_of (plainFor_of_name (by decide)) (Nat.le_of_ble_eq_true rfl) (fun p e s m below meth c A ls C w hl => ?_)
  have hl : lv_has ls 2 [(0, .ref (q 0)), (1, .int x1)] := hl
  obtain ⟨hx, hb, hml, hown, hts, hK, hA, hZ, hlocks, hr, hN⟩ := id C
  unfold f_M_isTrier at hf
  refine lv_iload_n hx hb d_M_isTrier_0 rfl (lv_at hl 1 rfl) ?_
  refine lv_i2l hx hb d_M_isTrier_1 rfl ?_
  refine lv_lconst (v := 0) hx hb d_M_isTrier_2 (by decide) ?_
  refine lv_aload_n hx hb d_M_isTrier_3 rfl (lv_at hl 0 rfl) ?_
  obtain ⟨r_2, h_1, hf⟩ := bp_e hf
  refine k_callV (As := []) (rest := [.long 0, .long (x1).toInt64]) C w (c_M_trierMany (q := q) h_1) cv_M_trierMany k1509 (mr_0 C w) (by decide) hl.1 rfl (Nat.le_of_ble_eq_true rfl) d_M_isTrier_4 (fun H locs w => ?_)
  show WK p l e s m _ below meth c 1 g (wM g q) A (some (.int r)) σ H locs (F0 m 7 ls [.int r_2, .long 0, .long (x1).toInt64])
  refine lv_iconst (v := 1) hx hb d_M_isTrier_7 (by decide) ?_
  refine lv_isub hx hb d_M_isTrier_8 ?_
  refine lv_i2l hx hb d_M_isTrier_9 rfl ?_
  obtain ⟨r_4, h_3, hf⟩ := bp_e hf
  refine k_callS (As := [.long (x1).toInt64, .long 0, .long ((r_2 - 1)).toInt64]) (rest := []) C w (c_M_isIn (q := q) h_3) cv_M_isIn k1410 (by decide) hl.1 rfl (Nat.le_of_ble_eq_true rfl) d_M_isTrier_10 (fun H locs w => ?_)
  show WK p l e s m _ below meth c 1 g (wM g q) A (some (.int r)) σ H locs (F0 m 13 ls [.int r_4])
  obtain ⟨g_5, hf⟩ := gd_e hf
  cases some_e hf
  exact k_zret C w g_5 d_M_isTrier_13
def f_M_trierOf (x1 : Int32) (x2 : Int32) (σ : St) : Option (Int32) :=
  gd (inB ((48 + (6 * x1)) + x2) 96) <|
  some (sA σ 4 ((48 + (6 * x1)) + x2).toNatClampNeg)
set_option maxHeartbeats 4000000 in
set_option maxRecDepth 20000 in
theorem c_M_trierOf {l : Launch} {g : GX} {q : Nat → Nat} {x1 : Int32} {x2 : Int32}  {σ : St} {r : Int32} (hf : f_M_trierOf  x1 x2 σ = some r) : KK l y_M_trierOf prog_13_method_51_code 3 (some .int) 0 g (wM g q) σ [.ref (q 0), .int x1, .int x2] (some (.int r)) (wM g q) σ := by
  refine KK_of (plainFor_of_name (by decide)) (Nat.le_of_ble_eq_true rfl) (fun p e s m below meth c A ls C w hl => ?_)
  have hl : lv_has ls 3 [(0, .ref (q 0)), (1, .int x1), (2, .int x2)] := hl
  obtain ⟨hx, hb, hml, hown, hts, hK, hA, hZ, hlocks, hr, hN⟩ := id C
  unfold f_M_trierOf at hf
  refine lv_aload_n hx hb d_M_trierOf_0 rfl (lv_at hl 0 rfl) ?_
  refine mg_0_triers C w k1135 d_M_trierOf_1 ?_
  refine lv_bipush (v := 48) hx hb d_M_trierOf_4 (by decide) ?_
  refine lv_bipush (v := 6) hx hb d_M_trierOf_6 (by decide) ?_
  refine lv_iload_n hx hb d_M_trierOf_8 rfl (lv_at hl 1 rfl) ?_
  refine lv_imul hx hb d_M_trierOf_9 ?_
  refine lv_iadd hx hb d_M_trierOf_10 ?_
  refine lv_iload_n hx hb d_M_trierOf_11 rfl (lv_at hl 2 rfl) ?_
  refine lv_iadd hx hb d_M_trierOf_12 ?_
  obtain ⟨g_1, hf⟩ := gd_e hf
  refine ml_33 C w g_1 d_M_trierOf_13 ?_
  cases some_e hf
  exact k_iret C w d_M_trierOf_14
def f_M_trier (x1 : Int32) (x2 : Int32) (σ : St) : Option (Int32) :=
  bp (f_M_isTrier x1 σ) fun r_2 =>
  if r_2 = 0 then
    some (-1)
  else
    bp (f_M_isIn ((x2).toInt64) 0 5 σ) fun r_4 =>
    if r_4 = 0 then
      some (-1)
    else
      bp (f_M_trierOf x1 x2 σ) fun r_6 =>
      some r_6
set_option maxHeartbeats 4000000 in
set_option maxRecDepth 20000 in
theorem c_M_trier {l : Launch} {g : GX} {q : Nat → Nat} {x1 : Int32} {x2 : Int32}  {σ : St} {r : Int32} (hf : f_M_trier  x1 x2 σ = some r) : KK l y_M_trier prog_13_method_63_code 3 (some .int) 2 g (wM g q) σ [.ref (q 0), .int x1, .int x2] (some (.int r)) (wM g q) σ := by
  refine KK_of (plainFor_of_name (by decide)) (Nat.le_of_ble_eq_true rfl) (fun p e s m below meth c A ls C w hl => ?_)
  have hl : lv_has ls 3 [(0, .ref (q 0)), (1, .int x1), (2, .int x2)] := hl
  obtain ⟨hx, hb, hml, hown, hts, hK, hA, hZ, hlocks, hr, hN⟩ := id C
  unfold f_M_trier at hf
  refine lv_aload_n hx hb d_M_trier_0 rfl (lv_at hl 0 rfl) ?_
  refine lv_iload_n hx hb d_M_trier_1 rfl (lv_at hl 1 rfl) ?_
  obtain ⟨r_2, h_1, hf⟩ := bp_e hf
  refine k_callV (As := [.int x1]) (rest := []) C w (c_M_isTrier (q := q) h_1) cv_M_isTrier k1530 (mr_0 C w) (by decide) hl.1 rfl (Nat.le_of_ble_eq_true rfl) d_M_trier_2 (fun H locs w => ?_)
  show WK p l e s m _ below meth c 2 g (wM g q) A (some (.int r)) σ H locs (F0 m 5 ls [.int r_2])
  refine lv_if_eq (tgt := 29) hx hb d_M_trier_5 (by decide) (fun cd => ?_) (fun cd => ?_)
  · have hf := it_e cd hf
    refine lv_iconst (v := (-1)) hx hb d_M_trier_29 (by decide) ?_
    cases some_e hf
    exact k_iret C w d_M_trier_30
  · have hf := if_e cd hf
    refine lv_iload_n hx hb d_M_trier_8 rfl (lv_at hl 2 rfl) ?_
    refine lv_i2l hx hb d_M_trier_9 rfl ?_
    refine lv_lconst (v := 0) hx hb d_M_trier_10 (by decide) ?_
    refine lv_ldc2 (v := 5) hx hb hown (hts _ k1525) d_M_trier_11 ?_
    obtain ⟨r_4, h_3, hf⟩ := bp_e hf
    refine k_callS (As := [.long (x2).toInt64, .long 0, .long 5]) (rest := []) C w (c_M_isIn (q := q) h_3) cv_M_isIn k1410 (by decide) hl.1 rfl (Nat.le_of_ble_eq_true rfl) d_M_trier_14 (fun H locs w => ?_)
    show WK p l e s m _ below meth c 2 g (wM g q) A (some (.int r)) σ H locs (F0 m 17 ls [.int r_4])
    refine lv_if_eq (tgt := 29) hx hb d_M_trier_17 (by decide) (fun cd => ?_) (fun cd => ?_)
    · have hf := it_e cd hf
      refine lv_iconst (v := (-1)) hx hb d_M_trier_29 (by decide) ?_
      cases some_e hf
      exact k_iret C w d_M_trier_30
    · have hf := if_e cd hf
      refine lv_aload_n hx hb d_M_trier_20 rfl (lv_at hl 0 rfl) ?_
      refine lv_iload_n hx hb d_M_trier_21 rfl (lv_at hl 1 rfl) ?_
      refine lv_iload_n hx hb d_M_trier_22 rfl (lv_at hl 2 rfl) ?_
      obtain ⟨r_6, h_5, hf⟩ := bp_e hf
      refine k_callV (As := [.int x1, .int x2]) (rest := []) C w (c_M_trierOf (q := q) h_5) cv_M_trierOf k1534 (mr_0 C w) (by decide) hl.1 rfl (Nat.le_of_ble_eq_true rfl) d_M_trier_23 (fun H locs w => ?_)
      show WK p l e s m _ below meth c 2 g (wM g q) A (some (.int r)) σ H locs (F0 m 26 ls [.int r_6])
      refine lv_goto (tgt := 30) hx hb d_M_trier_26 (by decide) ?_
      cases some_e hf
      exact k_iret C w d_M_trier_30
def f_M_mark (x1 : Int32) (σ : St) : Option (Int32) :=
  bp (f_M_isIn ((x1).toInt64) 0 ((((sA σ 2 (3 : Int32).toNatClampNeg) - 1)).toInt64) σ) fun r_2 =>
  if r_2 = 0 then
    some (-1)
  else
    gd (inB (6 + x1) 12) <|
    some (sA σ 3 (6 + x1).toNatClampNeg)
set_option maxHeartbeats 4000000 in
set_option maxRecDepth 20000 in
theorem c_M_mark {l : Launch} {g : GX} {q : Nat → Nat} {x1 : Int32}  {σ : St} {r : Int32} (hf : f_M_mark  x1 σ = some r) : KK l y_M_mark prog_13_method_64_code 2 (some .int) 1 g (wM g q) σ [.ref (q 0), .int x1] (some (.int r)) (wM g q) σ := by
  refine KK_of (plainFor_of_name (by decide)) (Nat.le_of_ble_eq_true rfl) (fun p e s m below meth c A ls C w hl => ?_)
  have hl : lv_has ls 2 [(0, .ref (q 0)), (1, .int x1)] := hl
  obtain ⟨hx, hb, hml, hown, hts, hK, hA, hZ, hlocks, hr, hN⟩ := id C
  unfold f_M_mark at hf
  refine lv_iload_n hx hb d_M_mark_0 rfl (lv_at hl 1 rfl) ?_
  refine lv_i2l hx hb d_M_mark_1 rfl ?_
  refine lv_lconst (v := 0) hx hb d_M_mark_2 (by decide) ?_
  refine lv_aload_n hx hb d_M_mark_3 rfl (lv_at hl 0 rfl) ?_
  refine mg_0_many C w k1132 d_M_mark_4 ?_
  refine lv_iconst (v := 3) hx hb d_M_mark_7 (by decide) ?_
  refine ml_30 C w (by decide) d_M_mark_8 ?_
  refine lv_iconst (v := 1) hx hb d_M_mark_9 (by decide) ?_
  refine lv_isub hx hb d_M_mark_10 ?_
  refine lv_i2l hx hb d_M_mark_11 rfl ?_
  obtain ⟨r_2, h_1, hf⟩ := bp_e hf
  refine k_callS (As := [.long (x1).toInt64, .long 0, .long (((sA σ 2 (3 : Int32).toNatClampNeg) - 1)).toInt64]) (rest := []) C w (c_M_isIn (q := q) h_1) cv_M_isIn k1410 (by decide) hl.1 rfl (Nat.le_of_ble_eq_true rfl) d_M_mark_12 (fun H locs w => ?_)
  show WK p l e s m _ below meth c 1 g (wM g q) A (some (.int r)) σ H locs (F0 m 15 ls [.int r_2])
  refine lv_if_eq (tgt := 30) hx hb d_M_mark_15 (by decide) (fun cd => ?_) (fun cd => ?_)
  · have hf := it_e cd hf
    refine lv_iconst (v := (-1)) hx hb d_M_mark_30 (by decide) ?_
    cases some_e hf
    exact k_iret C w d_M_mark_31
  · have hf := if_e cd hf
    refine lv_aload_n hx hb d_M_mark_18 rfl (lv_at hl 0 rfl) ?_
    refine mg_0_marks C w k1134 d_M_mark_19 ?_
    refine lv_bipush (v := 6) hx hb d_M_mark_22 (by decide) ?_
    refine lv_iload_n hx hb d_M_mark_24 rfl (lv_at hl 1 rfl) ?_
    refine lv_iadd hx hb d_M_mark_25 ?_
    obtain ⟨g_3, hf⟩ := gd_e hf
    refine ml_32 C w g_3 d_M_mark_26 ?_
    refine lv_goto (tgt := 31) hx hb d_M_mark_27 (by decide) ?_
    cases some_e hf
    exact k_iret C w d_M_mark_31
def f_M_past_67 (k18 : Int32 → Int32 → Int32 → St → Option (Int32)) (x1 : Int32) (x3 : Int32) (σ : St) : Option (Int32) :=
  lt ((x3 + 1)) fun x_1 =>
  k18 x1 x3 x_1 σ
def f_M_past_18b (k18 : Int32 → Int32 → Int32 → St → Option (Int32)) (x1 : Int32) (x2 : Int32) (x3 : Int32) (σ : St) : Option (Int32) :=
  if (sA σ 2 (3 : Int32).toNatClampNeg) ≤ x3 then
    some x2
  else
    gd (inB (6 + x3) 12) <|
    if x1 < (sA σ 3 (6 + x3).toNatClampNeg) then
      lt ((x3 + 1)) fun x_2 =>
      k18 x1 x2 x_2 σ
    else
      if x2 = (-1) then
        f_M_past_67 k18 x1 x3 σ
      else
        gd (inB (6 + x3) 12) <|
        gd (inB (6 + x2) 12) <|
        if (sA σ 3 (6 + x3).toNatClampNeg) ≤ (sA σ 3 (6 + x2).toNatClampNeg) then
          lt ((x3 + 1)) fun x_5 =>
          k18 x1 x2 x_5 σ
        else
          f_M_past_67 k18 x1 x3 σ
def f_M_past_18 : Nat → Int32 → Int32 → Int32 → St → Option (Int32)
  | 0 => fun _ _ _ _ => none
  | n + 1 => f_M_past_18b   (f_M_past_18   n)
def f_M_past (x1 : Int32) (σ : St) : Option (Int32) :=
  bp (f_M_isIn ((x1).toInt64) 0 99 σ) fun r_2 =>
  if r_2 = 0 then
    some (-1)
  else
    f_M_past_18 FU x1 (-1) 0 σ
set_option maxHeartbeats 4000000 in
set_option maxRecDepth 20000 in
theorem t_M_past_67 {r : Int32} {σ : St} (C : Cx g A p s m av meth c prog_13_method_65_code 4 "BellHammerModel" (some .int)) {k18 : Int32 → Int32 → Int32 → St → Option (Int32)} (hk18 : ∀ (x1 : Int32) (x2 : Int32) (x3 : Int32) (H : Heap) (locs : List Loc) (ls : Array Slot), k18 x1 x2 x3 σ = some r → Wd g (wM g q) A s σ H locs → lv_has ls 4 [(0, .ref (q 0)), (1, .int x1), (2, .int x2), (3, .int x3)] → WK p l e s m av below meth c 1 g (wM g q) A (some (.int r)) σ H locs (F0 m 18 ls []))  {x1 : Int32} {x3 : Int32} {H : Heap} {locs : List Loc} {ls : Array Slot} (hf : f_M_past_67  k18 x1 x3 σ = some r) (w : Wd g (wM g q) A s σ H locs) (hl : lv_has ls 4 [(0, .ref (q 0)), (1, .int x1), (3, .int x3)]) : WK p l e s m av below meth c 1 g (wM g q) A (some (.int r)) σ H locs (F0 m 67 ls []) := by
  obtain ⟨hx, hb, hml, hown, hts, hK, hA, hZ, hlocks, hr, hN⟩ := id C
  unfold f_M_past_67 at hf
  refine lv_iload_n hx hb d_M_past_67 rfl (lv_at hl 2 rfl) ?_
  refine lv_istore_n (lv' := [(2, .int x3), (0, .ref (q 0)), (1, .int x1), (3, .int x3)]) hx hb d_M_past_68 rfl hl (by decide) rfl (fun ls hl => ?_)
  obtain ⟨x_1, ex_1⟩ : ∃ y : Int32, y = (x3 + 1) := ⟨_, rfl⟩
  have hf := lt_e ex_1 hf
  refine lv_iinc (v := x_1) (lv' := [(3, .int x_1), (2, .int x3), (0, .ref (q 0)), (1, .int x1)]) hx hb d_M_past_69 hl (k := 3) rfl (by rw [ex_1]; rfl) (by decide) rfl (fun ls hl => ?_)
  refine lv_goto (tgt := 18) hx hb d_M_past_72 (by decide) ?_
  exact hk18 x1 x3 x_1  _ _ _ hf w (lv_sub hl [2, 3, 1, 0] rfl)
set_option maxHeartbeats 4000000 in
set_option maxRecDepth 20000 in
theorem t_M_past_18b {r : Int32} {σ : St} (C : Cx g A p s m av meth c prog_13_method_65_code 4 "BellHammerModel" (some .int)) {k18 : Int32 → Int32 → Int32 → St → Option (Int32)} (hk18 : ∀ (x1 : Int32) (x2 : Int32) (x3 : Int32) (H : Heap) (locs : List Loc) (ls : Array Slot), k18 x1 x2 x3 σ = some r → Wd g (wM g q) A s σ H locs → lv_has ls 4 [(0, .ref (q 0)), (1, .int x1), (2, .int x2), (3, .int x3)] → WK p l e s m av below meth c 1 g (wM g q) A (some (.int r)) σ H locs (F0 m 18 ls []))  {x1 : Int32} {x2 : Int32} {x3 : Int32} {H : Heap} {locs : List Loc} {ls : Array Slot} (hf : f_M_past_18b  k18 x1 x2 x3 σ = some r) (w : Wd g (wM g q) A s σ H locs) (hl : lv_has ls 4 [(0, .ref (q 0)), (1, .int x1), (2, .int x2), (3, .int x3)]) : WK p l e s m av below meth c 1 g (wM g q) A (some (.int r)) σ H locs (F0 m 18 ls []) := by
  obtain ⟨hx, hb, hml, hown, hts, hK, hA, hZ, hlocks, hr, hN⟩ := id C
  unfold f_M_past_18b at hf
  refine lv_iload_n hx hb d_M_past_18 rfl (lv_at hl 3 rfl) ?_
  refine lv_aload_n hx hb d_M_past_19 rfl (lv_at hl 0 rfl) ?_
  refine mg_0_many C w k1132 d_M_past_20 ?_
  refine lv_iconst (v := 3) hx hb d_M_past_23 (by decide) ?_
  refine ml_30 C w (by decide) d_M_past_24 ?_
  refine lv_icmp_ge (tgt := 75) hx hb d_M_past_25 (by decide) (fun cd => ?_) (fun cd => ?_)
  · have hf := it_e cd hf
    refine lv_iload_n hx hb d_M_past_75 rfl (lv_at hl 2 rfl) ?_
    cases some_e hf
    exact k_iret C w d_M_past_76
  · have hf := if_e cd hf
    refine lv_aload_n hx hb d_M_past_28 rfl (lv_at hl 0 rfl) ?_
    refine mg_0_marks C w k1134 d_M_past_29 ?_
    refine lv_bipush (v := 6) hx hb d_M_past_32 (by decide) ?_
    refine lv_iload_n hx hb d_M_past_34 rfl (lv_at hl 3 rfl) ?_
    refine lv_iadd hx hb d_M_past_35 ?_
    obtain ⟨g_1, hf⟩ := gd_e hf
    refine ml_32 C w g_1 d_M_past_36 ?_
    refine lv_iload_n hx hb d_M_past_37 rfl (lv_at hl 1 rfl) ?_
    refine lv_icmp_gt (tgt := 69) hx hb d_M_past_38 (by decide) (fun cd => ?_) (fun cd => ?_)
    · have hf := it_e cd hf
      obtain ⟨x_2, ex_2⟩ : ∃ y : Int32, y = (x3 + 1) := ⟨_, rfl⟩
      have hf := lt_e ex_2 hf
      refine lv_iinc (v := x_2) (lv' := [(3, .int x_2), (0, .ref (q 0)), (1, .int x1), (2, .int x2)]) hx hb d_M_past_69 hl (k := 3) rfl (by rw [ex_2]; rfl) (by decide) rfl (fun ls hl => ?_)
      refine lv_goto (tgt := 18) hx hb d_M_past_72 (by decide) ?_
      exact hk18 x1 x2 x_2  _ _ _ hf w (lv_sub hl [1, 2, 3, 0] rfl)
    · have hf := if_e cd hf
      refine lv_iload_n hx hb d_M_past_41 rfl (lv_at hl 2 rfl) ?_
      refine lv_iconst (v := (-1)) hx hb d_M_past_42 (by decide) ?_
      refine lv_icmp_eq (tgt := 67) hx hb d_M_past_43 (by decide) (fun cd => ?_) (fun cd => ?_)
      · have hf := it_e cd hf
        exact t_M_past_67 C hk18 hf w (lv_sub hl [0, 1, 3] rfl)
      · have hf := if_e cd hf
        refine lv_aload_n hx hb d_M_past_46 rfl (lv_at hl 0 rfl) ?_
        refine mg_0_marks C w k1134 d_M_past_47 ?_
        refine lv_bipush (v := 6) hx hb d_M_past_50 (by decide) ?_
        refine lv_iload_n hx hb d_M_past_52 rfl (lv_at hl 3 rfl) ?_
        refine lv_iadd hx hb d_M_past_53 ?_
        obtain ⟨g_3, hf⟩ := gd_e hf
        refine ml_32 C w g_3 d_M_past_54 ?_
        refine lv_aload_n hx hb d_M_past_55 rfl (lv_at hl 0 rfl) ?_
        refine mg_0_marks C w k1134 d_M_past_56 ?_
        refine lv_bipush (v := 6) hx hb d_M_past_59 (by decide) ?_
        refine lv_iload_n hx hb d_M_past_61 rfl (lv_at hl 2 rfl) ?_
        refine lv_iadd hx hb d_M_past_62 ?_
        obtain ⟨g_4, hf⟩ := gd_e hf
        refine ml_32 C w g_4 d_M_past_63 ?_
        refine lv_icmp_le (tgt := 69) hx hb d_M_past_64 (by decide) (fun cd => ?_) (fun cd => ?_)
        · have hf := it_e cd hf
          obtain ⟨x_5, ex_5⟩ : ∃ y : Int32, y = (x3 + 1) := ⟨_, rfl⟩
          have hf := lt_e ex_5 hf
          refine lv_iinc (v := x_5) (lv' := [(3, .int x_5), (0, .ref (q 0)), (1, .int x1), (2, .int x2)]) hx hb d_M_past_69 hl (k := 3) rfl (by rw [ex_5]; rfl) (by decide) rfl (fun ls hl => ?_)
          refine lv_goto (tgt := 18) hx hb d_M_past_72 (by decide) ?_
          exact hk18 x1 x2 x_5  _ _ _ hf w (lv_sub hl [1, 2, 3, 0] rfl)
        · have hf := if_e cd hf
          exact t_M_past_67 C hk18 hf w (lv_sub hl [0, 1, 3] rfl)
set_option maxHeartbeats 4000000 in
set_option maxRecDepth 20000 in
theorem t_M_past_18 {r : Int32} {σ : St} (C : Cx g A p s m av meth c prog_13_method_65_code 4 "BellHammerModel" (some .int))  : ∀ (n : Nat) (x1 : Int32) (x2 : Int32) (x3 : Int32) (H : Heap) (locs : List Loc) (ls : Array Slot), f_M_past_18   n x1 x2 x3 σ = some r → Wd g (wM g q) A s σ H locs → lv_has ls 4 [(0, .ref (q 0)), (1, .int x1), (2, .int x2), (3, .int x3)] → WK p l e s m av below meth c 1 g (wM g q) A (some (.int r)) σ H locs (F0 m 18 ls []) := by
  intro n
  induction n with
  | zero => intro x1 x2 x3 H locs ls hf; exact absurd hf (by intro z; cases z)
  | succ n ih => intro x1 x2 x3 H locs ls hf w hl; exact t_M_past_18b C  ih hf w hl
set_option maxHeartbeats 4000000 in
set_option maxRecDepth 20000 in
theorem c_M_past {l : Launch} {g : GX} {q : Nat → Nat} {x1 : Int32}  {σ : St} {r : Int32} (hf : f_M_past  x1 σ = some r) : KK l y_M_past prog_13_method_65_code 4 (some .int) 1 g (wM g q) σ [.ref (q 0), .int x1] (some (.int r)) (wM g q) σ := by
  refine KK_of (plainFor_of_name (by decide)) (Nat.le_of_ble_eq_true rfl) (fun p e s m below meth c A ls C w hl => ?_)
  have hl : lv_has ls 4 [(0, .ref (q 0)), (1, .int x1)] := hl
  obtain ⟨hx, hb, hml, hown, hts, hK, hA, hZ, hlocks, hr, hN⟩ := id C
  unfold f_M_past at hf
  refine lv_iload_n hx hb d_M_past_0 rfl (lv_at hl 1 rfl) ?_
  refine lv_i2l hx hb d_M_past_1 rfl ?_
  refine lv_lconst (v := 0) hx hb d_M_past_2 (by decide) ?_
  refine lv_ldc2 (v := 99) hx hb hown (hts _ k1546) d_M_past_3 ?_
  obtain ⟨r_2, h_1, hf⟩ := bp_e hf
  refine k_callS (As := [.long (x1).toInt64, .long 0, .long 99]) (rest := []) C w (c_M_isIn (q := q) h_1) cv_M_isIn k1410 (by decide) hl.1 rfl (Nat.le_of_ble_eq_true rfl) d_M_past_6 (fun H locs w => ?_)
  show WK p l e s m _ below meth c 1 g (wM g q) A (some (.int r)) σ H locs (F0 m 9 ls [.int r_2])
  refine lv_if_ne (tgt := 14) hx hb d_M_past_9 (by decide) (fun cd => ?_) (fun cd => ?_)
  · have hf := if_e cd hf
    refine lv_iconst (v := (-1)) hx hb d_M_past_14 (by decide) ?_
    refine lv_istore_n (lv' := [(2, .int (-1)), (0, .ref (q 0)), (1, .int x1)]) hx hb d_M_past_15 rfl hl (by decide) rfl (fun ls hl => ?_)
    refine lv_iconst (v := 0) hx hb d_M_past_16 (by decide) ?_
    refine lv_istore_n (lv' := [(3, .int 0), (2, .int (-1)), (0, .ref (q 0)), (1, .int x1)]) hx hb d_M_past_17 rfl hl (by decide) rfl (fun ls hl => ?_)
    exact t_M_past_18 C  FU x1 (-1) 0  _ _ _ hf w (lv_sub hl [2, 3, 1, 0] rfl)
  · have hf := it_e cd hf
    refine lv_iconst (v := (-1)) hx hb d_M_past_12 (by decide) ?_
    cases some_e hf
    exact k_iret C w d_M_past_13
def f_M_tiredBy (x0 : Int32) (x1 : Int32) (x2 : Int32) (σ : St) : Option (Int32) :=
  lt ((x0 - (x2 * x1))) fun x_1 =>
  if 1 ≤ x_1 then
    some x_1
  else
    some 1
set_option maxHeartbeats 4000000 in
set_option maxRecDepth 20000 in
theorem c_M_tiredBy {l : Launch} {g : GX} {q : Nat → Nat} {x0 : Int32} {x1 : Int32} {x2 : Int32}  {σ : St} {r : Int32} (hf : f_M_tiredBy  x0 x1 x2 σ = some r) : KK l y_M_tiredBy prog_13_method_55_code 4 (some .int) 0 g (wM g q) σ [.int x0, .int x1, .int x2] (some (.int r)) (wM g q) σ := by
  refine KK_of (plainFor_of_name (by decide)) (Nat.le_of_ble_eq_true rfl) (fun p e s m below meth c A ls C w hl => ?_)
  have hl : lv_has ls 4 [(0, .int x0), (1, .int x1), (2, .int x2)] := hl
  obtain ⟨hx, hb, hml, hown, hts, hK, hA, hZ, hlocks, hr, hN⟩ := id C
  unfold f_M_tiredBy at hf
  refine lv_iload_n hx hb d_M_tiredBy_0 rfl (lv_at hl 0 rfl) ?_
  refine lv_iload_n hx hb d_M_tiredBy_1 rfl (lv_at hl 2 rfl) ?_
  refine lv_iload_n hx hb d_M_tiredBy_2 rfl (lv_at hl 1 rfl) ?_
  refine lv_imul hx hb d_M_tiredBy_3 ?_
  refine lv_isub hx hb d_M_tiredBy_4 ?_
  refine lv_topi (fun x_1 ex_1 => ?_)
  have hf := lt_e ex_1 hf
  refine lv_istore_n (lv' := [(3, .int x_1), (0, .int x0), (1, .int x1), (2, .int x2)]) hx hb d_M_tiredBy_5 rfl hl (by decide) rfl (fun ls hl => ?_)
  refine lv_iload_n hx hb d_M_tiredBy_6 rfl (lv_at hl 0 rfl) ?_
  refine lv_iconst (v := 1) hx hb d_M_tiredBy_7 (by decide) ?_
  refine lv_icmp_ge (tgt := 15) hx hb d_M_tiredBy_8 (by decide) (fun cd => ?_) (fun cd => ?_)
  · have hf := it_e cd hf
    refine lv_iload_n hx hb d_M_tiredBy_15 rfl (lv_at hl 0 rfl) ?_
    cases some_e hf
    exact k_iret C w d_M_tiredBy_16
  · have hf := if_e cd hf
    refine lv_iconst (v := 1) hx hb d_M_tiredBy_11 (by decide) ?_
    refine lv_goto (tgt := 16) hx hb d_M_tiredBy_12 (by decide) ?_
    cases some_e hf
    exact k_iret C w d_M_tiredBy_16
def f_M_raisedBy (x0 : Int32) (x1 : Int32) (σ : St) : Option (Int32) :=
  some ((x0 * (100 - (10 * x1))) / 100)
set_option maxHeartbeats 4000000 in
set_option maxRecDepth 20000 in
theorem c_M_raisedBy {l : Launch} {g : GX} {q : Nat → Nat} {x0 : Int32} {x1 : Int32}  {σ : St} {r : Int32} (hf : f_M_raisedBy  x0 x1 σ = some r) : KK l y_M_raisedBy prog_13_method_53_code 2 (some .int) 0 g (wM g q) σ [.int x0, .int x1] (some (.int r)) (wM g q) σ := by
  refine KK_of (plainFor_of_name (by decide)) (Nat.le_of_ble_eq_true rfl) (fun p e s m below meth c A ls C w hl => ?_)
  have hl : lv_has ls 2 [(0, .int x0), (1, .int x1)] := hl
  obtain ⟨hx, hb, hml, hown, hts, hK, hA, hZ, hlocks, hr, hN⟩ := id C
  unfold f_M_raisedBy at hf
  refine lv_iload_n hx hb d_M_raisedBy_0 rfl (lv_at hl 0 rfl) ?_
  refine lv_bipush (v := 100) hx hb d_M_raisedBy_1 (by decide) ?_
  refine lv_bipush (v := 10) hx hb d_M_raisedBy_3 (by decide) ?_
  refine lv_iload_n hx hb d_M_raisedBy_5 rfl (lv_at hl 1 rfl) ?_
  refine lv_imul hx hb d_M_raisedBy_6 ?_
  refine lv_isub hx hb d_M_raisedBy_7 ?_
  refine lv_imul hx hb d_M_raisedBy_8 ?_
  refine lv_bipush (v := 100) hx hb d_M_raisedBy_9 (by decide) ?_
  refine lv_idiv hx hb d_M_raisedBy_11 (by decide) ?_
  cases some_e hf
  exact k_iret C w d_M_raisedBy_12
def f_M_heightBy (x1 : Int32) (x2 : Int32) (x3 : Int32) (σ : St) : Option (Int32) :=
  bp (f_M_raisedBy x1 x2 σ) fun r_2 =>
  if x3 = 0 then
    some r_2
  else
    some ((r_2 * (100 - (sA σ 11 (4 : Int32).toNatClampNeg))) / 100)
set_option maxHeartbeats 4000000 in
set_option maxRecDepth 20000 in
theorem c_M_heightBy {l : Launch} {g : GX} {q : Nat → Nat} {x1 : Int32} {x2 : Int32} {x3 : Int32}  {σ : St} {r : Int32} (hf : f_M_heightBy  x1 x2 x3 σ = some r) : KK l y_M_heightBy prog_13_method_54_code 5 (some .int) 1 g (wM g q) σ [.ref (q 0), .int x1, .int x2, .int x3] (some (.int r)) (wM g q) σ := by
  refine KK_of (plainFor_of_name (by decide)) (Nat.le_of_ble_eq_true rfl) (fun p e s m below meth c A ls C w hl => ?_)
  have hl : lv_has ls 5 [(0, .ref (q 0)), (1, .int x1), (2, .int x2), (3, .int x3)] := hl
  obtain ⟨hx, hb, hml, hown, hts, hK, hA, hZ, hlocks, hr, hN⟩ := id C
  unfold f_M_heightBy at hf
  refine lv_iload_n hx hb d_M_heightBy_0 rfl (lv_at hl 1 rfl) ?_
  refine lv_iload_n hx hb d_M_heightBy_1 rfl (lv_at hl 2 rfl) ?_
  obtain ⟨r_2, h_1, hf⟩ := bp_e hf
  refine k_callS (As := [.int x1, .int x2]) (rest := []) C w (c_M_raisedBy (q := q) h_1) cv_M_raisedBy k1560 (by decide) hl.1 rfl (Nat.le_of_ble_eq_true rfl) d_M_heightBy_2 (fun H locs w => ?_)
  show WK p l e s m _ below meth c 1 g (wM g q) A (some (.int r)) σ H locs (F0 m 5 ls [.int r_2])
  refine lv_istore (lv' := [(4, .int r_2), (0, .ref (q 0)), (1, .int x1), (2, .int x2), (3, .int x3)]) hx hb d_M_heightBy_5 hl (by decide) rfl (fun ls hl => ?_)
  refine lv_iload_n hx hb d_M_heightBy_7 rfl (lv_at hl 4 rfl) ?_
  refine lv_if_eq (tgt := 29) hx hb d_M_heightBy_8 (by decide) (fun cd => ?_) (fun cd => ?_)
  · have hf := it_e cd hf
    refine lv_iload hx hb d_M_heightBy_29 (lv_at hl 0 rfl) ?_
    cases some_e hf
    exact k_iret C w d_M_heightBy_31
  · have hf := if_e cd hf
    refine lv_iload hx hb d_M_heightBy_11 (lv_at hl 0 rfl) ?_
    refine lv_bipush (v := 100) hx hb d_M_heightBy_13 (by decide) ?_
    refine lv_aload_n hx hb d_M_heightBy_15 rfl (lv_at hl 1 rfl) ?_
    refine mg_0_now C w k1149 d_M_heightBy_16 ?_
    refine lv_iconst (v := 4) hx hb d_M_heightBy_19 (by decide) ?_
    refine ml_41 C w (by decide) d_M_heightBy_20 ?_
    refine lv_isub hx hb d_M_heightBy_21 ?_
    refine lv_imul hx hb d_M_heightBy_22 ?_
    refine lv_bipush (v := 100) hx hb d_M_heightBy_23 (by decide) ?_
    refine lv_idiv hx hb d_M_heightBy_25 (by decide) ?_
    refine lv_goto (tgt := 31) hx hb d_M_heightBy_26 (by decide) ?_
    cases some_e hf
    exact k_iret C w d_M_heightBy_31
def f_M_cut (x1 : Int32) (x2 : Int32) (σ : St) : Option (Int32) :=
  if x1 ≤ x2 then
    some x1
  else
    some x2
set_option maxHeartbeats 4000000 in
set_option maxRecDepth 20000 in
theorem c_M_cut {l : Launch} {g : GX} {q : Nat → Nat} {x1 : Int32} {x2 : Int32}  {σ : St} {r : Int32} (hf : f_M_cut  x1 x2 σ = some r) : KK l y_M_cut prog_13_method_56_code 3 (some .int) 0 g (wM g q) σ [.ref (q 0), .int x1, .int x2] (some (.int r)) (wM g q) σ := by
  refine KK_of (plainFor_of_name (by decide)) (Nat.le_of_ble_eq_true rfl) (fun p e s m below meth c A ls C w hl => ?_)
  have hl : lv_has ls 3 [(0, .ref (q 0)), (1, .int x1), (2, .int x2)] := hl
  obtain ⟨hx, hb, hml, hown, hts, hK, hA, hZ, hlocks, hr, hN⟩ := id C
  unfold f_M_cut at hf
  refine lv_iload_n hx hb d_M_cut_0 rfl (lv_at hl 1 rfl) ?_
  refine lv_iload_n hx hb d_M_cut_1 rfl (lv_at hl 2 rfl) ?_
  refine lv_icmp_le (tgt := 9) hx hb d_M_cut_2 (by decide) (fun cd => ?_) (fun cd => ?_)
  · have hf := it_e cd hf
    refine lv_iload_n hx hb d_M_cut_9 rfl (lv_at hl 1 rfl) ?_
    cases some_e hf
    exact k_iret C w d_M_cut_10
  · have hf := if_e cd hf
    refine lv_iload_n hx hb d_M_cut_5 rfl (lv_at hl 2 rfl) ?_
    refine lv_goto (tgt := 10) hx hb d_M_cut_6 (by decide) ?_
    cases some_e hf
    exact k_iret C w d_M_cut_10
def f_M_high (x1 : Int32) (x2 : Int32) (x3 : Int32) (x4 : Int32) (σ : St) : Option (Int32) :=
  bp (f_M_isTrier x1 σ) fun r_2 =>
  if r_2 = 0 then
    some (-1)
  else
    bp (f_M_isIn ((x2).toInt64) 0 3 σ) fun r_4 =>
    if r_4 = 0 then
      some (-1)
    else
      bp (f_M_isIn ((x3).toInt64) 0 9 σ) fun r_6 =>
      if r_6 = 0 then
        some (-1)
      else
        bp (f_M_trierOf x1 0 σ) fun r_8 =>
        bp (f_M_trierOf x1 2 σ) fun r_10 =>
        bp (f_M_tiredBy r_8 r_10 x2 σ) fun r_12 =>
        bp (f_M_heightBy r_12 x3 x4 σ) fun r_14 =>
        bp (f_M_cut r_14 (sA σ 11 (3 : Int32).toNatClampNeg) σ) fun r_16 =>
        some r_16
set_option maxHeartbeats 4000000 in
set_option maxRecDepth 20000 in
theorem c_M_high {l : Launch} {g : GX} {q : Nat → Nat} {x1 : Int32} {x2 : Int32} {x3 : Int32} {x4 : Int32}  {σ : St} {r : Int32} (hf : f_M_high  x1 x2 x3 x4 σ = some r) : KK l y_M_high prog_13_method_66_code 5 (some .int) 2 g (wM g q) σ [.ref (q 0), .int x1, .int x2, .int x3, .int x4] (some (.int r)) (wM g q) σ := by
  refine KK_of (plainFor_of_name (by decide)) (Nat.le_of_ble_eq_true rfl) (fun p e s m below meth c A ls C w hl => ?_)
  have hl : lv_has ls 5 [(0, .ref (q 0)), (1, .int x1), (2, .int x2), (3, .int x3), (4, .int x4)] := hl
  obtain ⟨hx, hb, hml, hown, hts, hK, hA, hZ, hlocks, hr, hN⟩ := id C
  unfold f_M_high at hf
  refine lv_aload_n hx hb d_M_high_0 rfl (lv_at hl 0 rfl) ?_
  refine lv_iload_n hx hb d_M_high_1 rfl (lv_at hl 1 rfl) ?_
  obtain ⟨r_2, h_1, hf⟩ := bp_e hf
  refine k_callV (As := [.int x1]) (rest := []) C w (c_M_isTrier (q := q) h_1) cv_M_isTrier k1530 (mr_0 C w) (by decide) hl.1 rfl (Nat.le_of_ble_eq_true rfl) d_M_high_2 (fun H locs w => ?_)
  show WK p l e s m _ below meth c 2 g (wM g q) A (some (.int r)) σ H locs (F0 m 5 ls [.int r_2])
  refine lv_if_eq (tgt := 32) hx hb d_M_high_5 (by decide) (fun cd => ?_) (fun cd => ?_)
  · have hf := it_e cd hf
    refine lv_iconst (v := (-1)) hx hb d_M_high_32 (by decide) ?_
    cases some_e hf
    exact k_iret C w d_M_high_33
  · have hf := if_e cd hf
    refine lv_iload_n hx hb d_M_high_8 rfl (lv_at hl 2 rfl) ?_
    refine lv_i2l hx hb d_M_high_9 rfl ?_
    refine lv_lconst (v := 0) hx hb d_M_high_10 (by decide) ?_
    refine lv_ldc2 (v := 3) hx hb hown (hts _ k1551) d_M_high_11 ?_
    obtain ⟨r_4, h_3, hf⟩ := bp_e hf
    refine k_callS (As := [.long (x2).toInt64, .long 0, .long 3]) (rest := []) C w (c_M_isIn (q := q) h_3) cv_M_isIn k1410 (by decide) hl.1 rfl (Nat.le_of_ble_eq_true rfl) d_M_high_14 (fun H locs w => ?_)
    show WK p l e s m _ below meth c 2 g (wM g q) A (some (.int r)) σ H locs (F0 m 17 ls [.int r_4])
    refine lv_if_eq (tgt := 32) hx hb d_M_high_17 (by decide) (fun cd => ?_) (fun cd => ?_)
    · have hf := it_e cd hf
      refine lv_iconst (v := (-1)) hx hb d_M_high_32 (by decide) ?_
      cases some_e hf
      exact k_iret C w d_M_high_33
    · have hf := if_e cd hf
      refine lv_iload_n hx hb d_M_high_20 rfl (lv_at hl 3 rfl) ?_
      refine lv_i2l hx hb d_M_high_21 rfl ?_
      refine lv_lconst (v := 0) hx hb d_M_high_22 (by decide) ?_
      refine lv_ldc2 (v := 9) hx hb hown (hts _ k1552) d_M_high_23 ?_
      obtain ⟨r_6, h_5, hf⟩ := bp_e hf
      refine k_callS (As := [.long (x3).toInt64, .long 0, .long 9]) (rest := []) C w (c_M_isIn (q := q) h_5) cv_M_isIn k1410 (by decide) hl.1 rfl (Nat.le_of_ble_eq_true rfl) d_M_high_26 (fun H locs w => ?_)
      show WK p l e s m _ below meth c 2 g (wM g q) A (some (.int r)) σ H locs (F0 m 29 ls [.int r_6])
      refine lv_if_ne (tgt := 34) hx hb d_M_high_29 (by decide) (fun cd => ?_) (fun cd => ?_)
      · have hf := if_e cd hf
        refine lv_aload_n hx hb d_M_high_34 rfl (lv_at hl 0 rfl) ?_
        refine lv_aload_n hx hb d_M_high_35 rfl (lv_at hl 0 rfl) ?_
        refine lv_aload_n hx hb d_M_high_36 rfl (lv_at hl 0 rfl) ?_
        refine lv_iload_n hx hb d_M_high_37 rfl (lv_at hl 1 rfl) ?_
        refine lv_iconst (v := 0) hx hb d_M_high_38 (by decide) ?_
        obtain ⟨r_8, h_7, hf⟩ := bp_e hf
        refine k_callV (As := [.int x1, .int 0]) (rest := [.ref (q 0), .ref (q 0)]) C w (c_M_trierOf (q := q) h_7) cv_M_trierOf k1534 (mr_0 C w) (by decide) hl.1 rfl (Nat.le_of_ble_eq_true rfl) d_M_high_39 (fun H locs w => ?_)
        show WK p l e s m _ below meth c 2 g (wM g q) A (some (.int r)) σ H locs (F0 m 42 ls [.int r_8, .ref (q 0), .ref (q 0)])
        refine lv_aload_n hx hb d_M_high_42 rfl (lv_at hl 0 rfl) ?_
        refine lv_iload_n hx hb d_M_high_43 rfl (lv_at hl 1 rfl) ?_
        refine lv_iconst (v := 2) hx hb d_M_high_44 (by decide) ?_
        obtain ⟨r_10, h_9, hf⟩ := bp_e hf
        refine k_callV (As := [.int x1, .int 2]) (rest := [.int r_8, .ref (q 0), .ref (q 0)]) C w (c_M_trierOf (q := q) h_9) cv_M_trierOf k1534 (mr_0 C w) (by decide) hl.1 rfl (Nat.le_of_ble_eq_true rfl) d_M_high_45 (fun H locs w => ?_)
        show WK p l e s m _ below meth c 2 g (wM g q) A (some (.int r)) σ H locs (F0 m 48 ls [.int r_10, .int r_8, .ref (q 0), .ref (q 0)])
        refine lv_iload_n hx hb d_M_high_48 rfl (lv_at hl 2 rfl) ?_
        obtain ⟨r_12, h_11, hf⟩ := bp_e hf
        refine k_callS (As := [.int r_8, .int r_10, .int x2]) (rest := [.ref (q 0), .ref (q 0)]) C w (c_M_tiredBy (q := q) h_11) cv_M_tiredBy k1553 (by decide) hl.1 rfl (Nat.le_of_ble_eq_true rfl) d_M_high_49 (fun H locs w => ?_)
        show WK p l e s m _ below meth c 2 g (wM g q) A (some (.int r)) σ H locs (F0 m 52 ls [.int r_12, .ref (q 0), .ref (q 0)])
        refine lv_iload_n hx hb d_M_high_52 rfl (lv_at hl 3 rfl) ?_
        refine lv_iload hx hb d_M_high_53 (lv_at hl 4 rfl) ?_
        obtain ⟨r_14, h_13, hf⟩ := bp_e hf
        refine k_callV (As := [.int r_12, .int x3, .int x4]) (rest := [.ref (q 0)]) C w (c_M_heightBy (q := q) h_13) cv_M_heightBy k1556 (mr_0 C w) (by decide) hl.1 rfl (Nat.le_of_ble_eq_true rfl) d_M_high_55 (fun H locs w => ?_)
        show WK p l e s m _ below meth c 2 g (wM g q) A (some (.int r)) σ H locs (F0 m 58 ls [.int r_14, .ref (q 0)])
        refine lv_aload_n hx hb d_M_high_58 rfl (lv_at hl 0 rfl) ?_
        refine mg_0_now C w k1149 d_M_high_59 ?_
        refine lv_iconst (v := 3) hx hb d_M_high_62 (by decide) ?_
        refine ml_41 C w (by decide) d_M_high_63 ?_
        obtain ⟨r_16, h_15, hf⟩ := bp_e hf
        refine k_callV (As := [.int r_14, .int (sA σ 11 (3 : Int32).toNatClampNeg)]) (rest := []) C w (c_M_cut (q := q) h_15) cv_M_cut k1563 (mr_0 C w) (by decide) hl.1 rfl (Nat.le_of_ble_eq_true rfl) d_M_high_64 (fun H locs w => ?_)
        show WK p l e s m _ below meth c 2 g (wM g q) A (some (.int r)) σ H locs (F0 m 67 ls [.int r_16])
        cases some_e hf
        exact k_iret C w d_M_high_67
      · have hf := it_e cd hf
        refine lv_iconst (v := (-1)) hx hb d_M_high_32 (by decide) ?_
        cases some_e hf
        exact k_iret C w d_M_high_33
def f_M_hard_16b (k16 : Int32 → Int32 → Int32 → St → Option (Int32)) (x1 : Int32) (x2 : Int32) (x3 : Int32) (σ : St) : Option (Int32) :=
  if 100 ≤ x3 then
    some (-1)
  else
    bp (f_M_heightBy x3 x1 x2 σ) fun r_2 =>
    if r_2 < (sA σ 11 (3 : Int32).toNatClampNeg) then
      lt ((x3 + 1)) fun x_3 =>
      k16 x1 x2 x_3 σ
    else
      some x3
def f_M_hard_16 : Nat → Int32 → Int32 → Int32 → St → Option (Int32)
  | 0 => fun _ _ _ _ => none
  | n + 1 => f_M_hard_16b   (f_M_hard_16   n)
def f_M_hard (x1 : Int32) (x2 : Int32) (σ : St) : Option (Int32) :=
  bp (f_M_isIn ((x1).toInt64) 0 9 σ) fun r_2 =>
  if r_2 = 0 then
    some (-1)
  else
    f_M_hard_16 FU x1 x2 1 σ
set_option maxHeartbeats 4000000 in
set_option maxRecDepth 20000 in
theorem t_M_hard_16b {r : Int32} {σ : St} (C : Cx g A p s m av meth c prog_13_method_67_code 4 "BellHammerModel" (some .int)) {k16 : Int32 → Int32 → Int32 → St → Option (Int32)} (hk16 : ∀ (x1 : Int32) (x2 : Int32) (x3 : Int32) (H : Heap) (locs : List Loc) (ls : Array Slot), k16 x1 x2 x3 σ = some r → Wd g (wM g q) A s σ H locs → lv_has ls 4 [(0, .ref (q 0)), (1, .int x1), (2, .int x2), (3, .int x3)] → WK p l e s m av below meth c 2 g (wM g q) A (some (.int r)) σ H locs (F0 m 16 ls []))  {x1 : Int32} {x2 : Int32} {x3 : Int32} {H : Heap} {locs : List Loc} {ls : Array Slot} (hf : f_M_hard_16b  k16 x1 x2 x3 σ = some r) (w : Wd g (wM g q) A s σ H locs) (hl : lv_has ls 4 [(0, .ref (q 0)), (1, .int x1), (2, .int x2), (3, .int x3)]) : WK p l e s m av below meth c 2 g (wM g q) A (some (.int r)) σ H locs (F0 m 16 ls []) := by
  obtain ⟨hx, hb, hml, hown, hts, hK, hA, hZ, hlocks, hr, hN⟩ := id C
  unfold f_M_hard_16b at hf
  refine lv_iload_n hx hb d_M_hard_16 rfl (lv_at hl 3 rfl) ?_
  refine lv_bipush (v := 100) hx hb d_M_hard_17 (by decide) ?_
  refine lv_icmp_ge (tgt := 46) hx hb d_M_hard_19 (by decide) (fun cd => ?_) (fun cd => ?_)
  · have hf := it_e cd hf
    refine lv_iconst (v := (-1)) hx hb d_M_hard_46 (by decide) ?_
    cases some_e hf
    exact k_iret C w d_M_hard_47
  · have hf := if_e cd hf
    refine lv_aload_n hx hb d_M_hard_22 rfl (lv_at hl 0 rfl) ?_
    refine lv_iload_n hx hb d_M_hard_23 rfl (lv_at hl 3 rfl) ?_
    refine lv_iload_n hx hb d_M_hard_24 rfl (lv_at hl 1 rfl) ?_
    refine lv_iload_n hx hb d_M_hard_25 rfl (lv_at hl 2 rfl) ?_
    obtain ⟨r_2, h_1, hf⟩ := bp_e hf
    refine k_callV (As := [.int x3, .int x1, .int x2]) (rest := []) C w (c_M_heightBy (q := q) h_1) cv_M_heightBy k1556 (mr_0 C w) (by decide) hl.1 rfl (Nat.le_of_ble_eq_true rfl) d_M_hard_26 (fun H locs w => ?_)
    show WK p l e s m av below meth c 2 g (wM g q) A (some (.int r)) σ H locs (F0 m 29 ls [.int r_2])
    refine lv_aload_n hx hb d_M_hard_29 rfl (lv_at hl 0 rfl) ?_
    refine mg_0_now C w k1149 d_M_hard_30 ?_
    refine lv_iconst (v := 3) hx hb d_M_hard_33 (by decide) ?_
    refine ml_41 C w (by decide) d_M_hard_34 ?_
    refine lv_icmp_lt (tgt := 40) hx hb d_M_hard_35 (by decide) (fun cd => ?_) (fun cd => ?_)
    · have hf := it_e cd hf
      obtain ⟨x_3, ex_3⟩ : ∃ y : Int32, y = (x3 + 1) := ⟨_, rfl⟩
      have hf := lt_e ex_3 hf
      refine lv_iinc (v := x_3) (lv' := [(3, .int x_3), (0, .ref (q 0)), (1, .int x1), (2, .int x2)]) hx hb d_M_hard_40 hl (k := 3) rfl (by rw [ex_3]; rfl) (by decide) rfl (fun ls hl => ?_)
      refine lv_goto (tgt := 16) hx hb d_M_hard_43 (by decide) ?_
      exact hk16 x1 x2 x_3  _ _ _ hf w (lv_sub hl [1, 2, 3, 0] rfl)
    · have hf := if_e cd hf
      refine lv_iload_n hx hb d_M_hard_38 rfl (lv_at hl 3 rfl) ?_
      cases some_e hf
      exact k_iret C w d_M_hard_39
set_option maxHeartbeats 4000000 in
set_option maxRecDepth 20000 in
theorem t_M_hard_16 {r : Int32} {σ : St} (C : Cx g A p s m av meth c prog_13_method_67_code 4 "BellHammerModel" (some .int))  : ∀ (n : Nat) (x1 : Int32) (x2 : Int32) (x3 : Int32) (H : Heap) (locs : List Loc) (ls : Array Slot), f_M_hard_16   n x1 x2 x3 σ = some r → Wd g (wM g q) A s σ H locs → lv_has ls 4 [(0, .ref (q 0)), (1, .int x1), (2, .int x2), (3, .int x3)] → WK p l e s m av below meth c 2 g (wM g q) A (some (.int r)) σ H locs (F0 m 16 ls []) := by
  intro n
  induction n with
  | zero => intro x1 x2 x3 H locs ls hf; exact absurd hf (by intro z; cases z)
  | succ n ih => intro x1 x2 x3 H locs ls hf w hl; exact t_M_hard_16b C  ih hf w hl
set_option maxHeartbeats 4000000 in
set_option maxRecDepth 20000 in
theorem c_M_hard {l : Launch} {g : GX} {q : Nat → Nat} {x1 : Int32} {x2 : Int32}  {σ : St} {r : Int32} (hf : f_M_hard  x1 x2 σ = some r) : KK l y_M_hard prog_13_method_67_code 4 (some .int) 2 g (wM g q) σ [.ref (q 0), .int x1, .int x2] (some (.int r)) (wM g q) σ := by
  refine KK_of (plainFor_of_name (by decide)) (Nat.le_of_ble_eq_true rfl) (fun p e s m below meth c A ls C w hl => ?_)
  have hl : lv_has ls 4 [(0, .ref (q 0)), (1, .int x1), (2, .int x2)] := hl
  obtain ⟨hx, hb, hml, hown, hts, hK, hA, hZ, hlocks, hr, hN⟩ := id C
  unfold f_M_hard at hf
  refine lv_iload_n hx hb d_M_hard_0 rfl (lv_at hl 1 rfl) ?_
  refine lv_i2l hx hb d_M_hard_1 rfl ?_
  refine lv_lconst (v := 0) hx hb d_M_hard_2 (by decide) ?_
  refine lv_ldc2 (v := 9) hx hb hown (hts _ k1552) d_M_hard_3 ?_
  obtain ⟨r_2, h_1, hf⟩ := bp_e hf
  refine k_callS (As := [.long (x1).toInt64, .long 0, .long 9]) (rest := []) C w (c_M_isIn (q := q) h_1) cv_M_isIn k1410 (by decide) hl.1 rfl (Nat.le_of_ble_eq_true rfl) d_M_hard_6 (fun H locs w => ?_)
  show WK p l e s m _ below meth c 2 g (wM g q) A (some (.int r)) σ H locs (F0 m 9 ls [.int r_2])
  refine lv_if_ne (tgt := 14) hx hb d_M_hard_9 (by decide) (fun cd => ?_) (fun cd => ?_)
  · have hf := if_e cd hf
    refine lv_iconst (v := 1) hx hb d_M_hard_14 (by decide) ?_
    refine lv_istore_n (lv' := [(3, .int 1), (0, .ref (q 0)), (1, .int x1), (2, .int x2)]) hx hb d_M_hard_15 rfl hl (by decide) rfl (fun ls hl => ?_)
    exact t_M_hard_16 C  FU x1 x2 1  _ _ _ hf w (lv_sub hl [1, 2, 3, 0] rfl)
  · have hf := it_e cd hf
    refine lv_iconst (v := (-1)) hx hb d_M_hard_12 (by decide) ?_
    cases some_e hf
    exact k_iret C w d_M_hard_13
def f_M_wide_17b (k17 : Int32 → Int32 → Int32 → St → Option (Int32)) (x1 : Int32) (x2 : Int32) (x3 : Int32) (σ : St) : Option (Int32) :=
  if x3 < 0 then
    some (-1)
  else
    bp (f_M_heightBy x1 x3 x2 σ) fun r_2 =>
    if r_2 < (sA σ 11 (3 : Int32).toNatClampNeg) then
      lt ((x3 + (-1))) fun x_3 =>
      k17 x1 x2 x_3 σ
    else
      some x3
def f_M_wide_17 : Nat → Int32 → Int32 → Int32 → St → Option (Int32)
  | 0 => fun _ _ _ _ => none
  | n + 1 => f_M_wide_17b   (f_M_wide_17   n)
def f_M_wide (x1 : Int32) (x2 : Int32) (σ : St) : Option (Int32) :=
  bp (f_M_isIn ((x1).toInt64) 1 99 σ) fun r_2 =>
  if r_2 = 0 then
    some (-1)
  else
    f_M_wide_17 FU x1 x2 9 σ
set_option maxHeartbeats 4000000 in
set_option maxRecDepth 20000 in
theorem t_M_wide_17b {r : Int32} {σ : St} (C : Cx g A p s m av meth c prog_13_method_68_code 4 "BellHammerModel" (some .int)) {k17 : Int32 → Int32 → Int32 → St → Option (Int32)} (hk17 : ∀ (x1 : Int32) (x2 : Int32) (x3 : Int32) (H : Heap) (locs : List Loc) (ls : Array Slot), k17 x1 x2 x3 σ = some r → Wd g (wM g q) A s σ H locs → lv_has ls 4 [(0, .ref (q 0)), (1, .int x1), (2, .int x2), (3, .int x3)] → WK p l e s m av below meth c 2 g (wM g q) A (some (.int r)) σ H locs (F0 m 17 ls []))  {x1 : Int32} {x2 : Int32} {x3 : Int32} {H : Heap} {locs : List Loc} {ls : Array Slot} (hf : f_M_wide_17b  k17 x1 x2 x3 σ = some r) (w : Wd g (wM g q) A s σ H locs) (hl : lv_has ls 4 [(0, .ref (q 0)), (1, .int x1), (2, .int x2), (3, .int x3)]) : WK p l e s m av below meth c 2 g (wM g q) A (some (.int r)) σ H locs (F0 m 17 ls []) := by
  obtain ⟨hx, hb, hml, hown, hts, hK, hA, hZ, hlocks, hr, hN⟩ := id C
  unfold f_M_wide_17b at hf
  refine lv_iload_n hx hb d_M_wide_17 rfl (lv_at hl 3 rfl) ?_
  refine lv_if_lt (tgt := 45) hx hb d_M_wide_18 (by decide) (fun cd => ?_) (fun cd => ?_)
  · have hf := it_e cd hf
    refine lv_iconst (v := (-1)) hx hb d_M_wide_45 (by decide) ?_
    cases some_e hf
    exact k_iret C w d_M_wide_46
  · have hf := if_e cd hf
    refine lv_aload_n hx hb d_M_wide_21 rfl (lv_at hl 0 rfl) ?_
    refine lv_iload_n hx hb d_M_wide_22 rfl (lv_at hl 1 rfl) ?_
    refine lv_iload_n hx hb d_M_wide_23 rfl (lv_at hl 3 rfl) ?_
    refine lv_iload_n hx hb d_M_wide_24 rfl (lv_at hl 2 rfl) ?_
    obtain ⟨r_2, h_1, hf⟩ := bp_e hf
    refine k_callV (As := [.int x1, .int x3, .int x2]) (rest := []) C w (c_M_heightBy (q := q) h_1) cv_M_heightBy k1556 (mr_0 C w) (by decide) hl.1 rfl (Nat.le_of_ble_eq_true rfl) d_M_wide_25 (fun H locs w => ?_)
    show WK p l e s m av below meth c 2 g (wM g q) A (some (.int r)) σ H locs (F0 m 28 ls [.int r_2])
    refine lv_aload_n hx hb d_M_wide_28 rfl (lv_at hl 0 rfl) ?_
    refine mg_0_now C w k1149 d_M_wide_29 ?_
    refine lv_iconst (v := 3) hx hb d_M_wide_32 (by decide) ?_
    refine ml_41 C w (by decide) d_M_wide_33 ?_
    refine lv_icmp_lt (tgt := 39) hx hb d_M_wide_34 (by decide) (fun cd => ?_) (fun cd => ?_)
    · have hf := it_e cd hf
      obtain ⟨x_3, ex_3⟩ : ∃ y : Int32, y = (x3 + (-1)) := ⟨_, rfl⟩
      have hf := lt_e ex_3 hf
      refine lv_iinc (v := x_3) (lv' := [(3, .int x_3), (0, .ref (q 0)), (1, .int x1), (2, .int x2)]) hx hb d_M_wide_39 hl (k := 3) rfl (by rw [ex_3]; rfl) (by decide) rfl (fun ls hl => ?_)
      refine lv_goto (tgt := 17) hx hb d_M_wide_42 (by decide) ?_
      exact hk17 x1 x2 x_3  _ _ _ hf w (lv_sub hl [1, 2, 3, 0] rfl)
    · have hf := if_e cd hf
      refine lv_iload_n hx hb d_M_wide_37 rfl (lv_at hl 3 rfl) ?_
      cases some_e hf
      exact k_iret C w d_M_wide_38
set_option maxHeartbeats 4000000 in
set_option maxRecDepth 20000 in
theorem t_M_wide_17 {r : Int32} {σ : St} (C : Cx g A p s m av meth c prog_13_method_68_code 4 "BellHammerModel" (some .int))  : ∀ (n : Nat) (x1 : Int32) (x2 : Int32) (x3 : Int32) (H : Heap) (locs : List Loc) (ls : Array Slot), f_M_wide_17   n x1 x2 x3 σ = some r → Wd g (wM g q) A s σ H locs → lv_has ls 4 [(0, .ref (q 0)), (1, .int x1), (2, .int x2), (3, .int x3)] → WK p l e s m av below meth c 2 g (wM g q) A (some (.int r)) σ H locs (F0 m 17 ls []) := by
  intro n
  induction n with
  | zero => intro x1 x2 x3 H locs ls hf; exact absurd hf (by intro z; cases z)
  | succ n ih => intro x1 x2 x3 H locs ls hf w hl; exact t_M_wide_17b C  ih hf w hl
set_option maxHeartbeats 4000000 in
set_option maxRecDepth 20000 in
theorem c_M_wide {l : Launch} {g : GX} {q : Nat → Nat} {x1 : Int32} {x2 : Int32}  {σ : St} {r : Int32} (hf : f_M_wide  x1 x2 σ = some r) : KK l y_M_wide prog_13_method_68_code 4 (some .int) 2 g (wM g q) σ [.ref (q 0), .int x1, .int x2] (some (.int r)) (wM g q) σ := by
  refine KK_of (plainFor_of_name (by decide)) (Nat.le_of_ble_eq_true rfl) (fun p e s m below meth c A ls C w hl => ?_)
  have hl : lv_has ls 4 [(0, .ref (q 0)), (1, .int x1), (2, .int x2)] := hl
  obtain ⟨hx, hb, hml, hown, hts, hK, hA, hZ, hlocks, hr, hN⟩ := id C
  unfold f_M_wide at hf
  refine lv_iload_n hx hb d_M_wide_0 rfl (lv_at hl 1 rfl) ?_
  refine lv_i2l hx hb d_M_wide_1 rfl ?_
  refine lv_lconst (v := 1) hx hb d_M_wide_2 (by decide) ?_
  refine lv_ldc2 (v := 99) hx hb hown (hts _ k1546) d_M_wide_3 ?_
  obtain ⟨r_2, h_1, hf⟩ := bp_e hf
  refine k_callS (As := [.long (x1).toInt64, .long 1, .long 99]) (rest := []) C w (c_M_isIn (q := q) h_1) cv_M_isIn k1410 (by decide) hl.1 rfl (Nat.le_of_ble_eq_true rfl) d_M_wide_6 (fun H locs w => ?_)
  show WK p l e s m _ below meth c 2 g (wM g q) A (some (.int r)) σ H locs (F0 m 9 ls [.int r_2])
  refine lv_if_ne (tgt := 14) hx hb d_M_wide_9 (by decide) (fun cd => ?_) (fun cd => ?_)
  · have hf := if_e cd hf
    refine lv_bipush (v := 9) hx hb d_M_wide_14 (by decide) ?_
    refine lv_istore_n (lv' := [(3, .int 9), (0, .ref (q 0)), (1, .int x1), (2, .int x2)]) hx hb d_M_wide_16 rfl hl (by decide) rfl (fun ls hl => ?_)
    exact t_M_wide_17 C  FU x1 x2 9  _ _ _ hf w (lv_sub hl [1, 2, 3, 0] rfl)
  · have hf := it_e cd hf
    refine lv_iconst (v := (-1)) hx hb d_M_wide_12 (by decide) ?_
    cases some_e hf
    exact k_iret C w d_M_wide_13
def f_M_puts (x1 : Int64) (σ : St) : Option (St) :=
  gd (inB (sI σ 14) 1700) <|
  lt (uB σ 1 (vp_updL (sB σ 1) (sI σ 14).toNatClampNeg x1)) fun σ_2 =>
  lt (uI σ_2 14 ((sI σ_2 14) + 1)) fun σ_3 =>
  some σ_3
set_option maxHeartbeats 4000000 in
set_option maxRecDepth 20000 in
theorem c_M_puts {l : Launch} {g : GX} {q : Nat → Nat} {x1 : Int64}  {σ : St} {σ2 : St} (hf : f_M_puts  x1 σ = some σ2) : KK l y_M_puts prog_13_method_45_code 3 none 0 g (wM g q) σ [.ref (q 0), .long x1] none (wM g q) σ2 := by
  refine KK_of (plainFor_of_name (by decide)) (Nat.le_of_ble_eq_true rfl) (fun p e s m below meth c A ls C w hl => ?_)
  have hl : lv_has ls 3 [(0, .ref (q 0)), (1, .long x1)] := hl
  obtain ⟨hx, hb, hml, hown, hts, hK, hA, hZ, hlocks, hr, hN⟩ := id C
  unfold f_M_puts at hf
  refine lv_aload_n hx hb d_M_puts_0 rfl (lv_at hl 0 rfl) ?_
  refine mg_0_pile C w k1146 d_M_puts_1 ?_
  refine lv_aload_n hx hb d_M_puts_4 rfl (lv_at hl 0 rfl) ?_
  refine mg_0_piled C w k1147 d_M_puts_5 ?_
  refine lv_lload_n hx hb d_M_puts_8 rfl (lv_at hl 1 rfl) ?_
  obtain ⟨g_1, hf⟩ := gd_e hf
  refine ms_39 C w g_1 d_M_puts_9 (fun σ_2 H locs eσ_2 w => ?_)
  have hf := lt_e eσ_2 hf
  refine lv_aload_n hx hb d_M_puts_10 rfl (lv_at hl 0 rfl) ?_
  refine lv_dup hx hb d_M_puts_11 rfl ?_
  refine mg_0_piled C w k1147 d_M_puts_12 ?_
  refine lv_iconst (v := 1) hx hb d_M_puts_15 (by decide) ?_
  refine lv_iadd hx hb d_M_puts_16 ?_
  refine mp_0_piled C w k1147 d_M_puts_17 (fun σ_3 H locs eσ_3 w => ?_)
  have hf := lt_e eσ_3 hf
  cases some_e hf
  exact k_vret C w d_M_puts_20
def f_M_floor_43 (x4 : Int64) (t0 : Int32) (t1 : Int32) (σ : St) : Option (Int64) :=
  if t1 = t0 then
    some x4
  else
    some (x4 - 1)
def f_M_floor_32 (x2 : Int64) (x4 : Int64) (t0 : Int32) (σ : St) : Option (Int64) :=
  if 0 ≤ (lg_cmp x2 0) then
    f_M_floor_43 x4 0 t0 σ
  else
    f_M_floor_43 x4 1 t0 σ
def f_M_floor (x0 : Int64) (x2 : Int64) (σ : St) : Option (Int64) :=
  if (lg_cmp x2 0) = 0 then
    some 0
  else
    gd (nzJ x2) <|
    lt ((x0 / x2)) fun x_2 =>
    gd (nzJ x2) <|
    if (lg_cmp (lR x0 x2) 0) = 0 then
      some x_2
    else
      if 0 ≤ (lg_cmp x0 0) then
        f_M_floor_32 x2 x_2 0 σ
      else
        f_M_floor_32 x2 x_2 1 σ
set_option maxHeartbeats 4000000 in
set_option maxRecDepth 20000 in
theorem t_M_floor_43 {r : Int64} {σ : St} (C : Cx g A p s m av meth c prog_13_method_44_code 6 "BellHammerModel" (some .long))  {x4 : Int64} {t0 : Int32} {t1 : Int32} {H : Heap} {locs : List Loc} {ls : Array Slot} (hf : f_M_floor_43   x4 t0 t1 σ = some r) (w : Wd g (wM g q) A s σ H locs) (hl : lv_has ls 6 [(4, .long x4)]) : WK p l e s m av below meth c 0 g (wM g q) A (some (.long r)) σ H locs (F0 m 43 ls [.int t0, .int t1]) := by
  obtain ⟨hx, hb, hml, hown, hts, hK, hA, hZ, hlocks, hr, hN⟩ := id C
  unfold f_M_floor_43 at hf
  refine lv_icmp_eq (tgt := 53) hx hb d_M_floor_43 (by decide) (fun cd => ?_) (fun cd => ?_)
  · have hf := it_e cd hf
    refine lv_lload hx hb d_M_floor_53 (lv_at hl 0 rfl) ?_
    cases some_e hf
    exact k_lret C w d_M_floor_55
  · have hf := if_e cd hf
    refine lv_lload hx hb d_M_floor_46 (lv_at hl 0 rfl) ?_
    refine lv_lconst (v := 1) hx hb d_M_floor_48 (by decide) ?_
    refine lv_lsub hx hb d_M_floor_49 ?_
    refine lv_goto (tgt := 55) hx hb d_M_floor_50 (by decide) ?_
    cases some_e hf
    exact k_lret C w d_M_floor_55
set_option maxHeartbeats 4000000 in
set_option maxRecDepth 20000 in
theorem t_M_floor_32 {r : Int64} {σ : St} (C : Cx g A p s m av meth c prog_13_method_44_code 6 "BellHammerModel" (some .long))  {x2 : Int64} {x4 : Int64} {t0 : Int32} {H : Heap} {locs : List Loc} {ls : Array Slot} (hf : f_M_floor_32   x2 x4 t0 σ = some r) (w : Wd g (wM g q) A s σ H locs) (hl : lv_has ls 6 [(2, .long x2), (4, .long x4)]) : WK p l e s m av below meth c 0 g (wM g q) A (some (.long r)) σ H locs (F0 m 32 ls [.int t0]) := by
  obtain ⟨hx, hb, hml, hown, hts, hK, hA, hZ, hlocks, hr, hN⟩ := id C
  unfold f_M_floor_32 at hf
  refine lv_lload_n hx hb d_M_floor_32 rfl (lv_at hl 0 rfl) ?_
  refine lv_lconst (v := 0) hx hb d_M_floor_33 (by decide) ?_
  refine W.lcmp hx hb d_M_floor_34 ?_
  refine lv_if_ge (tgt := 42) hx hb d_M_floor_35 (by decide) (fun cd => ?_) (fun cd => ?_)
  · have hf := it_e cd hf
    refine lv_iconst (v := 0) hx hb d_M_floor_42 (by decide) ?_
    exact t_M_floor_43 C  hf w (lv_sub hl [1] rfl)
  · have hf := if_e cd hf
    refine lv_iconst (v := 1) hx hb d_M_floor_38 (by decide) ?_
    refine lv_goto (tgt := 43) hx hb d_M_floor_39 (by decide) ?_
    exact t_M_floor_43 C  hf w (lv_sub hl [1] rfl)
set_option maxHeartbeats 4000000 in
set_option maxRecDepth 20000 in
theorem c_M_floor {l : Launch} {g : GX} {q : Nat → Nat} {x0 : Int64} {x2 : Int64}  {σ : St} {r : Int64} (hf : f_M_floor  x0 x2 σ = some r) : KK l y_M_floor prog_13_method_44_code 6 (some .long) 0 g (wM g q) σ [.long x0, .long x2] (some (.long r)) (wM g q) σ := by
  refine KK_of (plainFor_of_name (by decide)) (Nat.le_of_ble_eq_true rfl) (fun p e s m below meth c A ls C w hl => ?_)
  have hl : lv_has ls 6 [(0, .long x0), (2, .long x2)] := hl
  obtain ⟨hx, hb, hml, hown, hts, hK, hA, hZ, hlocks, hr, hN⟩ := id C
  unfold f_M_floor at hf
  refine lv_lload_n hx hb d_M_floor_0 rfl (lv_at hl 1 rfl) ?_
  refine lv_lconst (v := 0) hx hb d_M_floor_1 (by decide) ?_
  refine W.lcmp hx hb d_M_floor_2 ?_
  refine lv_if_ne (tgt := 8) hx hb d_M_floor_3 (by decide) (fun cd => ?_) (fun cd => ?_)
  · have hf := if_e cd hf
    refine lv_lload_n hx hb d_M_floor_8 rfl (lv_at hl 0 rfl) ?_
    refine lv_lload_n hx hb d_M_floor_9 rfl (lv_at hl 1 rfl) ?_
    obtain ⟨g_1, hf⟩ := gd_e hf
    refine lv_ldiv hx hb d_M_floor_10 (nzJ_e g_1) ?_
    refine lv_topl (fun x_2 ex_2 => ?_)
    have hf := lt_e ex_2 hf
    refine lv_lstore (lv' := [(4, .long x_2), (0, .long x0), (2, .long x2)]) hx hb d_M_floor_11 hl (by decide) rfl (fun ls hl => ?_)
    refine lv_lload_n hx hb d_M_floor_13 rfl (lv_at hl 1 rfl) ?_
    refine lv_lload_n hx hb d_M_floor_14 rfl (lv_at hl 2 rfl) ?_
    obtain ⟨g_3, hf⟩ := gd_e hf
    refine r_lrem hx hb d_M_floor_15 (nzJ_e g_3) ?_
    refine lv_lconst (v := 0) hx hb d_M_floor_16 (by decide) ?_
    refine W.lcmp hx hb d_M_floor_17 ?_
    refine lv_if_eq (tgt := 53) hx hb d_M_floor_18 (by decide) (fun cd => ?_) (fun cd => ?_)
    · have hf := it_e cd hf
      refine lv_lload hx hb d_M_floor_53 (lv_at hl 0 rfl) ?_
      cases some_e hf
      exact k_lret C w d_M_floor_55
    · have hf := if_e cd hf
      refine lv_lload_n hx hb d_M_floor_21 rfl (lv_at hl 1 rfl) ?_
      refine lv_lconst (v := 0) hx hb d_M_floor_22 (by decide) ?_
      refine W.lcmp hx hb d_M_floor_23 ?_
      refine lv_if_ge (tgt := 31) hx hb d_M_floor_24 (by decide) (fun cd => ?_) (fun cd => ?_)
      · have hf := it_e cd hf
        refine lv_iconst (v := 0) hx hb d_M_floor_31 (by decide) ?_
        exact t_M_floor_32 C  hf w (lv_sub hl [2, 0] rfl)
      · have hf := if_e cd hf
        refine lv_iconst (v := 1) hx hb d_M_floor_27 (by decide) ?_
        refine lv_goto (tgt := 32) hx hb d_M_floor_28 (by decide) ?_
        exact t_M_floor_32 C  hf w (lv_sub hl [2, 0] rfl)
  · have hf := it_e cd hf
    refine lv_lconst (v := 0) hx hb d_M_floor_6 (by decide) ?_
    cases some_e hf
    exact k_lret C w d_M_floor_7
def f_M_clip (x0 : Int64) (σ : St) : Option (Int64) :=
  if (lg_cmp x0 1000000) ≤ 0 then
    if 0 ≤ (lg_cmp x0 (-1000000)) then
      some x0
    else
      some (-1000000)
  else
    some 1000000
set_option maxHeartbeats 4000000 in
set_option maxRecDepth 20000 in
theorem c_M_clip {l : Launch} {g : GX} {q : Nat → Nat} {x0 : Int64}  {σ : St} {r : Int64} (hf : f_M_clip  x0 σ = some r) : KK l y_M_clip prog_13_method_43_code 2 (some .long) 0 g (wM g q) σ [.long x0] (some (.long r)) (wM g q) σ := by
  refine KK_of (plainFor_of_name (by decide)) (Nat.le_of_ble_eq_true rfl) (fun p e s m below meth c A ls C w hl => ?_)
  have hl : lv_has ls 2 [(0, .long x0)] := hl
  obtain ⟨hx, hb, hml, hown, hts, hK, hA, hZ, hlocks, hr, hN⟩ := id C
  unfold f_M_clip at hf
  refine lv_lload_n hx hb d_M_clip_0 rfl (lv_at hl 0 rfl) ?_
  refine lv_ldc2 (v := 1000000) hx hb hown (hts _ k1601) d_M_clip_1 ?_
  refine W.lcmp hx hb d_M_clip_4 ?_
  refine lv_if_le (tgt := 14) hx hb d_M_clip_5 (by decide) (fun cd => ?_) (fun cd => ?_)
  · have hf := it_e cd hf
    refine lv_lload_n hx hb d_M_clip_14 rfl (lv_at hl 0 rfl) ?_
    refine lv_ldc2 (v := (-1000000)) hx hb hown (hts _ k1602) d_M_clip_15 ?_
    refine W.lcmp hx hb d_M_clip_18 ?_
    refine lv_if_ge (tgt := 28) hx hb d_M_clip_19 (by decide) (fun cd => ?_) (fun cd => ?_)
    · have hf := it_e cd hf
      refine lv_lload_n hx hb d_M_clip_28 rfl (lv_at hl 0 rfl) ?_
      cases some_e hf
      exact k_lret C w d_M_clip_29
    · have hf := if_e cd hf
      refine lv_ldc2 (v := (-1000000)) hx hb hown (hts _ k1602) d_M_clip_22 ?_
      refine lv_goto (tgt := 29) hx hb d_M_clip_25 (by decide) ?_
      cases some_e hf
      exact k_lret C w d_M_clip_29
  · have hf := if_e cd hf
    refine lv_ldc2 (v := 1000000) hx hb hown (hts _ k1601) d_M_clip_8 ?_
    refine lv_goto (tgt := 29) hx hb d_M_clip_11 (by decide) ?_
    cases some_e hf
    exact k_lret C w d_M_clip_29
def f_M_joins_294 (t0 : Int64) (σ : St) : Option (St) :=
  bp (f_M_puts t0 σ) fun σ_2 =>
  some σ_2
def f_M_joins_262 (t0 : Int64) (σ : St) : Option (St) :=
  bp (f_M_puts t0 σ) fun σ_2 =>
  some σ_2
def f_M_joins_243 (t0 : Int64) (σ : St) : Option (St) :=
  bp (f_M_puts t0 σ) fun σ_2 =>
  some σ_2
def f_M_joins_224 (t0 : Int64) (σ : St) : Option (St) :=
  bp (f_M_puts t0 σ) fun σ_2 =>
  some σ_2
def f_M_joins_205 (t0 : Int64) (σ : St) : Option (St) :=
  bp (f_M_puts t0 σ) fun σ_2 =>
  some σ_2
def f_M_joins_185 (t0 : Int64) (σ : St) : Option (St) :=
  bp (f_M_puts t0 σ) fun σ_2 =>
  some σ_2
def f_M_joins (x1 : Int32) (σ : St) : Option (St) :=
  gd (inB ((sI σ 14) - 1) 1700) <|
  lt ((sB σ 1 ((sI σ 14) - 1).toNatClampNeg)) fun x_2 =>
  gd (inB ((sI σ 14) - 2) 1700) <|
  lt ((sB σ 1 ((sI σ 14) - 2).toNatClampNeg)) fun x_4 =>
  lt (uI σ 14 ((sI σ 14) - 2)) fun σ_5 =>
  if x1 = 1 then
    bp (f_M_clip (x_4 + x_2) σ_5) fun r_7 =>
    bp (f_M_puts r_7 σ_5) fun σ_9 =>
    some σ_9
  else
    if x1 = 2 then
      bp (f_M_clip (x_4 - x_2) σ_5) fun r_11 =>
      bp (f_M_puts r_11 σ_5) fun σ_13 =>
      some σ_13
    else
      if x1 = 3 then
        bp (f_M_clip (x_4 * x_2) σ_5) fun r_15 =>
        bp (f_M_puts r_15 σ_5) fun σ_17 =>
        some σ_17
      else
        if x1 = 4 then
          bp (f_M_floor x_4 x_2 σ_5) fun r_19 =>
          bp (f_M_puts r_19 σ_5) fun σ_21 =>
          some σ_21
        else
          if x1 = 5 then
            if 0 ≤ (lg_cmp x_4 x_2) then
              f_M_joins_185 x_2 σ_5
            else
              f_M_joins_185 x_4 σ_5
          else
            if x1 = 6 then
              if (lg_cmp x_4 x_2) ≤ 0 then
                f_M_joins_205 x_2 σ_5
              else
                f_M_joins_205 x_4 σ_5
            else
              if x1 = 13 then
                if 0 ≤ (lg_cmp x_4 x_2) then
                  f_M_joins_224 0 σ_5
                else
                  f_M_joins_224 1 σ_5
              else
                if x1 = 14 then
                  if (lg_cmp x_4 x_2) ≤ 0 then
                    f_M_joins_243 0 σ_5
                  else
                    f_M_joins_243 1 σ_5
                else
                  if x1 = 15 then
                    if (lg_cmp x_4 x_2) = 0 then
                      f_M_joins_262 1 σ_5
                    else
                      f_M_joins_262 0 σ_5
                  else
                    if x1 = 16 then
                      bp (f_M_puts (x_4 * x_2) σ_5) fun σ_23 =>
                      some σ_23
                    else
                      if (lg_cmp (x_4 + x_2) 0) ≤ 0 then
                        f_M_joins_294 0 σ_5
                      else
                        f_M_joins_294 1 σ_5
set_option maxHeartbeats 4000000 in
set_option maxRecDepth 20000 in
theorem t_M_joins_294 {σ2 : St} (C : Cx g A p s m av meth c prog_13_method_46_code 6 "BellHammerModel" none)  {t0 : Int64} {σ : St} {H : Heap} {locs : List Loc} {ls : Array Slot} (hf : f_M_joins_294   t0 σ = some σ2) (w : Wd g (wM g q) A s σ H locs) (hl : lv_has ls 6 []) : WK p l e s m av below meth c 1 g (wM g q) A none σ2 H locs (F0 m 294 ls [.long t0, .ref (q 0)]) := by
  obtain ⟨hx, hb, hml, hown, hts, hK, hA, hZ, hlocks, hr, hN⟩ := id C
  unfold f_M_joins_294 at hf
  obtain ⟨σ_2, h_1, hf⟩ := bp_e hf
  refine k_callV (As := [.long t0]) (rest := []) C w (c_M_puts (q := q) h_1) cv_M_puts k1588 (mr_0 C w) (by decide) hl.1 rfl (Nat.le_of_ble_eq_true rfl) d_M_joins_294 (fun H locs w => ?_)
  show WK p l e s m av below meth c 1 g (wM g q) A none σ2 H locs (F0 m 297 ls [])
  cases some_e hf
  exact k_vret C w d_M_joins_297
set_option maxHeartbeats 4000000 in
set_option maxRecDepth 20000 in
theorem t_M_joins_262 {σ2 : St} (C : Cx g A p s m av meth c prog_13_method_46_code 6 "BellHammerModel" none)  {t0 : Int64} {σ : St} {H : Heap} {locs : List Loc} {ls : Array Slot} (hf : f_M_joins_262   t0 σ = some σ2) (w : Wd g (wM g q) A s σ H locs) (hl : lv_has ls 6 []) : WK p l e s m av below meth c 1 g (wM g q) A none σ2 H locs (F0 m 262 ls [.long t0, .ref (q 0)]) := by
  obtain ⟨hx, hb, hml, hown, hts, hK, hA, hZ, hlocks, hr, hN⟩ := id C
  unfold f_M_joins_262 at hf
  obtain ⟨σ_2, h_1, hf⟩ := bp_e hf
  refine k_callV (As := [.long t0]) (rest := []) C w (c_M_puts (q := q) h_1) cv_M_puts k1588 (mr_0 C w) (by decide) hl.1 rfl (Nat.le_of_ble_eq_true rfl) d_M_joins_262 (fun H locs w => ?_)
  show WK p l e s m av below meth c 1 g (wM g q) A none σ2 H locs (F0 m 265 ls [])
  refine lv_goto (tgt := 297) hx hb d_M_joins_265 (by decide) ?_
  cases some_e hf
  exact k_vret C w d_M_joins_297
set_option maxHeartbeats 4000000 in
set_option maxRecDepth 20000 in
theorem t_M_joins_243 {σ2 : St} (C : Cx g A p s m av meth c prog_13_method_46_code 6 "BellHammerModel" none)  {t0 : Int64} {σ : St} {H : Heap} {locs : List Loc} {ls : Array Slot} (hf : f_M_joins_243   t0 σ = some σ2) (w : Wd g (wM g q) A s σ H locs) (hl : lv_has ls 6 []) : WK p l e s m av below meth c 1 g (wM g q) A none σ2 H locs (F0 m 243 ls [.long t0, .ref (q 0)]) := by
  obtain ⟨hx, hb, hml, hown, hts, hK, hA, hZ, hlocks, hr, hN⟩ := id C
  unfold f_M_joins_243 at hf
  obtain ⟨σ_2, h_1, hf⟩ := bp_e hf
  refine k_callV (As := [.long t0]) (rest := []) C w (c_M_puts (q := q) h_1) cv_M_puts k1588 (mr_0 C w) (by decide) hl.1 rfl (Nat.le_of_ble_eq_true rfl) d_M_joins_243 (fun H locs w => ?_)
  show WK p l e s m av below meth c 1 g (wM g q) A none σ2 H locs (F0 m 246 ls [])
  refine lv_goto (tgt := 297) hx hb d_M_joins_246 (by decide) ?_
  cases some_e hf
  exact k_vret C w d_M_joins_297
set_option maxHeartbeats 4000000 in
set_option maxRecDepth 20000 in
theorem t_M_joins_224 {σ2 : St} (C : Cx g A p s m av meth c prog_13_method_46_code 6 "BellHammerModel" none)  {t0 : Int64} {σ : St} {H : Heap} {locs : List Loc} {ls : Array Slot} (hf : f_M_joins_224   t0 σ = some σ2) (w : Wd g (wM g q) A s σ H locs) (hl : lv_has ls 6 []) : WK p l e s m av below meth c 1 g (wM g q) A none σ2 H locs (F0 m 224 ls [.long t0, .ref (q 0)]) := by
  obtain ⟨hx, hb, hml, hown, hts, hK, hA, hZ, hlocks, hr, hN⟩ := id C
  unfold f_M_joins_224 at hf
  obtain ⟨σ_2, h_1, hf⟩ := bp_e hf
  refine k_callV (As := [.long t0]) (rest := []) C w (c_M_puts (q := q) h_1) cv_M_puts k1588 (mr_0 C w) (by decide) hl.1 rfl (Nat.le_of_ble_eq_true rfl) d_M_joins_224 (fun H locs w => ?_)
  show WK p l e s m av below meth c 1 g (wM g q) A none σ2 H locs (F0 m 227 ls [])
  refine lv_goto (tgt := 297) hx hb d_M_joins_227 (by decide) ?_
  cases some_e hf
  exact k_vret C w d_M_joins_297
set_option maxHeartbeats 4000000 in
set_option maxRecDepth 20000 in
theorem t_M_joins_205 {σ2 : St} (C : Cx g A p s m av meth c prog_13_method_46_code 6 "BellHammerModel" none)  {t0 : Int64} {σ : St} {H : Heap} {locs : List Loc} {ls : Array Slot} (hf : f_M_joins_205   t0 σ = some σ2) (w : Wd g (wM g q) A s σ H locs) (hl : lv_has ls 6 []) : WK p l e s m av below meth c 1 g (wM g q) A none σ2 H locs (F0 m 205 ls [.long t0, .ref (q 0)]) := by
  obtain ⟨hx, hb, hml, hown, hts, hK, hA, hZ, hlocks, hr, hN⟩ := id C
  unfold f_M_joins_205 at hf
  obtain ⟨σ_2, h_1, hf⟩ := bp_e hf
  refine k_callV (As := [.long t0]) (rest := []) C w (c_M_puts (q := q) h_1) cv_M_puts k1588 (mr_0 C w) (by decide) hl.1 rfl (Nat.le_of_ble_eq_true rfl) d_M_joins_205 (fun H locs w => ?_)
  show WK p l e s m av below meth c 1 g (wM g q) A none σ2 H locs (F0 m 208 ls [])
  refine lv_goto (tgt := 297) hx hb d_M_joins_208 (by decide) ?_
  cases some_e hf
  exact k_vret C w d_M_joins_297
set_option maxHeartbeats 4000000 in
set_option maxRecDepth 20000 in
theorem t_M_joins_185 {σ2 : St} (C : Cx g A p s m av meth c prog_13_method_46_code 6 "BellHammerModel" none)  {t0 : Int64} {σ : St} {H : Heap} {locs : List Loc} {ls : Array Slot} (hf : f_M_joins_185   t0 σ = some σ2) (w : Wd g (wM g q) A s σ H locs) (hl : lv_has ls 6 []) : WK p l e s m av below meth c 1 g (wM g q) A none σ2 H locs (F0 m 185 ls [.long t0, .ref (q 0)]) := by
  obtain ⟨hx, hb, hml, hown, hts, hK, hA, hZ, hlocks, hr, hN⟩ := id C
  unfold f_M_joins_185 at hf
  obtain ⟨σ_2, h_1, hf⟩ := bp_e hf
  refine k_callV (As := [.long t0]) (rest := []) C w (c_M_puts (q := q) h_1) cv_M_puts k1588 (mr_0 C w) (by decide) hl.1 rfl (Nat.le_of_ble_eq_true rfl) d_M_joins_185 (fun H locs w => ?_)
  show WK p l e s m av below meth c 1 g (wM g q) A none σ2 H locs (F0 m 188 ls [])
  refine lv_goto (tgt := 297) hx hb d_M_joins_188 (by decide) ?_
  cases some_e hf
  exact k_vret C w d_M_joins_297
set_option maxHeartbeats 4000000 in
set_option maxRecDepth 20000 in
theorem c_M_joins {l : Launch} {g : GX} {q : Nat → Nat} {x1 : Int32}  {σ : St} {σ2 : St} (hf : f_M_joins  x1 σ = some σ2) : KK l y_M_joins prog_13_method_46_code 6 none 1 g (wM g q) σ [.ref (q 0), .int x1] none (wM g q) σ2 := by
  refine KK_of (plainFor_of_name (by decide)) (Nat.le_of_ble_eq_true rfl) (fun p e s m below meth c A ls C w hl => ?_)
  have hl : lv_has ls 6 [(0, .ref (q 0)), (1, .int x1)] := hl
  obtain ⟨hx, hb, hml, hown, hts, hK, hA, hZ, hlocks, hr, hN⟩ := id C
  unfold f_M_joins at hf
  refine lv_aload_n hx hb d_M_joins_0 rfl (lv_at hl 0 rfl) ?_
  refine mg_0_pile C w k1146 d_M_joins_1 ?_
  refine lv_aload_n hx hb d_M_joins_4 rfl (lv_at hl 0 rfl) ?_
  refine mg_0_piled C w k1147 d_M_joins_5 ?_
  refine lv_iconst (v := 1) hx hb d_M_joins_8 (by decide) ?_
  refine lv_isub hx hb d_M_joins_9 ?_
  obtain ⟨g_1, hf⟩ := gd_e hf
  refine ml_39 C w g_1 d_M_joins_10 ?_
  refine lv_topl (fun x_2 ex_2 => ?_)
  have hf := lt_e ex_2 hf
  refine lv_lstore_n (lv' := [(2, .long x_2), (0, .ref (q 0)), (1, .int x1)]) hx hb d_M_joins_11 rfl hl (by decide) rfl (fun ls hl => ?_)
  refine lv_aload_n hx hb d_M_joins_12 rfl (lv_at hl 1 rfl) ?_
  refine mg_0_pile C w k1146 d_M_joins_13 ?_
  refine lv_aload_n hx hb d_M_joins_16 rfl (lv_at hl 1 rfl) ?_
  refine mg_0_piled C w k1147 d_M_joins_17 ?_
  refine lv_iconst (v := 2) hx hb d_M_joins_20 (by decide) ?_
  refine lv_isub hx hb d_M_joins_21 ?_
  obtain ⟨g_3, hf⟩ := gd_e hf
  refine ml_39 C w g_3 d_M_joins_22 ?_
  refine lv_topl (fun x_4 ex_4 => ?_)
  have hf := lt_e ex_4 hf
  refine lv_lstore (lv' := [(4, .long x_4), (2, .long x_2), (0, .ref (q 0)), (1, .int x1)]) hx hb d_M_joins_23 hl (by decide) rfl (fun ls hl => ?_)
  refine lv_aload_n hx hb d_M_joins_25 rfl (lv_at hl 2 rfl) ?_
  refine lv_dup hx hb d_M_joins_26 rfl ?_
  refine mg_0_piled C w k1147 d_M_joins_27 ?_
  refine lv_iconst (v := 2) hx hb d_M_joins_30 (by decide) ?_
  refine lv_isub hx hb d_M_joins_31 ?_
  refine mp_0_piled C w k1147 d_M_joins_32 (fun σ_5 H locs eσ_5 w => ?_)
  have hf := lt_e eσ_5 hf
  refine lv_iload_n hx hb d_M_joins_35 rfl (lv_at hl 3 rfl) ?_
  by_cases c1 : x1 = 1
  · have hf := it_e c1 hf
    refine lv_tableIn (tgt := 116) hx hb d_M_joins_36 (by rw [c1]; decide) (by rw [c1]; decide) (by rw [c1]; rfl) (by decide) ?_
    refine lv_aload_n hx hb d_M_joins_116 rfl (lv_at hl 2 rfl) ?_
    refine lv_lload hx hb d_M_joins_117 (lv_at hl 0 rfl) ?_
    refine lv_lload_n hx hb d_M_joins_119 rfl (lv_at hl 1 rfl) ?_
    refine lv_ladd hx hb d_M_joins_120 ?_
    obtain ⟨r_7, h_6, hf⟩ := bp_e hf
    refine k_callS (As := [.long (x_4 + x_2)]) (rest := [.ref (q 0)]) C w (c_M_clip (q := q) h_6) cv_M_clip k1598 (by decide) hl.1 rfl (Nat.le_of_ble_eq_true rfl) d_M_joins_121 (fun H locs w => ?_)
    show WK p l e s m _ below meth c 1 g (wM g q) A none σ2 H locs (F0 m 124 ls [.long r_7, .ref (q 0)])
    obtain ⟨σ_9, h_8, hf⟩ := bp_e hf
    refine k_callV (As := [.long r_7]) (rest := []) C w (c_M_puts (q := q) h_8) cv_M_puts k1588 (mr_0 C w) (by decide) hl.1 rfl (Nat.le_of_ble_eq_true rfl) d_M_joins_124 (fun H locs w => ?_)
    show WK p l e s m _ below meth c 1 g (wM g q) A none σ2 H locs (F0 m 127 ls [])
    refine lv_goto (tgt := 297) hx hb d_M_joins_127 (by decide) ?_
    cases some_e hf
    exact k_vret C w d_M_joins_297
  have hf := if_e c1 hf
  have n1 := lv_neT c1 (a := 1) rfl
  by_cases c2 : x1 = 2
  · have hf := it_e c2 hf
    refine lv_tableIn (tgt := 130) hx hb d_M_joins_36 (by rw [c2]; decide) (by rw [c2]; decide) (by rw [c2]; rfl) (by decide) ?_
    refine lv_aload_n hx hb d_M_joins_130 rfl (lv_at hl 2 rfl) ?_
    refine lv_lload hx hb d_M_joins_131 (lv_at hl 0 rfl) ?_
    refine lv_lload_n hx hb d_M_joins_133 rfl (lv_at hl 1 rfl) ?_
    refine lv_lsub hx hb d_M_joins_134 ?_
    obtain ⟨r_11, h_10, hf⟩ := bp_e hf
    refine k_callS (As := [.long (x_4 - x_2)]) (rest := [.ref (q 0)]) C w (c_M_clip (q := q) h_10) cv_M_clip k1598 (by decide) hl.1 rfl (Nat.le_of_ble_eq_true rfl) d_M_joins_135 (fun H locs w => ?_)
    show WK p l e s m _ below meth c 1 g (wM g q) A none σ2 H locs (F0 m 138 ls [.long r_11, .ref (q 0)])
    obtain ⟨σ_13, h_12, hf⟩ := bp_e hf
    refine k_callV (As := [.long r_11]) (rest := []) C w (c_M_puts (q := q) h_12) cv_M_puts k1588 (mr_0 C w) (by decide) hl.1 rfl (Nat.le_of_ble_eq_true rfl) d_M_joins_138 (fun H locs w => ?_)
    show WK p l e s m _ below meth c 1 g (wM g q) A none σ2 H locs (F0 m 141 ls [])
    refine lv_goto (tgt := 297) hx hb d_M_joins_141 (by decide) ?_
    cases some_e hf
    exact k_vret C w d_M_joins_297
  have hf := if_e c2 hf
  have n2 := lv_neT c2 (a := 2) rfl
  by_cases c3 : x1 = 3
  · have hf := it_e c3 hf
    refine lv_tableIn (tgt := 144) hx hb d_M_joins_36 (by rw [c3]; decide) (by rw [c3]; decide) (by rw [c3]; rfl) (by decide) ?_
    refine lv_aload_n hx hb d_M_joins_144 rfl (lv_at hl 2 rfl) ?_
    refine lv_lload hx hb d_M_joins_145 (lv_at hl 0 rfl) ?_
    refine lv_lload_n hx hb d_M_joins_147 rfl (lv_at hl 1 rfl) ?_
    refine lv_lmul hx hb d_M_joins_148 ?_
    obtain ⟨r_15, h_14, hf⟩ := bp_e hf
    refine k_callS (As := [.long (x_4 * x_2)]) (rest := [.ref (q 0)]) C w (c_M_clip (q := q) h_14) cv_M_clip k1598 (by decide) hl.1 rfl (Nat.le_of_ble_eq_true rfl) d_M_joins_149 (fun H locs w => ?_)
    show WK p l e s m _ below meth c 1 g (wM g q) A none σ2 H locs (F0 m 152 ls [.long r_15, .ref (q 0)])
    obtain ⟨σ_17, h_16, hf⟩ := bp_e hf
    refine k_callV (As := [.long r_15]) (rest := []) C w (c_M_puts (q := q) h_16) cv_M_puts k1588 (mr_0 C w) (by decide) hl.1 rfl (Nat.le_of_ble_eq_true rfl) d_M_joins_152 (fun H locs w => ?_)
    show WK p l e s m _ below meth c 1 g (wM g q) A none σ2 H locs (F0 m 155 ls [])
    refine lv_goto (tgt := 297) hx hb d_M_joins_155 (by decide) ?_
    cases some_e hf
    exact k_vret C w d_M_joins_297
  have hf := if_e c3 hf
  have n3 := lv_neT c3 (a := 3) rfl
  by_cases c4 : x1 = 4
  · have hf := it_e c4 hf
    refine lv_tableIn (tgt := 158) hx hb d_M_joins_36 (by rw [c4]; decide) (by rw [c4]; decide) (by rw [c4]; rfl) (by decide) ?_
    refine lv_aload_n hx hb d_M_joins_158 rfl (lv_at hl 2 rfl) ?_
    refine lv_lload hx hb d_M_joins_159 (lv_at hl 0 rfl) ?_
    refine lv_lload_n hx hb d_M_joins_161 rfl (lv_at hl 1 rfl) ?_
    obtain ⟨r_19, h_18, hf⟩ := bp_e hf
    refine k_callS (As := [.long x_4, .long x_2]) (rest := [.ref (q 0)]) C w (c_M_floor (q := q) h_18) cv_M_floor k1603 (by decide) hl.1 rfl (Nat.le_of_ble_eq_true rfl) d_M_joins_162 (fun H locs w => ?_)
    show WK p l e s m _ below meth c 1 g (wM g q) A none σ2 H locs (F0 m 165 ls [.long r_19, .ref (q 0)])
    obtain ⟨σ_21, h_20, hf⟩ := bp_e hf
    refine k_callV (As := [.long r_19]) (rest := []) C w (c_M_puts (q := q) h_20) cv_M_puts k1588 (mr_0 C w) (by decide) hl.1 rfl (Nat.le_of_ble_eq_true rfl) d_M_joins_165 (fun H locs w => ?_)
    show WK p l e s m _ below meth c 1 g (wM g q) A none σ2 H locs (F0 m 168 ls [])
    refine lv_goto (tgt := 297) hx hb d_M_joins_168 (by decide) ?_
    cases some_e hf
    exact k_vret C w d_M_joins_297
  have hf := if_e c4 hf
  have n4 := lv_neT c4 (a := 4) rfl
  by_cases c5 : x1 = 5
  · have hf := it_e c5 hf
    refine lv_tableIn (tgt := 171) hx hb d_M_joins_36 (by rw [c5]; decide) (by rw [c5]; decide) (by rw [c5]; rfl) (by decide) ?_
    refine lv_aload_n hx hb d_M_joins_171 rfl (lv_at hl 2 rfl) ?_
    refine lv_lload hx hb d_M_joins_172 (lv_at hl 0 rfl) ?_
    refine lv_lload_n hx hb d_M_joins_174 rfl (lv_at hl 1 rfl) ?_
    refine W.lcmp hx hb d_M_joins_175 ?_
    refine lv_if_ge (tgt := 184) hx hb d_M_joins_176 (by decide) (fun cd => ?_) (fun cd => ?_)
    · have hf := it_e cd hf
      refine lv_lload_n hx hb d_M_joins_184 rfl (lv_at hl 1 rfl) ?_
      exact t_M_joins_185 C  hf w (lv_sub hl [] rfl)
    · have hf := if_e cd hf
      refine lv_lload hx hb d_M_joins_179 (lv_at hl 0 rfl) ?_
      refine lv_goto (tgt := 185) hx hb d_M_joins_181 (by decide) ?_
      exact t_M_joins_185 C  hf w (lv_sub hl [] rfl)
  have hf := if_e c5 hf
  have n5 := lv_neT c5 (a := 5) rfl
  by_cases c6 : x1 = 6
  · have hf := it_e c6 hf
    refine lv_tableIn (tgt := 191) hx hb d_M_joins_36 (by rw [c6]; decide) (by rw [c6]; decide) (by rw [c6]; rfl) (by decide) ?_
    refine lv_aload_n hx hb d_M_joins_191 rfl (lv_at hl 2 rfl) ?_
    refine lv_lload hx hb d_M_joins_192 (lv_at hl 0 rfl) ?_
    refine lv_lload_n hx hb d_M_joins_194 rfl (lv_at hl 1 rfl) ?_
    refine W.lcmp hx hb d_M_joins_195 ?_
    refine lv_if_le (tgt := 204) hx hb d_M_joins_196 (by decide) (fun cd => ?_) (fun cd => ?_)
    · have hf := it_e cd hf
      refine lv_lload_n hx hb d_M_joins_204 rfl (lv_at hl 1 rfl) ?_
      exact t_M_joins_205 C  hf w (lv_sub hl [] rfl)
    · have hf := if_e cd hf
      refine lv_lload hx hb d_M_joins_199 (lv_at hl 0 rfl) ?_
      refine lv_goto (tgt := 205) hx hb d_M_joins_201 (by decide) ?_
      exact t_M_joins_205 C  hf w (lv_sub hl [] rfl)
  have hf := if_e c6 hf
  have n6 := lv_neT c6 (a := 6) rfl
  by_cases c13 : x1 = 13
  · have hf := it_e c13 hf
    refine lv_tableIn (tgt := 211) hx hb d_M_joins_36 (by rw [c13]; decide) (by rw [c13]; decide) (by rw [c13]; rfl) (by decide) ?_
    refine lv_aload_n hx hb d_M_joins_211 rfl (lv_at hl 2 rfl) ?_
    refine lv_lload hx hb d_M_joins_212 (lv_at hl 0 rfl) ?_
    refine lv_lload_n hx hb d_M_joins_214 rfl (lv_at hl 1 rfl) ?_
    refine W.lcmp hx hb d_M_joins_215 ?_
    refine lv_if_ge (tgt := 223) hx hb d_M_joins_216 (by decide) (fun cd => ?_) (fun cd => ?_)
    · have hf := it_e cd hf
      refine lv_lconst (v := 0) hx hb d_M_joins_223 (by decide) ?_
      exact t_M_joins_224 C  hf w (lv_sub hl [] rfl)
    · have hf := if_e cd hf
      refine lv_lconst (v := 1) hx hb d_M_joins_219 (by decide) ?_
      refine lv_goto (tgt := 224) hx hb d_M_joins_220 (by decide) ?_
      exact t_M_joins_224 C  hf w (lv_sub hl [] rfl)
  have hf := if_e c13 hf
  have n13 := lv_neT c13 (a := 13) rfl
  by_cases c14 : x1 = 14
  · have hf := it_e c14 hf
    refine lv_tableIn (tgt := 230) hx hb d_M_joins_36 (by rw [c14]; decide) (by rw [c14]; decide) (by rw [c14]; rfl) (by decide) ?_
    refine lv_aload_n hx hb d_M_joins_230 rfl (lv_at hl 2 rfl) ?_
    refine lv_lload hx hb d_M_joins_231 (lv_at hl 0 rfl) ?_
    refine lv_lload_n hx hb d_M_joins_233 rfl (lv_at hl 1 rfl) ?_
    refine W.lcmp hx hb d_M_joins_234 ?_
    refine lv_if_le (tgt := 242) hx hb d_M_joins_235 (by decide) (fun cd => ?_) (fun cd => ?_)
    · have hf := it_e cd hf
      refine lv_lconst (v := 0) hx hb d_M_joins_242 (by decide) ?_
      exact t_M_joins_243 C  hf w (lv_sub hl [] rfl)
    · have hf := if_e cd hf
      refine lv_lconst (v := 1) hx hb d_M_joins_238 (by decide) ?_
      refine lv_goto (tgt := 243) hx hb d_M_joins_239 (by decide) ?_
      exact t_M_joins_243 C  hf w (lv_sub hl [] rfl)
  have hf := if_e c14 hf
  have n14 := lv_neT c14 (a := 14) rfl
  by_cases c15 : x1 = 15
  · have hf := it_e c15 hf
    refine lv_tableIn (tgt := 249) hx hb d_M_joins_36 (by rw [c15]; decide) (by rw [c15]; decide) (by rw [c15]; rfl) (by decide) ?_
    refine lv_aload_n hx hb d_M_joins_249 rfl (lv_at hl 2 rfl) ?_
    refine lv_lload hx hb d_M_joins_250 (lv_at hl 0 rfl) ?_
    refine lv_lload_n hx hb d_M_joins_252 rfl (lv_at hl 1 rfl) ?_
    refine W.lcmp hx hb d_M_joins_253 ?_
    refine lv_if_ne (tgt := 261) hx hb d_M_joins_254 (by decide) (fun cd => ?_) (fun cd => ?_)
    · have hf := if_e cd hf
      refine lv_lconst (v := 0) hx hb d_M_joins_261 (by decide) ?_
      exact t_M_joins_262 C  hf w (lv_sub hl [] rfl)
    · have hf := it_e cd hf
      refine lv_lconst (v := 1) hx hb d_M_joins_257 (by decide) ?_
      refine lv_goto (tgt := 262) hx hb d_M_joins_258 (by decide) ?_
      exact t_M_joins_262 C  hf w (lv_sub hl [] rfl)
  have hf := if_e c15 hf
  have n15 := lv_neT c15 (a := 15) rfl
  by_cases c16 : x1 = 16
  · have hf := it_e c16 hf
    refine lv_tableIn (tgt := 268) hx hb d_M_joins_36 (by rw [c16]; decide) (by rw [c16]; decide) (by rw [c16]; rfl) (by decide) ?_
    refine lv_aload_n hx hb d_M_joins_268 rfl (lv_at hl 2 rfl) ?_
    refine lv_lload hx hb d_M_joins_269 (lv_at hl 0 rfl) ?_
    refine lv_lload_n hx hb d_M_joins_271 rfl (lv_at hl 1 rfl) ?_
    refine lv_lmul hx hb d_M_joins_272 ?_
    obtain ⟨σ_23, h_22, hf⟩ := bp_e hf
    refine k_callV (As := [.long (x_4 * x_2)]) (rest := []) C w (c_M_puts (q := q) h_22) cv_M_puts k1588 (mr_0 C w) (by decide) hl.1 rfl (Nat.le_of_ble_eq_true rfl) d_M_joins_273 (fun H locs w => ?_)
    show WK p l e s m _ below meth c 1 g (wM g q) A none σ2 H locs (F0 m 276 ls [])
    refine lv_goto (tgt := 297) hx hb d_M_joins_276 (by decide) ?_
    cases some_e hf
    exact k_vret C w d_M_joins_297
  have hf := if_e c16 hf
  have n16 := lv_neT c16 (a := 16) rfl
  by_cases c7 : x1 = 7
  · refine lv_tableIn (tgt := 279) hx hb d_M_joins_36 (by rw [c7]; decide) (by rw [c7]; decide) (by rw [c7]; rfl) (by decide) ?_
    refine lv_aload_n hx hb d_M_joins_279 rfl (lv_at hl 2 rfl) ?_
    refine lv_lload hx hb d_M_joins_280 (lv_at hl 0 rfl) ?_
    refine lv_lload_n hx hb d_M_joins_282 rfl (lv_at hl 1 rfl) ?_
    refine lv_ladd hx hb d_M_joins_283 ?_
    refine lv_lconst (v := 0) hx hb d_M_joins_284 (by decide) ?_
    refine W.lcmp hx hb d_M_joins_285 ?_
    refine lv_if_le (tgt := 293) hx hb d_M_joins_286 (by decide) (fun cd => ?_) (fun cd => ?_)
    · have hf := it_e cd hf
      refine lv_lconst (v := 0) hx hb d_M_joins_293 (by decide) ?_
      exact t_M_joins_294 C  hf w (lv_sub hl [] rfl)
    · have hf := if_e cd hf
      refine lv_lconst (v := 1) hx hb d_M_joins_289 (by decide) ?_
      refine lv_goto (tgt := 294) hx hb d_M_joins_290 (by decide) ?_
      exact t_M_joins_294 C  hf w (lv_sub hl [] rfl)
  have n7 := lv_neT c7 (a := 7) rfl
  by_cases c8 : x1 = 8
  · refine lv_tableIn (tgt := 279) hx hb d_M_joins_36 (by rw [c8]; decide) (by rw [c8]; decide) (by rw [c8]; rfl) (by decide) ?_
    refine lv_aload_n hx hb d_M_joins_279 rfl (lv_at hl 2 rfl) ?_
    refine lv_lload hx hb d_M_joins_280 (lv_at hl 0 rfl) ?_
    refine lv_lload_n hx hb d_M_joins_282 rfl (lv_at hl 1 rfl) ?_
    refine lv_ladd hx hb d_M_joins_283 ?_
    refine lv_lconst (v := 0) hx hb d_M_joins_284 (by decide) ?_
    refine W.lcmp hx hb d_M_joins_285 ?_
    refine lv_if_le (tgt := 293) hx hb d_M_joins_286 (by decide) (fun cd => ?_) (fun cd => ?_)
    · have hf := it_e cd hf
      refine lv_lconst (v := 0) hx hb d_M_joins_293 (by decide) ?_
      exact t_M_joins_294 C  hf w (lv_sub hl [] rfl)
    · have hf := if_e cd hf
      refine lv_lconst (v := 1) hx hb d_M_joins_289 (by decide) ?_
      refine lv_goto (tgt := 294) hx hb d_M_joins_290 (by decide) ?_
      exact t_M_joins_294 C  hf w (lv_sub hl [] rfl)
  have n8 := lv_neT c8 (a := 8) rfl
  by_cases c9 : x1 = 9
  · refine lv_tableIn (tgt := 279) hx hb d_M_joins_36 (by rw [c9]; decide) (by rw [c9]; decide) (by rw [c9]; rfl) (by decide) ?_
    refine lv_aload_n hx hb d_M_joins_279 rfl (lv_at hl 2 rfl) ?_
    refine lv_lload hx hb d_M_joins_280 (lv_at hl 0 rfl) ?_
    refine lv_lload_n hx hb d_M_joins_282 rfl (lv_at hl 1 rfl) ?_
    refine lv_ladd hx hb d_M_joins_283 ?_
    refine lv_lconst (v := 0) hx hb d_M_joins_284 (by decide) ?_
    refine W.lcmp hx hb d_M_joins_285 ?_
    refine lv_if_le (tgt := 293) hx hb d_M_joins_286 (by decide) (fun cd => ?_) (fun cd => ?_)
    · have hf := it_e cd hf
      refine lv_lconst (v := 0) hx hb d_M_joins_293 (by decide) ?_
      exact t_M_joins_294 C  hf w (lv_sub hl [] rfl)
    · have hf := if_e cd hf
      refine lv_lconst (v := 1) hx hb d_M_joins_289 (by decide) ?_
      refine lv_goto (tgt := 294) hx hb d_M_joins_290 (by decide) ?_
      exact t_M_joins_294 C  hf w (lv_sub hl [] rfl)
  have n9 := lv_neT c9 (a := 9) rfl
  by_cases c10 : x1 = 10
  · refine lv_tableIn (tgt := 279) hx hb d_M_joins_36 (by rw [c10]; decide) (by rw [c10]; decide) (by rw [c10]; rfl) (by decide) ?_
    refine lv_aload_n hx hb d_M_joins_279 rfl (lv_at hl 2 rfl) ?_
    refine lv_lload hx hb d_M_joins_280 (lv_at hl 0 rfl) ?_
    refine lv_lload_n hx hb d_M_joins_282 rfl (lv_at hl 1 rfl) ?_
    refine lv_ladd hx hb d_M_joins_283 ?_
    refine lv_lconst (v := 0) hx hb d_M_joins_284 (by decide) ?_
    refine W.lcmp hx hb d_M_joins_285 ?_
    refine lv_if_le (tgt := 293) hx hb d_M_joins_286 (by decide) (fun cd => ?_) (fun cd => ?_)
    · have hf := it_e cd hf
      refine lv_lconst (v := 0) hx hb d_M_joins_293 (by decide) ?_
      exact t_M_joins_294 C  hf w (lv_sub hl [] rfl)
    · have hf := if_e cd hf
      refine lv_lconst (v := 1) hx hb d_M_joins_289 (by decide) ?_
      refine lv_goto (tgt := 294) hx hb d_M_joins_290 (by decide) ?_
      exact t_M_joins_294 C  hf w (lv_sub hl [] rfl)
  have n10 := lv_neT c10 (a := 10) rfl
  by_cases c11 : x1 = 11
  · refine lv_tableIn (tgt := 279) hx hb d_M_joins_36 (by rw [c11]; decide) (by rw [c11]; decide) (by rw [c11]; rfl) (by decide) ?_
    refine lv_aload_n hx hb d_M_joins_279 rfl (lv_at hl 2 rfl) ?_
    refine lv_lload hx hb d_M_joins_280 (lv_at hl 0 rfl) ?_
    refine lv_lload_n hx hb d_M_joins_282 rfl (lv_at hl 1 rfl) ?_
    refine lv_ladd hx hb d_M_joins_283 ?_
    refine lv_lconst (v := 0) hx hb d_M_joins_284 (by decide) ?_
    refine W.lcmp hx hb d_M_joins_285 ?_
    refine lv_if_le (tgt := 293) hx hb d_M_joins_286 (by decide) (fun cd => ?_) (fun cd => ?_)
    · have hf := it_e cd hf
      refine lv_lconst (v := 0) hx hb d_M_joins_293 (by decide) ?_
      exact t_M_joins_294 C  hf w (lv_sub hl [] rfl)
    · have hf := if_e cd hf
      refine lv_lconst (v := 1) hx hb d_M_joins_289 (by decide) ?_
      refine lv_goto (tgt := 294) hx hb d_M_joins_290 (by decide) ?_
      exact t_M_joins_294 C  hf w (lv_sub hl [] rfl)
  have n11 := lv_neT c11 (a := 11) rfl
  by_cases c12 : x1 = 12
  · refine lv_tableIn (tgt := 279) hx hb d_M_joins_36 (by rw [c12]; decide) (by rw [c12]; decide) (by rw [c12]; rfl) (by decide) ?_
    refine lv_aload_n hx hb d_M_joins_279 rfl (lv_at hl 2 rfl) ?_
    refine lv_lload hx hb d_M_joins_280 (lv_at hl 0 rfl) ?_
    refine lv_lload_n hx hb d_M_joins_282 rfl (lv_at hl 1 rfl) ?_
    refine lv_ladd hx hb d_M_joins_283 ?_
    refine lv_lconst (v := 0) hx hb d_M_joins_284 (by decide) ?_
    refine W.lcmp hx hb d_M_joins_285 ?_
    refine lv_if_le (tgt := 293) hx hb d_M_joins_286 (by decide) (fun cd => ?_) (fun cd => ?_)
    · have hf := it_e cd hf
      refine lv_lconst (v := 0) hx hb d_M_joins_293 (by decide) ?_
      exact t_M_joins_294 C  hf w (lv_sub hl [] rfl)
    · have hf := if_e cd hf
      refine lv_lconst (v := 1) hx hb d_M_joins_289 (by decide) ?_
      refine lv_goto (tgt := 294) hx hb d_M_joins_290 (by decide) ?_
      exact t_M_joins_294 C  hf w (lv_sub hl [] rfl)
  have n12 := lv_neT c12 (a := 12) rfl
  refine lv_tableOut (tgt := 279) hx hb d_M_joins_36 (by omega) (by decide) ?_
  refine lv_aload_n hx hb d_M_joins_279 rfl (lv_at hl 2 rfl) ?_
  refine lv_lload hx hb d_M_joins_280 (lv_at hl 0 rfl) ?_
  refine lv_lload_n hx hb d_M_joins_282 rfl (lv_at hl 1 rfl) ?_
  refine lv_ladd hx hb d_M_joins_283 ?_
  refine lv_lconst (v := 0) hx hb d_M_joins_284 (by decide) ?_
  refine W.lcmp hx hb d_M_joins_285 ?_
  refine lv_if_le (tgt := 293) hx hb d_M_joins_286 (by decide) (fun cd => ?_) (fun cd => ?_)
  · have hf := it_e cd hf
    refine lv_lconst (v := 0) hx hb d_M_joins_293 (by decide) ?_
    exact t_M_joins_294 C  hf w (lv_sub hl [] rfl)
  · have hf := if_e cd hf
    refine lv_lconst (v := 1) hx hb d_M_joins_289 (by decide) ?_
    refine lv_goto (tgt := 294) hx hb d_M_joins_290 (by decide) ?_
    exact t_M_joins_294 C  hf w (lv_sub hl [] rfl)
def f_M_holds_15b (k15 : Int32 → Int32 → St → Option (Int32 × St)) (x1 : Int32) (x2 : Int32) (σ : St) : Option (Int32 × St) :=
  gd (inB (6 + x1) 12) <|
  if (sA σ 9 (6 + x1).toNatClampNeg) ≤ x2 then
    if (lg_cmp (sB σ 1 (0 : Int32).toNatClampNeg) 1) = 0 then
      some (1, σ)
    else
      some (0, σ)
  else
    gd (inB (1600 + x2) 3200) <|
    lt ((sA σ 6 (1600 + x2).toNatClampNeg)) fun x_3 =>
    if x_3 < 1000 then
      if x_3 = 19 then
        bp (f_M_puts 1 σ) fun σ_18 =>
        lt ((x2 + 1)) fun x_19 =>
        k15 x1 x_19 σ_18
      else
        if x_3 = 18 then
          gd (inB ((sI σ 14) - 1) 1700) <|
          gd (inB ((sI σ 14) - 1) 1700) <|
          lt (uB σ 1 (vp_updL (sB σ 1) ((sI σ 14) - 1).toNatClampNeg (1 - (sB σ 1 ((sI σ 14) - 1).toNatClampNeg)))) fun σ_15 =>
          lt ((x2 + 1)) fun x_16 =>
          k15 x1 x_16 σ_15
        else
          bp (f_M_isIn ((x_3).toInt64) 7 12 σ) fun r_5 =>
          if r_5 = 0 then
            bp (f_M_joins x_3 σ) fun σ_7 =>
            lt ((x2 + 1)) fun x_8 =>
            k15 x1 x_8 σ_7
          else
            gd (inB (x_3 - 7) 6) <|
            bp (f_M_puts (((sA σ 10 (x_3 - 7).toNatClampNeg)).toInt64) σ) fun σ_11 =>
            lt ((x2 + 1)) fun x_12 =>
            k15 x1 x_12 σ_11
    else
      bp (f_M_puts (((x_3 - 1000)).toInt64) σ) fun σ_21 =>
      lt ((x2 + 1)) fun x_22 =>
      k15 x1 x_22 σ_21
def f_M_holds_15 : Nat → Int32 → Int32 → St → Option (Int32 × St)
  | 0 => fun _ _ _ => none
  | n + 1 => f_M_holds_15b   (f_M_holds_15   n)
def f_M_holds (x1 : Int32) (σ : St) : Option (Int32 × St) :=
  lt (uI σ 14 0) fun σ_1 =>
  gd (inB (6 + x1) 12) <|
  lt ((sA σ_1 8 (6 + x1).toNatClampNeg)) fun x_3 =>
  f_M_holds_15 FU x1 x_3 σ_1
set_option maxHeartbeats 4000000 in
set_option maxRecDepth 20000 in
theorem t_M_holds_15b {r : Int32} {σ2 : St} (C : Cx g A p s m av meth c prog_13_method_47_code 4 "BellHammerModel" (some .boolean)) {k15 : Int32 → Int32 → St → Option (Int32 × St)} (hk15 : ∀ (x1 : Int32) (x2 : Int32) (σ : St) (H : Heap) (locs : List Loc) (ls : Array Slot), k15 x1 x2 σ = some (r, σ2) → Wd g (wM g q) A s σ H locs → lv_has ls 4 [(0, .ref (q 0)), (1, .int x1), (2, .int x2)] → WK p l e s m av below meth c 2 g (wM g q) A (some (.int r)) σ2 H locs (F0 m 15 ls []))  {x1 : Int32} {x2 : Int32} {σ : St} {H : Heap} {locs : List Loc} {ls : Array Slot} (hf : f_M_holds_15b  k15 x1 x2 σ = some (r, σ2)) (w : Wd g (wM g q) A s σ H locs) (hl : lv_has ls 4 [(0, .ref (q 0)), (1, .int x1), (2, .int x2)]) : WK p l e s m av below meth c 2 g (wM g q) A (some (.int r)) σ2 H locs (F0 m 15 ls []) := by
  obtain ⟨hx, hb, hml, hown, hts, hK, hA, hZ, hlocks, hr, hN⟩ := id C
  unfold f_M_holds_15b at hf
  refine lv_iload_n hx hb d_M_holds_15 rfl (lv_at hl 2 rfl) ?_
  refine lv_aload_n hx hb d_M_holds_16 rfl (lv_at hl 0 rfl) ?_
  refine mg_0_testEnd C w k1144 d_M_holds_17 ?_
  refine lv_bipush (v := 6) hx hb d_M_holds_20 (by decide) ?_
  refine lv_iload_n hx hb d_M_holds_22 rfl (lv_at hl 1 rfl) ?_
  refine lv_iadd hx hb d_M_holds_23 ?_
  obtain ⟨g_1, hf⟩ := gd_e hf
  refine ml_38 C w g_1 d_M_holds_24 ?_
  refine lv_icmp_ge (tgt := 148) hx hb d_M_holds_25 (by decide) (fun cd => ?_) (fun cd => ?_)
  · have hf := it_e cd hf
    refine lv_aload_n hx hb d_M_holds_148 rfl (lv_at hl 0 rfl) ?_
    refine mg_0_pile C w k1146 d_M_holds_149 ?_
    refine lv_iconst (v := 0) hx hb d_M_holds_152 (by decide) ?_
    refine ml_39 C w (by decide) d_M_holds_153 ?_
    refine lv_lconst (v := 1) hx hb d_M_holds_154 (by decide) ?_
    refine W.lcmp hx hb d_M_holds_155 ?_
    refine lv_if_ne (tgt := 163) hx hb d_M_holds_156 (by decide) (fun cd => ?_) (fun cd => ?_)
    · have hf := if_e cd hf
      refine lv_iconst (v := 0) hx hb d_M_holds_163 (by decide) ?_
      obtain ⟨rfl, rfl⟩ := some2_e hf
      exact k_zret C w (by decide) d_M_holds_164
    · have hf := it_e cd hf
      refine lv_iconst (v := 1) hx hb d_M_holds_159 (by decide) ?_
      refine lv_goto (tgt := 164) hx hb d_M_holds_160 (by decide) ?_
      obtain ⟨rfl, rfl⟩ := some2_e hf
      exact k_zret C w (by decide) d_M_holds_164
  · have hf := if_e cd hf
    refine lv_aload_n hx hb d_M_holds_28 rfl (lv_at hl 0 rfl) ?_
    refine mg_0_codes C w k1138 d_M_holds_29 ?_
    refine lv_sipush (v := 1600) hx hb d_M_holds_32 (by decide) ?_
    refine lv_iload_n hx hb d_M_holds_35 rfl (lv_at hl 2 rfl) ?_
    refine lv_iadd hx hb d_M_holds_36 ?_
    obtain ⟨g_2, hf⟩ := gd_e hf
    refine ml_35 C w g_2 d_M_holds_37 ?_
    refine lv_topi (fun x_3 ex_3 => ?_)
    have hf := lt_e ex_3 hf
    refine lv_istore_n (lv' := [(3, .int x_3), (0, .ref (q 0)), (1, .int x1), (2, .int x2)]) hx hb d_M_holds_38 rfl hl (by decide) rfl (fun ls hl => ?_)
    refine lv_iload_n hx hb d_M_holds_39 rfl (lv_at hl 0 rfl) ?_
    refine lv_sipush (v := 1000) hx hb d_M_holds_40 (by decide) ?_
    refine lv_icmp_lt (tgt := 59) hx hb d_M_holds_43 (by decide) (fun cd => ?_) (fun cd => ?_)
    · have hf := it_e cd hf
      refine lv_iload_n hx hb d_M_holds_59 rfl (lv_at hl 0 rfl) ?_
      refine lv_bipush (v := 19) hx hb d_M_holds_60 (by decide) ?_
      refine lv_icmp_ne (tgt := 73) hx hb d_M_holds_62 (by decide) (fun cd => ?_) (fun cd => ?_)
      · have hf := if_e cd hf
        refine lv_iload_n hx hb d_M_holds_73 rfl (lv_at hl 0 rfl) ?_
        refine lv_bipush (v := 18) hx hb d_M_holds_74 (by decide) ?_
        refine lv_icmp_ne (tgt := 106) hx hb d_M_holds_76 (by decide) (fun cd => ?_) (fun cd => ?_)
        · have hf := if_e cd hf
          refine lv_iload_n hx hb d_M_holds_106 rfl (lv_at hl 0 rfl) ?_
          refine lv_i2l hx hb d_M_holds_107 rfl ?_
          refine lv_ldc2 (v := 7) hx hb hown (hts _ k1592) d_M_holds_108 ?_
          refine lv_ldc2 (v := 12) hx hb hown (hts _ k1593) d_M_holds_111 ?_
          obtain ⟨r_5, h_4, hf⟩ := bp_e hf
          refine k_callS (As := [.long (x_3).toInt64, .long 7, .long 12]) (rest := []) C w (c_M_isIn (q := q) h_4) cv_M_isIn k1410 (by decide) hl.1 rfl (Nat.le_of_ble_eq_true rfl) d_M_holds_114 (fun H locs w => ?_)
          show WK p l e s m av below meth c 2 g (wM g q) A (some (.int r)) σ2 H locs (F0 m 117 ls [.int r_5])
          refine lv_if_eq (tgt := 137) hx hb d_M_holds_117 (by decide) (fun cd => ?_) (fun cd => ?_)
          · have hf := it_e cd hf
            refine lv_aload_n hx hb d_M_holds_137 rfl (lv_at hl 1 rfl) ?_
            refine lv_iload_n hx hb d_M_holds_138 rfl (lv_at hl 0 rfl) ?_
            obtain ⟨σ_7, h_6, hf⟩ := bp_e hf
            refine k_callV (As := [.int x_3]) (rest := []) C w (c_M_joins (q := q) h_6) cv_M_joins k1594 (mr_0 C w) (by decide) hl.1 rfl (Nat.le_of_ble_eq_true rfl) d_M_holds_139 (fun H locs w => ?_)
            show WK p l e s m av below meth c 2 g (wM g q) A (some (.int r)) σ2 H locs (F0 m 142 ls [])
            obtain ⟨x_8, ex_8⟩ : ∃ y : Int32, y = (x2 + 1) := ⟨_, rfl⟩
            have hf := lt_e ex_8 hf
            refine lv_iinc (v := x_8) (lv' := [(2, .int x_8), (3, .int x_3), (0, .ref (q 0)), (1, .int x1)]) hx hb d_M_holds_142 hl (k := 3) rfl (by rw [ex_8]; rfl) (by decide) rfl (fun ls hl => ?_)
            refine lv_goto (tgt := 15) hx hb d_M_holds_145 (by decide) ?_
            exact hk15 x1 x_8 σ_7 _ _ _ hf w (lv_sub hl [2, 3, 0] rfl)
          · have hf := if_e cd hf
            refine lv_aload_n hx hb d_M_holds_120 rfl (lv_at hl 1 rfl) ?_
            refine lv_aload_n hx hb d_M_holds_121 rfl (lv_at hl 1 rfl) ?_
            refine mg_0_ask C w k1148 d_M_holds_122 ?_
            refine lv_iload_n hx hb d_M_holds_125 rfl (lv_at hl 0 rfl) ?_
            refine lv_bipush (v := 7) hx hb d_M_holds_126 (by decide) ?_
            refine lv_isub hx hb d_M_holds_128 ?_
            obtain ⟨g_9, hf⟩ := gd_e hf
            refine ml_40 C w g_9 d_M_holds_129 ?_
            refine lv_i2l hx hb d_M_holds_130 rfl ?_
            obtain ⟨σ_11, h_10, hf⟩ := bp_e hf
            refine k_callV (As := [.long ((sA σ 10 (x_3 - 7).toNatClampNeg)).toInt64]) (rest := []) C w (c_M_puts (q := q) h_10) cv_M_puts k1588 (mr_0 C w) (by decide) hl.1 rfl (Nat.le_of_ble_eq_true rfl) d_M_holds_131 (fun H locs w => ?_)
            show WK p l e s m av below meth c 2 g (wM g q) A (some (.int r)) σ2 H locs (F0 m 134 ls [])
            refine lv_goto (tgt := 142) hx hb d_M_holds_134 (by decide) ?_
            obtain ⟨x_12, ex_12⟩ : ∃ y : Int32, y = (x2 + 1) := ⟨_, rfl⟩
            have hf := lt_e ex_12 hf
            refine lv_iinc (v := x_12) (lv' := [(2, .int x_12), (3, .int x_3), (0, .ref (q 0)), (1, .int x1)]) hx hb d_M_holds_142 hl (k := 3) rfl (by rw [ex_12]; rfl) (by decide) rfl (fun ls hl => ?_)
            refine lv_goto (tgt := 15) hx hb d_M_holds_145 (by decide) ?_
            exact hk15 x1 x_12 σ_11 _ _ _ hf w (lv_sub hl [2, 3, 0] rfl)
        · have hf := it_e cd hf
          refine lv_aload_n hx hb d_M_holds_79 rfl (lv_at hl 1 rfl) ?_
          refine mg_0_pile C w k1146 d_M_holds_80 ?_
          refine lv_aload_n hx hb d_M_holds_83 rfl (lv_at hl 1 rfl) ?_
          refine mg_0_piled C w k1147 d_M_holds_84 ?_
          refine lv_iconst (v := 1) hx hb d_M_holds_87 (by decide) ?_
          refine lv_isub hx hb d_M_holds_88 ?_
          refine lv_lconst (v := 1) hx hb d_M_holds_89 (by decide) ?_
          refine lv_aload_n hx hb d_M_holds_90 rfl (lv_at hl 1 rfl) ?_
          refine mg_0_pile C w k1146 d_M_holds_91 ?_
          refine lv_aload_n hx hb d_M_holds_94 rfl (lv_at hl 1 rfl) ?_
          refine mg_0_piled C w k1147 d_M_holds_95 ?_
          refine lv_iconst (v := 1) hx hb d_M_holds_98 (by decide) ?_
          refine lv_isub hx hb d_M_holds_99 ?_
          obtain ⟨g_13, hf⟩ := gd_e hf
          refine ml_39 C w g_13 d_M_holds_100 ?_
          refine lv_lsub hx hb d_M_holds_101 ?_
          obtain ⟨g_14, hf⟩ := gd_e hf
          refine ms_39 C w g_14 d_M_holds_102 (fun σ_15 H locs eσ_15 w => ?_)
          have hf := lt_e eσ_15 hf
          refine lv_goto (tgt := 142) hx hb d_M_holds_103 (by decide) ?_
          obtain ⟨x_16, ex_16⟩ : ∃ y : Int32, y = (x2 + 1) := ⟨_, rfl⟩
          have hf := lt_e ex_16 hf
          refine lv_iinc (v := x_16) (lv' := [(2, .int x_16), (3, .int x_3), (0, .ref (q 0)), (1, .int x1)]) hx hb d_M_holds_142 hl (k := 3) rfl (by rw [ex_16]; rfl) (by decide) rfl (fun ls hl => ?_)
          refine lv_goto (tgt := 15) hx hb d_M_holds_145 (by decide) ?_
          exact hk15 x1 x_16 σ_15 _ _ _ hf w (lv_sub hl [2, 3, 0] rfl)
      · have hf := it_e cd hf
        refine lv_aload_n hx hb d_M_holds_65 rfl (lv_at hl 1 rfl) ?_
        refine lv_lconst (v := 1) hx hb d_M_holds_66 (by decide) ?_
        obtain ⟨σ_18, h_17, hf⟩ := bp_e hf
        refine k_callV (As := [.long 1]) (rest := []) C w (c_M_puts (q := q) h_17) cv_M_puts k1588 (mr_0 C w) (by decide) hl.1 rfl (Nat.le_of_ble_eq_true rfl) d_M_holds_67 (fun H locs w => ?_)
        show WK p l e s m av below meth c 2 g (wM g q) A (some (.int r)) σ2 H locs (F0 m 70 ls [])
        refine lv_goto (tgt := 142) hx hb d_M_holds_70 (by decide) ?_
        obtain ⟨x_19, ex_19⟩ : ∃ y : Int32, y = (x2 + 1) := ⟨_, rfl⟩
        have hf := lt_e ex_19 hf
        refine lv_iinc (v := x_19) (lv' := [(2, .int x_19), (3, .int x_3), (0, .ref (q 0)), (1, .int x1)]) hx hb d_M_holds_142 hl (k := 3) rfl (by rw [ex_19]; rfl) (by decide) rfl (fun ls hl => ?_)
        refine lv_goto (tgt := 15) hx hb d_M_holds_145 (by decide) ?_
        exact hk15 x1 x_19 σ_18 _ _ _ hf w (lv_sub hl [2, 3, 0] rfl)
    · have hf := if_e cd hf
      refine lv_aload_n hx hb d_M_holds_46 rfl (lv_at hl 1 rfl) ?_
      refine lv_iload_n hx hb d_M_holds_47 rfl (lv_at hl 0 rfl) ?_
      refine lv_sipush (v := 1000) hx hb d_M_holds_48 (by decide) ?_
      refine lv_isub hx hb d_M_holds_51 ?_
      refine lv_i2l hx hb d_M_holds_52 rfl ?_
      obtain ⟨σ_21, h_20, hf⟩ := bp_e hf
      refine k_callV (As := [.long ((x_3 - 1000)).toInt64]) (rest := []) C w (c_M_puts (q := q) h_20) cv_M_puts k1588 (mr_0 C w) (by decide) hl.1 rfl (Nat.le_of_ble_eq_true rfl) d_M_holds_53 (fun H locs w => ?_)
      show WK p l e s m av below meth c 2 g (wM g q) A (some (.int r)) σ2 H locs (F0 m 56 ls [])
      refine lv_goto (tgt := 142) hx hb d_M_holds_56 (by decide) ?_
      obtain ⟨x_22, ex_22⟩ : ∃ y : Int32, y = (x2 + 1) := ⟨_, rfl⟩
      have hf := lt_e ex_22 hf
      refine lv_iinc (v := x_22) (lv' := [(2, .int x_22), (3, .int x_3), (0, .ref (q 0)), (1, .int x1)]) hx hb d_M_holds_142 hl (k := 3) rfl (by rw [ex_22]; rfl) (by decide) rfl (fun ls hl => ?_)
      refine lv_goto (tgt := 15) hx hb d_M_holds_145 (by decide) ?_
      exact hk15 x1 x_22 σ_21 _ _ _ hf w (lv_sub hl [2, 3, 0] rfl)
set_option maxHeartbeats 4000000 in
set_option maxRecDepth 20000 in
theorem t_M_holds_15 {r : Int32} {σ2 : St} (C : Cx g A p s m av meth c prog_13_method_47_code 4 "BellHammerModel" (some .boolean))  : ∀ (n : Nat) (x1 : Int32) (x2 : Int32) (σ : St) (H : Heap) (locs : List Loc) (ls : Array Slot), f_M_holds_15   n x1 x2 σ = some (r, σ2) → Wd g (wM g q) A s σ H locs → lv_has ls 4 [(0, .ref (q 0)), (1, .int x1), (2, .int x2)] → WK p l e s m av below meth c 2 g (wM g q) A (some (.int r)) σ2 H locs (F0 m 15 ls []) := by
  intro n
  induction n with
  | zero => intro x1 x2 σ H locs ls hf; exact absurd hf (by intro z; cases z)
  | succ n ih => intro x1 x2 σ H locs ls hf w hl; exact t_M_holds_15b C  ih hf w hl
set_option maxHeartbeats 4000000 in
set_option maxRecDepth 20000 in
theorem c_M_holds {l : Launch} {g : GX} {q : Nat → Nat} {x1 : Int32}  {σ : St} {r : Int32} {σ2 : St} (hf : f_M_holds  x1 σ = some (r, σ2)) : KK l y_M_holds prog_13_method_47_code 4 (some .boolean) 2 g (wM g q) σ [.ref (q 0), .int x1] (some (.int r)) (wM g q) σ2 := by
  refine KK_of (plainFor_of_name (by decide)) (Nat.le_of_ble_eq_true rfl) (fun p e s m below meth c A ls C w hl => ?_)
  have hl : lv_has ls 4 [(0, .ref (q 0)), (1, .int x1)] := hl
  obtain ⟨hx, hb, hml, hown, hts, hK, hA, hZ, hlocks, hr, hN⟩ := id C
  unfold f_M_holds at hf
  refine lv_aload_n hx hb d_M_holds_0 rfl (lv_at hl 0 rfl) ?_
  refine lv_iconst (v := 0) hx hb d_M_holds_1 (by decide) ?_
  refine mp_0_piled C w k1147 d_M_holds_2 (fun σ_1 H locs eσ_1 w => ?_)
  have hf := lt_e eσ_1 hf
  refine lv_aload_n hx hb d_M_holds_5 rfl (lv_at hl 0 rfl) ?_
  refine mg_0_testFrom C w k1143 d_M_holds_6 ?_
  refine lv_bipush (v := 6) hx hb d_M_holds_9 (by decide) ?_
  refine lv_iload_n hx hb d_M_holds_11 rfl (lv_at hl 1 rfl) ?_
  refine lv_iadd hx hb d_M_holds_12 ?_
  obtain ⟨g_2, hf⟩ := gd_e hf
  refine ml_37 C w g_2 d_M_holds_13 ?_
  refine lv_topi (fun x_3 ex_3 => ?_)
  have hf := lt_e ex_3 hf
  refine lv_istore_n (lv' := [(2, .int x_3), (0, .ref (q 0)), (1, .int x1)]) hx hb d_M_holds_14 rfl hl (by decide) rfl (fun ls hl => ?_)
  exact t_M_holds_15 C  FU x1 x_3 σ_1 _ _ _ hf w (lv_sub hl [1, 2, 0] rfl)
def f_M_isLeant_64b (k64 : Int32 → St → Option (Int32 × St)) (x2 : Int32) (σ : St) : Option (Int32 × St) :=
  bp (f_M_ruleMany σ) fun r_2 =>
  if r_2 ≤ x2 then
    some (0, σ)
  else
    if (((sI σ 15) >>> (x2 &&& 31)) &&& 1) = 1 then
      bd (f_M_holds x2 σ) fun r_5 σ_6 =>
      if r_5 = 0 then
        lt ((x2 + 1)) fun x_7 =>
        k64 x_7 σ_6
      else
        some (1, σ_6)
    else
      lt ((x2 + 1)) fun x_3 =>
      k64 x_3 σ
def f_M_isLeant_64 : Nat → Int32 → St → Option (Int32 × St)
  | 0 => fun _ _ => none
  | n + 1 => f_M_isLeant_64b   (f_M_isLeant_64   n)
def f_M_isLeant (x1 : Int32) (σ : St) : Option (Int32 × St) :=
  lt (uA σ 10 (upd (sA σ 10) (0 : Int32).toNatClampNeg (sI σ 17))) fun σ_1 =>
  lt (uA σ_1 10 (upd (sA σ_1 10) (1 : Int32).toNatClampNeg (sI σ_1 20))) fun σ_2 =>
  lt (uA σ_2 10 (upd (sA σ_2 10) (2 : Int32).toNatClampNeg (sI σ_2 21))) fun σ_3 =>
  bp (f_M_trierOf x1 5 σ_3) fun r_5 =>
  lt (uA σ_3 10 (upd (sA σ_3 10) (3 : Int32).toNatClampNeg r_5)) fun σ_6 =>
  lt (uA σ_6 10 (upd (sA σ_6 10) (4 : Int32).toNatClampNeg (sI σ_6 18))) fun σ_7 =>
  lt (uA σ_7 10 (upd (sA σ_7 10) (5 : Int32).toNatClampNeg (sI σ_7 19))) fun σ_8 =>
  f_M_isLeant_64 FU 0 σ_8
set_option maxHeartbeats 4000000 in
set_option maxRecDepth 20000 in
theorem t_M_isLeant_64b {r : Int32} {σ2 : St} (C : Cx g A p s m av meth c prog_13_method_59_code 3 "BellHammerModel" (some .boolean)) {k64 : Int32 → St → Option (Int32 × St)} (hk64 : ∀ (x2 : Int32) (σ : St) (H : Heap) (locs : List Loc) (ls : Array Slot), k64 x2 σ = some (r, σ2) → Wd g (wM g q) A s σ H locs → lv_has ls 3 [(0, .ref (q 0)), (2, .int x2)] → WK p l e s m av below meth c 3 g (wM g q) A (some (.int r)) σ2 H locs (F0 m 64 ls []))  {x2 : Int32} {σ : St} {H : Heap} {locs : List Loc} {ls : Array Slot} (hf : f_M_isLeant_64b  k64 x2 σ = some (r, σ2)) (w : Wd g (wM g q) A s σ H locs) (hl : lv_has ls 3 [(0, .ref (q 0)), (2, .int x2)]) : WK p l e s m av below meth c 3 g (wM g q) A (some (.int r)) σ2 H locs (F0 m 64 ls []) := by
  obtain ⟨hx, hb, hml, hown, hts, hK, hA, hZ, hlocks, hr, hN⟩ := id C
  unfold f_M_isLeant_64b at hf
  refine lv_iload_n hx hb d_M_isLeant_64 rfl (lv_at hl 1 rfl) ?_
  refine lv_aload_n hx hb d_M_isLeant_65 rfl (lv_at hl 0 rfl) ?_
  obtain ⟨r_2, h_1, hf⟩ := bp_e hf
  refine k_callV (As := []) (rest := [.int x2]) C w (c_M_ruleMany (q := q) h_1) cv_M_ruleMany k1513 (mr_0 C w) (by decide) hl.1 rfl (Nat.le_of_ble_eq_true rfl) d_M_isLeant_66 (fun H locs w => ?_)
  show WK p l e s m av below meth c 3 g (wM g q) A (some (.int r)) σ2 H locs (F0 m 69 ls [.int r_2, .int x2])
  refine lv_icmp_ge (tgt := 100) hx hb d_M_isLeant_69 (by decide) (fun cd => ?_) (fun cd => ?_)
  · have hf := it_e cd hf
    refine lv_iconst (v := 0) hx hb d_M_isLeant_100 (by decide) ?_
    obtain ⟨rfl, rfl⟩ := some2_e hf
    exact k_zret C w (by decide) d_M_isLeant_101
  · have hf := if_e cd hf
    refine lv_aload_n hx hb d_M_isLeant_72 rfl (lv_at hl 0 rfl) ?_
    refine mg_0_turnRules C w k1151 d_M_isLeant_73 ?_
    refine lv_iload_n hx hb d_M_isLeant_76 rfl (lv_at hl 1 rfl) ?_
    refine lv_ishr hx hb d_M_isLeant_77 ?_
    refine lv_iconst (v := 1) hx hb d_M_isLeant_78 (by decide) ?_
    refine lv_iand hx hb d_M_isLeant_79 ?_
    refine lv_iconst (v := 1) hx hb d_M_isLeant_80 (by decide) ?_
    refine lv_icmp_ne (tgt := 94) hx hb d_M_isLeant_81 (by decide) (fun cd => ?_) (fun cd => ?_)
    · have hf := if_e cd hf
      obtain ⟨x_3, ex_3⟩ : ∃ y : Int32, y = (x2 + 1) := ⟨_, rfl⟩
      have hf := lt_e ex_3 hf
      refine lv_iinc (v := x_3) (lv' := [(2, .int x_3), (0, .ref (q 0))]) hx hb d_M_isLeant_94 hl (k := 1) rfl (by rw [ex_3]; rfl) (by decide) rfl (fun ls hl => ?_)
      refine lv_goto (tgt := 64) hx hb d_M_isLeant_97 (by decide) ?_
      exact hk64 x_3 σ _ _ _ hf w (lv_sub hl [1, 0] rfl)
    · have hf := it_e cd hf
      refine lv_aload_n hx hb d_M_isLeant_84 rfl (lv_at hl 0 rfl) ?_
      refine lv_iload_n hx hb d_M_isLeant_85 rfl (lv_at hl 1 rfl) ?_
      obtain ⟨r_5, σ_6, h_4, hf⟩ := bd_e hf
      refine k_callV (As := [.int x2]) (rest := []) C w (c_M_holds (q := q) h_4) cv_M_holds k1584 (mr_0 C w) (by decide) hl.1 rfl (Nat.le_of_ble_eq_true rfl) d_M_isLeant_86 (fun H locs w => ?_)
      show WK p l e s m av below meth c 3 g (wM g q) A (some (.int r)) σ2 H locs (F0 m 89 ls [.int r_5])
      refine lv_if_eq (tgt := 94) hx hb d_M_isLeant_89 (by decide) (fun cd => ?_) (fun cd => ?_)
      · have hf := it_e cd hf
        obtain ⟨x_7, ex_7⟩ : ∃ y : Int32, y = (x2 + 1) := ⟨_, rfl⟩
        have hf := lt_e ex_7 hf
        refine lv_iinc (v := x_7) (lv' := [(2, .int x_7), (0, .ref (q 0))]) hx hb d_M_isLeant_94 hl (k := 1) rfl (by rw [ex_7]; rfl) (by decide) rfl (fun ls hl => ?_)
        refine lv_goto (tgt := 64) hx hb d_M_isLeant_97 (by decide) ?_
        exact hk64 x_7 σ_6 _ _ _ hf w (lv_sub hl [1, 0] rfl)
      · have hf := if_e cd hf
        refine lv_iconst (v := 1) hx hb d_M_isLeant_92 (by decide) ?_
        obtain ⟨rfl, rfl⟩ := some2_e hf
        exact k_zret C w (by decide) d_M_isLeant_93
set_option maxHeartbeats 4000000 in
set_option maxRecDepth 20000 in
theorem t_M_isLeant_64 {r : Int32} {σ2 : St} (C : Cx g A p s m av meth c prog_13_method_59_code 3 "BellHammerModel" (some .boolean))  : ∀ (n : Nat) (x2 : Int32) (σ : St) (H : Heap) (locs : List Loc) (ls : Array Slot), f_M_isLeant_64   n x2 σ = some (r, σ2) → Wd g (wM g q) A s σ H locs → lv_has ls 3 [(0, .ref (q 0)), (2, .int x2)] → WK p l e s m av below meth c 3 g (wM g q) A (some (.int r)) σ2 H locs (F0 m 64 ls []) := by
  intro n
  induction n with
  | zero => intro x2 σ H locs ls hf; exact absurd hf (by intro z; cases z)
  | succ n ih => intro x2 σ H locs ls hf w hl; exact t_M_isLeant_64b C  ih hf w hl
set_option maxHeartbeats 4000000 in
set_option maxRecDepth 20000 in
theorem c_M_isLeant {l : Launch} {g : GX} {q : Nat → Nat} {x1 : Int32}  {σ : St} {r : Int32} {σ2 : St} (hf : f_M_isLeant  x1 σ = some (r, σ2)) : KK l y_M_isLeant prog_13_method_59_code 3 (some .boolean) 3 g (wM g q) σ [.ref (q 0), .int x1] (some (.int r)) (wM g q) σ2 := by
  refine KK_of (plainFor_of_name (by decide)) (Nat.le_of_ble_eq_true rfl) (fun p e s m below meth c A ls C w hl => ?_)
  have hl : lv_has ls 3 [(0, .ref (q 0)), (1, .int x1)] := hl
  obtain ⟨hx, hb, hml, hown, hts, hK, hA, hZ, hlocks, hr, hN⟩ := id C
  unfold f_M_isLeant at hf
  refine lv_aload_n hx hb d_M_isLeant_0 rfl (lv_at hl 0 rfl) ?_
  refine mg_0_ask C w k1148 d_M_isLeant_1 ?_
  refine lv_iconst (v := 0) hx hb d_M_isLeant_4 (by decide) ?_
  refine lv_aload_n hx hb d_M_isLeant_5 rfl (lv_at hl 0 rfl) ?_
  refine mg_0_turnCrowd C w k1153 d_M_isLeant_6 ?_
  refine ms_40 C w (by decide) d_M_isLeant_9 (fun σ_1 H locs eσ_1 w => ?_)
  have hf := lt_e eσ_1 hf
  refine lv_aload_n hx hb d_M_isLeant_10 rfl (lv_at hl 0 rfl) ?_
  refine mg_0_ask C w k1148 d_M_isLeant_11 ?_
  refine lv_iconst (v := 1) hx hb d_M_isLeant_14 (by decide) ?_
  refine lv_aload_n hx hb d_M_isLeant_15 rfl (lv_at hl 0 rfl) ?_
  refine mg_0_turnTried C w k1156 d_M_isLeant_16 ?_
  refine ms_40 C w (by decide) d_M_isLeant_19 (fun σ_2 H locs eσ_2 w => ?_)
  have hf := lt_e eσ_2 hf
  refine lv_aload_n hx hb d_M_isLeant_20 rfl (lv_at hl 0 rfl) ?_
  refine mg_0_ask C w k1148 d_M_isLeant_21 ?_
  refine lv_iconst (v := 2) hx hb d_M_isLeant_24 (by decide) ?_
  refine lv_aload_n hx hb d_M_isLeant_25 rfl (lv_at hl 0 rfl) ?_
  refine mg_0_turnLast C w k1157 d_M_isLeant_26 ?_
  refine ms_40 C w (by decide) d_M_isLeant_29 (fun σ_3 H locs eσ_3 w => ?_)
  have hf := lt_e eσ_3 hf
  refine lv_aload_n hx hb d_M_isLeant_30 rfl (lv_at hl 0 rfl) ?_
  refine mg_0_ask C w k1148 d_M_isLeant_31 ?_
  refine lv_iconst (v := 3) hx hb d_M_isLeant_34 (by decide) ?_
  refine lv_aload_n hx hb d_M_isLeant_35 rfl (lv_at hl 0 rfl) ?_
  refine lv_iload_n hx hb d_M_isLeant_36 rfl (lv_at hl 1 rfl) ?_
  refine lv_iconst (v := 5) hx hb d_M_isLeant_37 (by decide) ?_
  obtain ⟨r_5, h_4, hf⟩ := bp_e hf
  refine k_callV (As := [.int x1, .int 5]) (rest := [.int 3, .ref (q 40)]) C w (c_M_trierOf (q := q) h_4) cv_M_trierOf k1534 (mr_0 C w) (by decide) hl.1 rfl (Nat.le_of_ble_eq_true rfl) d_M_isLeant_38 (fun H locs w => ?_)
  show WK p l e s m _ below meth c 3 g (wM g q) A (some (.int r)) σ2 H locs (F0 m 41 ls [.int r_5, .int 3, .ref (q 40)])
  refine ms_40 C w (by decide) d_M_isLeant_41 (fun σ_6 H locs eσ_6 w => ?_)
  have hf := lt_e eσ_6 hf
  refine lv_aload_n hx hb d_M_isLeant_42 rfl (lv_at hl 0 rfl) ?_
  refine mg_0_ask C w k1148 d_M_isLeant_43 ?_
  refine lv_iconst (v := 4) hx hb d_M_isLeant_46 (by decide) ?_
  refine lv_aload_n hx hb d_M_isLeant_47 rfl (lv_at hl 0 rfl) ?_
  refine mg_0_turnRings C w k1154 d_M_isLeant_48 ?_
  refine ms_40 C w (by decide) d_M_isLeant_51 (fun σ_7 H locs eσ_7 w => ?_)
  have hf := lt_e eσ_7 hf
  refine lv_aload_n hx hb d_M_isLeant_52 rfl (lv_at hl 0 rfl) ?_
  refine mg_0_ask C w k1148 d_M_isLeant_53 ?_
  refine lv_iconst (v := 5) hx hb d_M_isLeant_56 (by decide) ?_
  refine lv_aload_n hx hb d_M_isLeant_57 rfl (lv_at hl 0 rfl) ?_
  refine mg_0_turnCoins C w k1155 d_M_isLeant_58 ?_
  refine ms_40 C w (by decide) d_M_isLeant_61 (fun σ_8 H locs eσ_8 w => ?_)
  have hf := lt_e eσ_8 hf
  refine lv_iconst (v := 0) hx hb d_M_isLeant_62 (by decide) ?_
  refine lv_istore_n (lv' := [(2, .int 0), (0, .ref (q 0)), (1, .int x1)]) hx hb d_M_isLeant_63 rfl hl (by decide) rfl (fun ls hl => ?_)
  exact t_M_isLeant_64 C  FU 0 σ_8 _ _ _ hf w (lv_sub hl [1, 0] rfl)
