variable {p : Program} {l : Launch} {e : Env} {s : State} {m : MethodId} {av : Array Value} {below : List Frame} {meth : Method} {c : Code} {g : GX} {q : Nat → Nat} {A : Nat → Prop}
theorem d_Parser_readPart_0 : decode prog_5_method_22_code 0 = .ok (.aload_n 0, 1) := by decide +kernel
theorem d_Parser_readPart_1 : decode prog_5_method_22_code 1 = .ok (.getfield 12, 3) := by decide +kernel
theorem d_Parser_readPart_4 : decode prog_5_method_22_code 4 = .ok (.getfield 39, 3) := by decide +kernel
theorem d_Parser_readPart_7 : decode prog_5_method_22_code 7 = .ok (.iconst 2, 1) := by decide +kernel
theorem d_Parser_readPart_8 : decode prog_5_method_22_code 8 = .ok (.if_icmp .ne 31, 3) := by decide +kernel
theorem d_Parser_readPart_11 : decode prog_5_method_22_code 11 = .ok (.aload_n 0, 1) := by decide +kernel
theorem d_Parser_readPart_12 : decode prog_5_method_22_code 12 = .ok (.iconst 0, 1) := by decide +kernel
theorem d_Parser_readPart_13 : decode prog_5_method_22_code 13 = .ok (.sipush 9999, 3) := by decide +kernel
theorem d_Parser_readPart_16 : decode prog_5_method_22_code 16 = .ok (.invokevirtual 115, 3) := by decide +kernel
theorem d_Parser_readPart_19 : decode prog_5_method_22_code 19 = .ok (.istore_n 2, 1) := by decide +kernel
theorem d_Parser_readPart_20 : decode prog_5_method_22_code 20 = .ok (.aload_n 0, 1) := by decide +kernel
theorem d_Parser_readPart_21 : decode prog_5_method_22_code 21 = .ok (.getfield 21, 3) := by decide +kernel
theorem d_Parser_readPart_24 : decode prog_5_method_22_code 24 = .ok (.iload_n 2, 1) := by decide +kernel
theorem d_Parser_readPart_25 : decode prog_5_method_22_code 25 = .ok (.invokevirtual 167, 3) := by decide +kernel
theorem d_Parser_readPart_28 : decode prog_5_method_22_code 28 = .ok (.iload_n 2, 1) := by decide +kernel
theorem d_Parser_readPart_29 : decode prog_5_method_22_code 29 = .ok (.iconst (-1), 1) := by decide +kernel
theorem d_Parser_readPart_30 : decode prog_5_method_22_code 30 = .ok (.if_icmp .eq 7, 3) := by decide +kernel
theorem d_Parser_readPart_33 : decode prog_5_method_22_code 33 = .ok (.iconst 1, 1) := by decide +kernel
theorem d_Parser_readPart_34 : decode prog_5_method_22_code 34 = .ok (.goto 4, 3) := by decide +kernel
theorem d_Parser_readPart_37 : decode prog_5_method_22_code 37 = .ok (.iconst 0, 1) := by decide +kernel
theorem d_Parser_readPart_38 : decode prog_5_method_22_code 38 = .ok (.ireturn, 1) := by decide +kernel
theorem d_Parser_readPart_39 : decode prog_5_method_22_code 39 = .ok (.aload_n 0, 1) := by decide +kernel
theorem d_Parser_readPart_40 : decode prog_5_method_22_code 40 = .ok (.getfield 12, 3) := by decide +kernel
theorem d_Parser_readPart_43 : decode prog_5_method_22_code 43 = .ok (.bipush 40, 2) := by decide +kernel
theorem d_Parser_readPart_45 : decode prog_5_method_22_code 45 = .ok (.invokevirtual 60, 3) := by decide +kernel
theorem d_Parser_readPart_48 : decode prog_5_method_22_code 48 = .ok (.ifCond .eq 36, 3) := by decide +kernel
theorem d_Parser_readPart_51 : decode prog_5_method_22_code 51 = .ok (.aload_n 0, 1) := by decide +kernel
theorem d_Parser_readPart_52 : decode prog_5_method_22_code 52 = .ok (.iload_n 1, 1) := by decide +kernel
theorem d_Parser_readPart_53 : decode prog_5_method_22_code 53 = .ok (.invokevirtual 174, 3) := by decide +kernel
theorem d_Parser_readPart_56 : decode prog_5_method_22_code 56 = .ok (.ifCond .eq 26, 3) := by decide +kernel
theorem d_Parser_readPart_59 : decode prog_5_method_22_code 59 = .ok (.aload_n 0, 1) := by decide +kernel
theorem d_Parser_readPart_60 : decode prog_5_method_22_code 60 = .ok (.iload_n 1, 1) := by decide +kernel
theorem d_Parser_readPart_61 : decode prog_5_method_22_code 61 = .ok (.iconst 1, 1) := by decide +kernel
theorem d_Parser_readPart_62 : decode prog_5_method_22_code 62 = .ok (.iadd, 1) := by decide +kernel
theorem d_Parser_readPart_63 : decode prog_5_method_22_code 63 = .ok (.invokevirtual 177, 3) := by decide +kernel
theorem d_Parser_readPart_66 : decode prog_5_method_22_code 66 = .ok (.ifCond .eq 16, 3) := by decide +kernel
theorem d_Parser_readPart_69 : decode prog_5_method_22_code 69 = .ok (.aload_n 0, 1) := by decide +kernel
theorem d_Parser_readPart_70 : decode prog_5_method_22_code 70 = .ok (.bipush 41, 2) := by decide +kernel
theorem d_Parser_readPart_72 : decode prog_5_method_22_code 72 = .ok (.invokevirtual 56, 3) := by decide +kernel
theorem d_Parser_readPart_75 : decode prog_5_method_22_code 75 = .ok (.ifCond .eq 7, 3) := by decide +kernel
theorem d_Parser_readPart_78 : decode prog_5_method_22_code 78 = .ok (.iconst 1, 1) := by decide +kernel
theorem d_Parser_readPart_79 : decode prog_5_method_22_code 79 = .ok (.goto 4, 3) := by decide +kernel
theorem d_Parser_readPart_82 : decode prog_5_method_22_code 82 = .ok (.iconst 0, 1) := by decide +kernel
theorem d_Parser_readPart_83 : decode prog_5_method_22_code 83 = .ok (.ireturn, 1) := by decide +kernel
theorem d_Parser_readPart_84 : decode prog_5_method_22_code 84 = .ok (.aload_n 0, 1) := by decide +kernel
theorem d_Parser_readPart_85 : decode prog_5_method_22_code 85 = .ok (.getfield 12, 3) := by decide +kernel
theorem d_Parser_readPart_88 : decode prog_5_method_22_code 88 = .ok (.bipush 25, 2) := by decide +kernel
theorem d_Parser_readPart_90 : decode prog_5_method_22_code 90 = .ok (.invokevirtual 69, 3) := by decide +kernel
theorem d_Parser_readPart_93 : decode prog_5_method_22_code 93 = .ok (.ifCond .eq 12, 3) := by decide +kernel
theorem d_Parser_readPart_96 : decode prog_5_method_22_code 96 = .ok (.aload_n 0, 1) := by decide +kernel
theorem d_Parser_readPart_97 : decode prog_5_method_22_code 97 = .ok (.iload_n 1, 1) := by decide +kernel
theorem d_Parser_readPart_98 : decode prog_5_method_22_code 98 = .ok (.sipush 10020, 3) := by decide +kernel
theorem d_Parser_readPart_101 : decode prog_5_method_22_code 101 = .ok (.invokevirtual 189, 3) := by decide +kernel
theorem d_Parser_readPart_104 : decode prog_5_method_22_code 104 = .ok (.ireturn, 1) := by decide +kernel
theorem d_Parser_readPart_105 : decode prog_5_method_22_code 105 = .ok (.aload_n 0, 1) := by decide +kernel
theorem d_Parser_readPart_106 : decode prog_5_method_22_code 106 = .ok (.getfield 12, 3) := by decide +kernel
theorem d_Parser_readPart_109 : decode prog_5_method_22_code 109 = .ok (.bipush 26, 2) := by decide +kernel
theorem d_Parser_readPart_111 : decode prog_5_method_22_code 111 = .ok (.invokevirtual 69, 3) := by decide +kernel
theorem d_Parser_readPart_114 : decode prog_5_method_22_code 114 = .ok (.ifCond .eq 12, 3) := by decide +kernel
theorem d_Parser_readPart_117 : decode prog_5_method_22_code 117 = .ok (.aload_n 0, 1) := by decide +kernel
theorem d_Parser_readPart_118 : decode prog_5_method_22_code 118 = .ok (.iload_n 1, 1) := by decide +kernel
theorem d_Parser_readPart_119 : decode prog_5_method_22_code 119 = .ok (.sipush 10021, 3) := by decide +kernel
theorem d_Parser_readPart_122 : decode prog_5_method_22_code 122 = .ok (.invokevirtual 189, 3) := by decide +kernel
theorem d_Parser_readPart_125 : decode prog_5_method_22_code 125 = .ok (.ireturn, 1) := by decide +kernel
theorem d_Parser_readPart_126 : decode prog_5_method_22_code 126 = .ok (.iconst 0, 1) := by decide +kernel
theorem d_Parser_readPart_127 : decode prog_5_method_22_code 127 = .ok (.istore_n 2, 1) := by decide +kernel
theorem d_Parser_readPart_128 : decode prog_5_method_22_code 128 = .ok (.iload_n 2, 1) := by decide +kernel
theorem d_Parser_readPart_129 : decode prog_5_method_22_code 129 = .ok (.getstatic 192, 3) := by decide +kernel
theorem d_Parser_readPart_132 : decode prog_5_method_22_code 132 = .ok (.arraylength, 1) := by decide +kernel
theorem d_Parser_readPart_133 : decode prog_5_method_22_code 133 = .ok (.if_icmp .ge 45, 3) := by decide +kernel
theorem d_Parser_readPart_136 : decode prog_5_method_22_code 136 = .ok (.aload_n 0, 1) := by decide +kernel
theorem d_Parser_readPart_137 : decode prog_5_method_22_code 137 = .ok (.getfield 12, 3) := by decide +kernel
theorem d_Parser_readPart_140 : decode prog_5_method_22_code 140 = .ok (.getstatic 192, 3) := by decide +kernel
theorem d_Parser_readPart_143 : decode prog_5_method_22_code 143 = .ok (.iload_n 2, 1) := by decide +kernel
theorem d_Parser_readPart_144 : decode prog_5_method_22_code 144 = .ok (.iaload, 1) := by decide +kernel
theorem d_Parser_readPart_145 : decode prog_5_method_22_code 145 = .ok (.invokevirtual 69, 3) := by decide +kernel
theorem d_Parser_readPart_148 : decode prog_5_method_22_code 148 = .ok (.ifCond .eq 24, 3) := by decide +kernel
theorem d_Parser_readPart_151 : decode prog_5_method_22_code 151 = .ok (.aload_n 0, 1) := by decide +kernel
theorem d_Parser_readPart_152 : decode prog_5_method_22_code 152 = .ok (.getfield 12, 3) := by decide +kernel
theorem d_Parser_readPart_155 : decode prog_5_method_22_code 155 = .ok (.invokevirtual 66, 3) := by decide +kernel
theorem d_Parser_readPart_158 : decode prog_5_method_22_code 158 = .ok (.aload_n 0, 1) := by decide +kernel
theorem d_Parser_readPart_159 : decode prog_5_method_22_code 159 = .ok (.getfield 21, 3) := by decide +kernel
theorem d_Parser_readPart_162 : decode prog_5_method_22_code 162 = .ok (.sipush 10000, 3) := by decide +kernel
theorem d_Parser_readPart_165 : decode prog_5_method_22_code 165 = .ok (.iload_n 2, 1) := by decide +kernel
theorem d_Parser_readPart_166 : decode prog_5_method_22_code 166 = .ok (.iadd, 1) := by decide +kernel
theorem d_Parser_readPart_167 : decode prog_5_method_22_code 167 = .ok (.invokevirtual 167, 3) := by decide +kernel
theorem d_Parser_readPart_170 : decode prog_5_method_22_code 170 = .ok (.iconst 1, 1) := by decide +kernel
theorem d_Parser_readPart_171 : decode prog_5_method_22_code 171 = .ok (.ireturn, 1) := by decide +kernel
theorem d_Parser_readPart_172 : decode prog_5_method_22_code 172 = .ok (.iinc 2 1, 3) := by decide +kernel
theorem d_Parser_readPart_175 : decode prog_5_method_22_code 175 = .ok (.goto (-47), 3) := by decide +kernel
theorem d_Parser_readPart_178 : decode prog_5_method_22_code 178 = .ok (.aload_n 0, 1) := by decide +kernel
theorem d_Parser_readPart_179 : decode prog_5_method_22_code 179 = .ok (.invokevirtual 63, 3) := by decide +kernel
theorem d_Parser_readPart_182 : decode prog_5_method_22_code 182 = .ok (.ireturn, 1) := by decide +kernel
theorem d_Parser_readProduct_0 : decode prog_5_method_21_code 0 = .ok (.aload_n 0, 1) := by decide +kernel
theorem d_Parser_readProduct_1 : decode prog_5_method_21_code 1 = .ok (.iload_n 1, 1) := by decide +kernel
theorem d_Parser_readProduct_2 : decode prog_5_method_21_code 2 = .ok (.invokevirtual 186, 3) := by decide +kernel
theorem d_Parser_readProduct_5 : decode prog_5_method_21_code 5 = .ok (.ifCond .ne 5, 3) := by decide +kernel
theorem d_Parser_readProduct_8 : decode prog_5_method_21_code 8 = .ok (.iconst 0, 1) := by decide +kernel
theorem d_Parser_readProduct_9 : decode prog_5_method_21_code 9 = .ok (.ireturn, 1) := by decide +kernel
theorem d_Parser_readProduct_10 : decode prog_5_method_21_code 10 = .ok (.iconst 0, 1) := by decide +kernel
theorem d_Parser_readProduct_11 : decode prog_5_method_21_code 11 = .ok (.istore_n 2, 1) := by decide +kernel
theorem d_Parser_readProduct_12 : decode prog_5_method_21_code 12 = .ok (.iload_n 2, 1) := by decide +kernel
theorem d_Parser_readProduct_13 : decode prog_5_method_21_code 13 = .ok (.sipush 1600, 3) := by decide +kernel
theorem d_Parser_readProduct_16 : decode prog_5_method_21_code 16 = .ok (.if_icmp .ge 80, 3) := by decide +kernel
theorem d_Parser_readProduct_19 : decode prog_5_method_21_code 19 = .ok (.aload_n 0, 1) := by decide +kernel
theorem d_Parser_readProduct_20 : decode prog_5_method_21_code 20 = .ok (.getfield 12, 3) := by decide +kernel
theorem d_Parser_readProduct_23 : decode prog_5_method_21_code 23 = .ok (.bipush 42, 2) := by decide +kernel
theorem d_Parser_readProduct_25 : decode prog_5_method_21_code 25 = .ok (.invokevirtual 60, 3) := by decide +kernel
theorem d_Parser_readProduct_28 : decode prog_5_method_21_code 28 = .ok (.ifCond .ne 15, 3) := by decide +kernel
theorem d_Parser_readProduct_31 : decode prog_5_method_21_code 31 = .ok (.aload_n 0, 1) := by decide +kernel
theorem d_Parser_readProduct_32 : decode prog_5_method_21_code 32 = .ok (.getfield 12, 3) := by decide +kernel
theorem d_Parser_readProduct_35 : decode prog_5_method_21_code 35 = .ok (.bipush 47, 2) := by decide +kernel
theorem d_Parser_readProduct_37 : decode prog_5_method_21_code 37 = .ok (.invokevirtual 60, 3) := by decide +kernel
theorem d_Parser_readProduct_40 : decode prog_5_method_21_code 40 = .ok (.ifCond .eq 56, 3) := by decide +kernel
theorem d_Parser_readProduct_43 : decode prog_5_method_21_code 43 = .ok (.aload_n 0, 1) := by decide +kernel
theorem d_Parser_readProduct_44 : decode prog_5_method_21_code 44 = .ok (.getfield 12, 3) := by decide +kernel
theorem d_Parser_readProduct_47 : decode prog_5_method_21_code 47 = .ok (.bipush 42, 2) := by decide +kernel
theorem d_Parser_readProduct_49 : decode prog_5_method_21_code 49 = .ok (.invokevirtual 60, 3) := by decide +kernel
theorem d_Parser_readProduct_52 : decode prog_5_method_21_code 52 = .ok (.ifCond .eq 9, 3) := by decide +kernel
theorem d_Parser_readProduct_55 : decode prog_5_method_21_code 55 = .ok (.sipush 10018, 3) := by decide +kernel
theorem d_Parser_readProduct_58 : decode prog_5_method_21_code 58 = .ok (.goto 6, 3) := by decide +kernel
theorem d_Parser_readProduct_61 : decode prog_5_method_21_code 61 = .ok (.sipush 10019, 3) := by decide +kernel
theorem d_Parser_readProduct_64 : decode prog_5_method_21_code 64 = .ok (.istore_n 3, 1) := by decide +kernel
theorem d_Parser_readProduct_65 : decode prog_5_method_21_code 65 = .ok (.aload_n 0, 1) := by decide +kernel
theorem d_Parser_readProduct_66 : decode prog_5_method_21_code 66 = .ok (.getfield 12, 3) := by decide +kernel
theorem d_Parser_readProduct_69 : decode prog_5_method_21_code 69 = .ok (.invokevirtual 66, 3) := by decide +kernel
theorem d_Parser_readProduct_72 : decode prog_5_method_21_code 72 = .ok (.aload_n 0, 1) := by decide +kernel
theorem d_Parser_readProduct_73 : decode prog_5_method_21_code 73 = .ok (.iload_n 1, 1) := by decide +kernel
theorem d_Parser_readProduct_74 : decode prog_5_method_21_code 74 = .ok (.invokevirtual 186, 3) := by decide +kernel
theorem d_Parser_readProduct_77 : decode prog_5_method_21_code 77 = .ok (.ifCond .ne 5, 3) := by decide +kernel
theorem d_Parser_readProduct_80 : decode prog_5_method_21_code 80 = .ok (.iconst 0, 1) := by decide +kernel
theorem d_Parser_readProduct_81 : decode prog_5_method_21_code 81 = .ok (.ireturn, 1) := by decide +kernel
theorem d_Parser_readProduct_82 : decode prog_5_method_21_code 82 = .ok (.aload_n 0, 1) := by decide +kernel
theorem d_Parser_readProduct_83 : decode prog_5_method_21_code 83 = .ok (.getfield 21, 3) := by decide +kernel
theorem d_Parser_readProduct_86 : decode prog_5_method_21_code 86 = .ok (.iload_n 3, 1) := by decide +kernel
theorem d_Parser_readProduct_87 : decode prog_5_method_21_code 87 = .ok (.invokevirtual 167, 3) := by decide +kernel
theorem d_Parser_readProduct_90 : decode prog_5_method_21_code 90 = .ok (.iinc 2 1, 3) := by decide +kernel
theorem d_Parser_readProduct_93 : decode prog_5_method_21_code 93 = .ok (.goto (-81), 3) := by decide +kernel
theorem d_Parser_readProduct_96 : decode prog_5_method_21_code 96 = .ok (.iconst 1, 1) := by decide +kernel
theorem d_Parser_readProduct_97 : decode prog_5_method_21_code 97 = .ok (.ireturn, 1) := by decide +kernel
theorem d_Parser_readSum_0 : decode prog_5_method_20_code 0 = .ok (.aload_n 0, 1) := by decide +kernel
theorem d_Parser_readSum_1 : decode prog_5_method_20_code 1 = .ok (.iload_n 1, 1) := by decide +kernel
theorem d_Parser_readSum_2 : decode prog_5_method_20_code 2 = .ok (.invokevirtual 183, 3) := by decide +kernel
theorem d_Parser_readSum_5 : decode prog_5_method_20_code 5 = .ok (.ifCond .ne 5, 3) := by decide +kernel
theorem d_Parser_readSum_8 : decode prog_5_method_20_code 8 = .ok (.iconst 0, 1) := by decide +kernel
theorem d_Parser_readSum_9 : decode prog_5_method_20_code 9 = .ok (.ireturn, 1) := by decide +kernel
theorem d_Parser_readSum_10 : decode prog_5_method_20_code 10 = .ok (.iconst 0, 1) := by decide +kernel
theorem d_Parser_readSum_11 : decode prog_5_method_20_code 11 = .ok (.istore_n 2, 1) := by decide +kernel
theorem d_Parser_readSum_12 : decode prog_5_method_20_code 12 = .ok (.iload_n 2, 1) := by decide +kernel
theorem d_Parser_readSum_13 : decode prog_5_method_20_code 13 = .ok (.sipush 1600, 3) := by decide +kernel
theorem d_Parser_readSum_16 : decode prog_5_method_20_code 16 = .ok (.if_icmp .ge 80, 3) := by decide +kernel
theorem d_Parser_readSum_19 : decode prog_5_method_20_code 19 = .ok (.aload_n 0, 1) := by decide +kernel
theorem d_Parser_readSum_20 : decode prog_5_method_20_code 20 = .ok (.getfield 12, 3) := by decide +kernel
theorem d_Parser_readSum_23 : decode prog_5_method_20_code 23 = .ok (.bipush 43, 2) := by decide +kernel
theorem d_Parser_readSum_25 : decode prog_5_method_20_code 25 = .ok (.invokevirtual 60, 3) := by decide +kernel
theorem d_Parser_readSum_28 : decode prog_5_method_20_code 28 = .ok (.ifCond .ne 15, 3) := by decide +kernel
theorem d_Parser_readSum_31 : decode prog_5_method_20_code 31 = .ok (.aload_n 0, 1) := by decide +kernel
theorem d_Parser_readSum_32 : decode prog_5_method_20_code 32 = .ok (.getfield 12, 3) := by decide +kernel
theorem d_Parser_readSum_35 : decode prog_5_method_20_code 35 = .ok (.bipush 45, 2) := by decide +kernel
theorem d_Parser_readSum_37 : decode prog_5_method_20_code 37 = .ok (.invokevirtual 60, 3) := by decide +kernel
theorem d_Parser_readSum_40 : decode prog_5_method_20_code 40 = .ok (.ifCond .eq 56, 3) := by decide +kernel
theorem d_Parser_readSum_43 : decode prog_5_method_20_code 43 = .ok (.aload_n 0, 1) := by decide +kernel
theorem d_Parser_readSum_44 : decode prog_5_method_20_code 44 = .ok (.getfield 12, 3) := by decide +kernel
theorem d_Parser_readSum_47 : decode prog_5_method_20_code 47 = .ok (.bipush 43, 2) := by decide +kernel
theorem d_Parser_readSum_49 : decode prog_5_method_20_code 49 = .ok (.invokevirtual 60, 3) := by decide +kernel
theorem d_Parser_readSum_52 : decode prog_5_method_20_code 52 = .ok (.ifCond .eq 9, 3) := by decide +kernel
theorem d_Parser_readSum_55 : decode prog_5_method_20_code 55 = .ok (.sipush 10016, 3) := by decide +kernel
theorem d_Parser_readSum_58 : decode prog_5_method_20_code 58 = .ok (.goto 6, 3) := by decide +kernel
theorem d_Parser_readSum_61 : decode prog_5_method_20_code 61 = .ok (.sipush 10017, 3) := by decide +kernel
theorem d_Parser_readSum_64 : decode prog_5_method_20_code 64 = .ok (.istore_n 3, 1) := by decide +kernel
theorem d_Parser_readSum_65 : decode prog_5_method_20_code 65 = .ok (.aload_n 0, 1) := by decide +kernel
theorem d_Parser_readSum_66 : decode prog_5_method_20_code 66 = .ok (.getfield 12, 3) := by decide +kernel
theorem d_Parser_readSum_69 : decode prog_5_method_20_code 69 = .ok (.invokevirtual 66, 3) := by decide +kernel
theorem d_Parser_readSum_72 : decode prog_5_method_20_code 72 = .ok (.aload_n 0, 1) := by decide +kernel
theorem d_Parser_readSum_73 : decode prog_5_method_20_code 73 = .ok (.iload_n 1, 1) := by decide +kernel
theorem d_Parser_readSum_74 : decode prog_5_method_20_code 74 = .ok (.invokevirtual 183, 3) := by decide +kernel
theorem d_Parser_readSum_77 : decode prog_5_method_20_code 77 = .ok (.ifCond .ne 5, 3) := by decide +kernel
theorem d_Parser_readSum_80 : decode prog_5_method_20_code 80 = .ok (.iconst 0, 1) := by decide +kernel
theorem d_Parser_readSum_81 : decode prog_5_method_20_code 81 = .ok (.ireturn, 1) := by decide +kernel
theorem d_Parser_readSum_82 : decode prog_5_method_20_code 82 = .ok (.aload_n 0, 1) := by decide +kernel
theorem d_Parser_readSum_83 : decode prog_5_method_20_code 83 = .ok (.getfield 21, 3) := by decide +kernel
theorem d_Parser_readSum_86 : decode prog_5_method_20_code 86 = .ok (.iload_n 3, 1) := by decide +kernel
theorem d_Parser_readSum_87 : decode prog_5_method_20_code 87 = .ok (.invokevirtual 167, 3) := by decide +kernel
theorem d_Parser_readSum_90 : decode prog_5_method_20_code 90 = .ok (.iinc 2 1, 3) := by decide +kernel
theorem d_Parser_readSum_93 : decode prog_5_method_20_code 93 = .ok (.goto (-81), 3) := by decide +kernel
theorem d_Parser_readSum_96 : decode prog_5_method_20_code 96 = .ok (.iconst 1, 1) := by decide +kernel
theorem d_Parser_readSum_97 : decode prog_5_method_20_code 97 = .ok (.ireturn, 1) := by decide +kernel
theorem d_Parser_passComparer_0 : decode prog_5_method_19_code 0 = .ok (.aload_n 0, 1) := by decide +kernel
theorem d_Parser_passComparer_1 : decode prog_5_method_19_code 1 = .ok (.getfield 12, 3) := by decide +kernel
theorem d_Parser_passComparer_4 : decode prog_5_method_19_code 4 = .ok (.bipush 60, 2) := by decide +kernel
theorem d_Parser_passComparer_6 : decode prog_5_method_19_code 6 = .ok (.invokevirtual 60, 3) := by decide +kernel
theorem d_Parser_passComparer_9 : decode prog_5_method_19_code 9 = .ok (.ifCond .eq 9, 3) := by decide +kernel
theorem d_Parser_passComparer_12 : decode prog_5_method_19_code 12 = .ok (.sipush 10013, 3) := by decide +kernel
theorem d_Parser_passComparer_15 : decode prog_5_method_19_code 15 = .ok (.goto 24, 3) := by decide +kernel
theorem d_Parser_passComparer_18 : decode prog_5_method_19_code 18 = .ok (.aload_n 0, 1) := by decide +kernel
theorem d_Parser_passComparer_19 : decode prog_5_method_19_code 19 = .ok (.getfield 12, 3) := by decide +kernel
theorem d_Parser_passComparer_22 : decode prog_5_method_19_code 22 = .ok (.bipush 62, 2) := by decide +kernel
theorem d_Parser_passComparer_24 : decode prog_5_method_19_code 24 = .ok (.invokevirtual 60, 3) := by decide +kernel
theorem d_Parser_passComparer_27 : decode prog_5_method_19_code 27 = .ok (.ifCond .eq 9, 3) := by decide +kernel
theorem d_Parser_passComparer_30 : decode prog_5_method_19_code 30 = .ok (.sipush 10014, 3) := by decide +kernel
theorem d_Parser_passComparer_33 : decode prog_5_method_19_code 33 = .ok (.goto 6, 3) := by decide +kernel
theorem d_Parser_passComparer_36 : decode prog_5_method_19_code 36 = .ok (.sipush 10015, 3) := by decide +kernel
theorem d_Parser_passComparer_39 : decode prog_5_method_19_code 39 = .ok (.istore_n 1, 1) := by decide +kernel
theorem d_Parser_passComparer_40 : decode prog_5_method_19_code 40 = .ok (.iload_n 1, 1) := by decide +kernel
theorem d_Parser_passComparer_41 : decode prog_5_method_19_code 41 = .ok (.sipush 10015, 3) := by decide +kernel
theorem d_Parser_passComparer_44 : decode prog_5_method_19_code 44 = .ok (.if_icmp .ne 22, 3) := by decide +kernel
theorem d_Parser_passComparer_47 : decode prog_5_method_19_code 47 = .ok (.aload_n 0, 1) := by decide +kernel
theorem d_Parser_passComparer_48 : decode prog_5_method_19_code 48 = .ok (.getfield 12, 3) := by decide +kernel
theorem d_Parser_passComparer_51 : decode prog_5_method_19_code 51 = .ok (.bipush 61, 2) := by decide +kernel
theorem d_Parser_passComparer_53 : decode prog_5_method_19_code 53 = .ok (.invokevirtual 60, 3) := by decide +kernel
theorem d_Parser_passComparer_56 : decode prog_5_method_19_code 56 = .ok (.ifCond .ne 10, 3) := by decide +kernel
theorem d_Parser_passComparer_59 : decode prog_5_method_19_code 59 = .ok (.aload_n 0, 1) := by decide +kernel
theorem d_Parser_passComparer_60 : decode prog_5_method_19_code 60 = .ok (.invokevirtual 63, 3) := by decide +kernel
theorem d_Parser_passComparer_63 : decode prog_5_method_19_code 63 = .ok (.pop, 1) := by decide +kernel
theorem d_Parser_passComparer_64 : decode prog_5_method_19_code 64 = .ok (.iconst (-1), 1) := by decide +kernel
theorem d_Parser_passComparer_65 : decode prog_5_method_19_code 65 = .ok (.ireturn, 1) := by decide +kernel
theorem d_Parser_passComparer_66 : decode prog_5_method_19_code 66 = .ok (.aload_n 0, 1) := by decide +kernel
theorem d_Parser_passComparer_67 : decode prog_5_method_19_code 67 = .ok (.getfield 12, 3) := by decide +kernel
theorem d_Parser_passComparer_70 : decode prog_5_method_19_code 70 = .ok (.invokevirtual 66, 3) := by decide +kernel
theorem d_Parser_passComparer_73 : decode prog_5_method_19_code 73 = .ok (.iload_n 1, 1) := by decide +kernel
theorem d_Parser_passComparer_74 : decode prog_5_method_19_code 74 = .ok (.ireturn, 1) := by decide +kernel
theorem d_Parser_readFact_0 : decode prog_5_method_17_code 0 = .ok (.aload_n 0, 1) := by decide +kernel
theorem d_Parser_readFact_1 : decode prog_5_method_17_code 1 = .ok (.getfield 12, 3) := by decide +kernel
theorem d_Parser_readFact_4 : decode prog_5_method_17_code 4 = .ok (.bipush 23, 2) := by decide +kernel
theorem d_Parser_readFact_6 : decode prog_5_method_17_code 6 = .ok (.invokevirtual 69, 3) := by decide +kernel
theorem d_Parser_readFact_9 : decode prog_5_method_17_code 9 = .ok (.ifCond .eq 35, 3) := by decide +kernel
theorem d_Parser_readFact_12 : decode prog_5_method_17_code 12 = .ok (.aload_n 0, 1) := by decide +kernel
theorem d_Parser_readFact_13 : decode prog_5_method_17_code 13 = .ok (.iload_n 1, 1) := by decide +kernel
theorem d_Parser_readFact_14 : decode prog_5_method_17_code 14 = .ok (.invokevirtual 174, 3) := by decide +kernel
theorem d_Parser_readFact_17 : decode prog_5_method_17_code 17 = .ok (.ifCond .eq 13, 3) := by decide +kernel
theorem d_Parser_readFact_20 : decode prog_5_method_17_code 20 = .ok (.aload_n 0, 1) := by decide +kernel
theorem d_Parser_readFact_21 : decode prog_5_method_17_code 21 = .ok (.iload_n 1, 1) := by decide +kernel
theorem d_Parser_readFact_22 : decode prog_5_method_17_code 22 = .ok (.iconst 1, 1) := by decide +kernel
theorem d_Parser_readFact_23 : decode prog_5_method_17_code 23 = .ok (.iadd, 1) := by decide +kernel
theorem d_Parser_readFact_24 : decode prog_5_method_17_code 24 = .ok (.invokevirtual 171, 3) := by decide +kernel
theorem d_Parser_readFact_27 : decode prog_5_method_17_code 27 = .ok (.ifCond .ne 5, 3) := by decide +kernel
theorem d_Parser_readFact_30 : decode prog_5_method_17_code 30 = .ok (.iconst 0, 1) := by decide +kernel
theorem d_Parser_readFact_31 : decode prog_5_method_17_code 31 = .ok (.ireturn, 1) := by decide +kernel
theorem d_Parser_readFact_32 : decode prog_5_method_17_code 32 = .ok (.aload_n 0, 1) := by decide +kernel
theorem d_Parser_readFact_33 : decode prog_5_method_17_code 33 = .ok (.getfield 21, 3) := by decide +kernel
theorem d_Parser_readFact_36 : decode prog_5_method_17_code 36 = .ok (.sipush 10010, 3) := by decide +kernel
theorem d_Parser_readFact_39 : decode prog_5_method_17_code 39 = .ok (.invokevirtual 167, 3) := by decide +kernel
theorem d_Parser_readFact_42 : decode prog_5_method_17_code 42 = .ok (.iconst 1, 1) := by decide +kernel
theorem d_Parser_readFact_43 : decode prog_5_method_17_code 43 = .ok (.ireturn, 1) := by decide +kernel
theorem d_Parser_readFact_44 : decode prog_5_method_17_code 44 = .ok (.aload_n 0, 1) := by decide +kernel
theorem d_Parser_readFact_45 : decode prog_5_method_17_code 45 = .ok (.getfield 12, 3) := by decide +kernel
theorem d_Parser_readFact_48 : decode prog_5_method_17_code 48 = .ok (.bipush 91, 2) := by decide +kernel
theorem d_Parser_readFact_50 : decode prog_5_method_17_code 50 = .ok (.invokevirtual 60, 3) := by decide +kernel
theorem d_Parser_readFact_53 : decode prog_5_method_17_code 53 = .ok (.ifCond .eq 36, 3) := by decide +kernel
theorem d_Parser_readFact_56 : decode prog_5_method_17_code 56 = .ok (.aload_n 0, 1) := by decide +kernel
theorem d_Parser_readFact_57 : decode prog_5_method_17_code 57 = .ok (.iload_n 1, 1) := by decide +kernel
theorem d_Parser_readFact_58 : decode prog_5_method_17_code 58 = .ok (.invokevirtual 174, 3) := by decide +kernel
theorem d_Parser_readFact_61 : decode prog_5_method_17_code 61 = .ok (.ifCond .eq 26, 3) := by decide +kernel
theorem d_Parser_readFact_64 : decode prog_5_method_17_code 64 = .ok (.aload_n 0, 1) := by decide +kernel
theorem d_Parser_readFact_65 : decode prog_5_method_17_code 65 = .ok (.iload_n 1, 1) := by decide +kernel
theorem d_Parser_readFact_66 : decode prog_5_method_17_code 66 = .ok (.iconst 1, 1) := by decide +kernel
theorem d_Parser_readFact_67 : decode prog_5_method_17_code 67 = .ok (.iadd, 1) := by decide +kernel
theorem d_Parser_readFact_68 : decode prog_5_method_17_code 68 = .ok (.invokevirtual 96, 3) := by decide +kernel
theorem d_Parser_readFact_71 : decode prog_5_method_17_code 71 = .ok (.ifCond .eq 16, 3) := by decide +kernel
theorem d_Parser_readFact_74 : decode prog_5_method_17_code 74 = .ok (.aload_n 0, 1) := by decide +kernel
theorem d_Parser_readFact_75 : decode prog_5_method_17_code 75 = .ok (.bipush 93, 2) := by decide +kernel
theorem d_Parser_readFact_77 : decode prog_5_method_17_code 77 = .ok (.invokevirtual 56, 3) := by decide +kernel
theorem d_Parser_readFact_80 : decode prog_5_method_17_code 80 = .ok (.ifCond .eq 7, 3) := by decide +kernel
theorem d_Parser_readFact_83 : decode prog_5_method_17_code 83 = .ok (.iconst 1, 1) := by decide +kernel
theorem d_Parser_readFact_84 : decode prog_5_method_17_code 84 = .ok (.goto 4, 3) := by decide +kernel
theorem d_Parser_readFact_87 : decode prog_5_method_17_code 87 = .ok (.iconst 0, 1) := by decide +kernel
theorem d_Parser_readFact_88 : decode prog_5_method_17_code 88 = .ok (.ireturn, 1) := by decide +kernel
theorem d_Parser_readFact_89 : decode prog_5_method_17_code 89 = .ok (.aload_n 0, 1) := by decide +kernel
theorem d_Parser_readFact_90 : decode prog_5_method_17_code 90 = .ok (.getfield 12, 3) := by decide +kernel
theorem d_Parser_readFact_93 : decode prog_5_method_17_code 93 = .ok (.bipush 24, 2) := by decide +kernel
theorem d_Parser_readFact_95 : decode prog_5_method_17_code 95 = .ok (.invokevirtual 69, 3) := by decide +kernel
theorem d_Parser_readFact_98 : decode prog_5_method_17_code 98 = .ok (.ifCond .eq 20, 3) := by decide +kernel
theorem d_Parser_readFact_101 : decode prog_5_method_17_code 101 = .ok (.aload_n 0, 1) := by decide +kernel
theorem d_Parser_readFact_102 : decode prog_5_method_17_code 102 = .ok (.getfield 12, 3) := by decide +kernel
theorem d_Parser_readFact_105 : decode prog_5_method_17_code 105 = .ok (.invokevirtual 66, 3) := by decide +kernel
theorem d_Parser_readFact_108 : decode prog_5_method_17_code 108 = .ok (.aload_n 0, 1) := by decide +kernel
theorem d_Parser_readFact_109 : decode prog_5_method_17_code 109 = .ok (.getfield 21, 3) := by decide +kernel
theorem d_Parser_readFact_112 : decode prog_5_method_17_code 112 = .ok (.iconst 1, 1) := by decide +kernel
theorem d_Parser_readFact_113 : decode prog_5_method_17_code 113 = .ok (.invokevirtual 167, 3) := by decide +kernel
theorem d_Parser_readFact_116 : decode prog_5_method_17_code 116 = .ok (.iconst 1, 1) := by decide +kernel
theorem d_Parser_readFact_117 : decode prog_5_method_17_code 117 = .ok (.ireturn, 1) := by decide +kernel
theorem d_Parser_readFact_118 : decode prog_5_method_17_code 118 = .ok (.aload_n 0, 1) := by decide +kernel
theorem d_Parser_readFact_119 : decode prog_5_method_17_code 119 = .ok (.iload_n 1, 1) := by decide +kernel
theorem d_Parser_readFact_120 : decode prog_5_method_17_code 120 = .ok (.invokevirtual 177, 3) := by decide +kernel
theorem d_Parser_readFact_123 : decode prog_5_method_17_code 123 = .ok (.ifCond .ne 5, 3) := by decide +kernel
theorem d_Parser_readFact_126 : decode prog_5_method_17_code 126 = .ok (.iconst 0, 1) := by decide +kernel
theorem d_Parser_readFact_127 : decode prog_5_method_17_code 127 = .ok (.ireturn, 1) := by decide +kernel
theorem d_Parser_readFact_128 : decode prog_5_method_17_code 128 = .ok (.aload_n 0, 1) := by decide +kernel
theorem d_Parser_readFact_129 : decode prog_5_method_17_code 129 = .ok (.invokevirtual 180, 3) := by decide +kernel
theorem d_Parser_readFact_132 : decode prog_5_method_17_code 132 = .ok (.istore_n 2, 1) := by decide +kernel
theorem d_Parser_readFact_133 : decode prog_5_method_17_code 133 = .ok (.iload_n 2, 1) := by decide +kernel
theorem d_Parser_readFact_134 : decode prog_5_method_17_code 134 = .ok (.iconst (-1), 1) := by decide +kernel
theorem d_Parser_readFact_135 : decode prog_5_method_17_code 135 = .ok (.if_icmp .eq 11, 3) := by decide +kernel
theorem d_Parser_readFact_138 : decode prog_5_method_17_code 138 = .ok (.aload_n 0, 1) := by decide +kernel
theorem d_Parser_readFact_139 : decode prog_5_method_17_code 139 = .ok (.iload_n 1, 1) := by decide +kernel
theorem d_Parser_readFact_140 : decode prog_5_method_17_code 140 = .ok (.invokevirtual 177, 3) := by decide +kernel
theorem d_Parser_readFact_143 : decode prog_5_method_17_code 143 = .ok (.ifCond .ne 5, 3) := by decide +kernel
theorem d_Parser_readFact_146 : decode prog_5_method_17_code 146 = .ok (.iconst 0, 1) := by decide +kernel
theorem d_Parser_readFact_147 : decode prog_5_method_17_code 147 = .ok (.ireturn, 1) := by decide +kernel
theorem d_Parser_readFact_148 : decode prog_5_method_17_code 148 = .ok (.aload_n 0, 1) := by decide +kernel
theorem d_Parser_readFact_149 : decode prog_5_method_17_code 149 = .ok (.getfield 21, 3) := by decide +kernel
theorem d_Parser_readFact_152 : decode prog_5_method_17_code 152 = .ok (.iload_n 2, 1) := by decide +kernel
theorem d_Parser_readFact_153 : decode prog_5_method_17_code 153 = .ok (.invokevirtual 167, 3) := by decide +kernel
theorem d_Parser_readFact_156 : decode prog_5_method_17_code 156 = .ok (.iconst 1, 1) := by decide +kernel
theorem d_Parser_readFact_157 : decode prog_5_method_17_code 157 = .ok (.ireturn, 1) := by decide +kernel
theorem d_Parser_endRule_0 : decode prog_5_method_14_code 0 = .ok (.aload_n 0, 1) := by decide +kernel
theorem d_Parser_endRule_1 : decode prog_5_method_14_code 1 = .ok (.getfield 21, 3) := by decide +kernel
theorem d_Parser_endRule_4 : decode prog_5_method_14_code 4 = .ok (.getfield 153, 3) := by decide +kernel
theorem d_Parser_endRule_7 : decode prog_5_method_14_code 7 = .ok (.bipush 6, 2) := by decide +kernel
theorem d_Parser_endRule_9 : decode prog_5_method_14_code 9 = .ok (.if_icmp .lt 5, 3) := by decide +kernel
theorem d_Parser_endRule_12 : decode prog_5_method_14_code 12 = .ok (.iconst 0, 1) := by decide +kernel
theorem d_Parser_endRule_13 : decode prog_5_method_14_code 13 = .ok (.ireturn, 1) := by decide +kernel
theorem d_Parser_endRule_14 : decode prog_5_method_14_code 14 = .ok (.aload_n 0, 1) := by decide +kernel
theorem d_Parser_endRule_15 : decode prog_5_method_14_code 15 = .ok (.getfield 21, 3) := by decide +kernel
theorem d_Parser_endRule_18 : decode prog_5_method_14_code 18 = .ok (.getfield 156, 3) := by decide +kernel
theorem d_Parser_endRule_21 : decode prog_5_method_14_code 21 = .ok (.aload_n 0, 1) := by decide +kernel
theorem d_Parser_endRule_22 : decode prog_5_method_14_code 22 = .ok (.getfield 21, 3) := by decide +kernel
theorem d_Parser_endRule_25 : decode prog_5_method_14_code 25 = .ok (.getfield 153, 3) := by decide +kernel
theorem d_Parser_endRule_28 : decode prog_5_method_14_code 28 = .ok (.aload_n 0, 1) := by decide +kernel
theorem d_Parser_endRule_29 : decode prog_5_method_14_code 29 = .ok (.getfield 21, 3) := by decide +kernel
theorem d_Parser_endRule_32 : decode prog_5_method_14_code 32 = .ok (.getfield 159, 3) := by decide +kernel
theorem d_Parser_endRule_35 : decode prog_5_method_14_code 35 = .ok (.iastore, 1) := by decide +kernel
theorem d_Parser_endRule_36 : decode prog_5_method_14_code 36 = .ok (.aload_n 0, 1) := by decide +kernel
theorem d_Parser_endRule_37 : decode prog_5_method_14_code 37 = .ok (.getfield 21, 3) := by decide +kernel
theorem d_Parser_endRule_40 : decode prog_5_method_14_code 40 = .ok (.dup, 1) := by decide +kernel
theorem d_Parser_endRule_41 : decode prog_5_method_14_code 41 = .ok (.getfield 153, 3) := by decide +kernel
theorem d_Parser_endRule_44 : decode prog_5_method_14_code 44 = .ok (.iconst 1, 1) := by decide +kernel
theorem d_Parser_endRule_45 : decode prog_5_method_14_code 45 = .ok (.iadd, 1) := by decide +kernel
theorem d_Parser_endRule_46 : decode prog_5_method_14_code 46 = .ok (.putfield 153, 3) := by decide +kernel
theorem d_Parser_endRule_49 : decode prog_5_method_14_code 49 = .ok (.iconst 1, 1) := by decide +kernel
theorem d_Parser_endRule_50 : decode prog_5_method_14_code 50 = .ok (.ireturn, 1) := by decide +kernel
theorem d_Reader_isOwnWord_0 : decode prog_6_method_9_code 0 = .ok (.iconst 0, 1) := by decide +kernel
theorem d_Reader_isOwnWord_1 : decode prog_6_method_9_code 1 = .ok (.istore_n 1, 1) := by decide +kernel
theorem d_Reader_isOwnWord_2 : decode prog_6_method_9_code 2 = .ok (.iload_n 1, 1) := by decide +kernel
theorem d_Reader_isOwnWord_3 : decode prog_6_method_9_code 3 = .ok (.aload_n 0, 1) := by decide +kernel
theorem d_Reader_isOwnWord_4 : decode prog_6_method_9_code 4 = .ok (.getfield 11, 3) := by decide +kernel
theorem d_Reader_isOwnWord_7 : decode prog_6_method_9_code 7 = .ok (.arraylength, 1) := by decide +kernel
theorem d_Reader_isOwnWord_8 : decode prog_6_method_9_code 8 = .ok (.if_icmp .ge 19, 3) := by decide +kernel
theorem d_Reader_isOwnWord_11 : decode prog_6_method_9_code 11 = .ok (.aload_n 0, 1) := by decide +kernel
theorem d_Reader_isOwnWord_12 : decode prog_6_method_9_code 12 = .ok (.iload_n 1, 1) := by decide +kernel
theorem d_Reader_isOwnWord_13 : decode prog_6_method_9_code 13 = .ok (.invokevirtual 69, 3) := by decide +kernel
theorem d_Reader_isOwnWord_16 : decode prog_6_method_9_code 16 = .ok (.ifCond .eq 5, 3) := by decide +kernel
theorem d_Reader_isOwnWord_19 : decode prog_6_method_9_code 19 = .ok (.iconst 1, 1) := by decide +kernel
theorem d_Reader_isOwnWord_20 : decode prog_6_method_9_code 20 = .ok (.ireturn, 1) := by decide +kernel
theorem d_Reader_isOwnWord_21 : decode prog_6_method_9_code 21 = .ok (.iinc 1 1, 3) := by decide +kernel
theorem d_Reader_isOwnWord_24 : decode prog_6_method_9_code 24 = .ok (.goto (-22), 3) := by decide +kernel
theorem d_Reader_isOwnWord_27 : decode prog_6_method_9_code 27 = .ok (.iconst 0, 1) := by decide +kernel
theorem d_Reader_isOwnWord_28 : decode prog_6_method_9_code 28 = .ok (.ireturn, 1) := by decide +kernel
theorem d_Fair_hasName_0 : decode prog_3_method_4_code 0 = .ok (.iconst 0, 1) := by decide +kernel
theorem d_Fair_hasName_1 : decode prog_3_method_4_code 1 = .ok (.istore_n 2, 1) := by decide +kernel
theorem d_Fair_hasName_2 : decode prog_3_method_4_code 2 = .ok (.iload_n 2, 1) := by decide +kernel
theorem d_Fair_hasName_3 : decode prog_3_method_4_code 3 = .ok (.aload_n 0, 1) := by decide +kernel
theorem d_Fair_hasName_4 : decode prog_3_method_4_code 4 = .ok (.getfield 49, 3) := by decide +kernel
theorem d_Fair_hasName_7 : decode prog_3_method_4_code 7 = .ok (.if_icmp .ge 21, 3) := by decide +kernel
theorem d_Fair_hasName_10 : decode prog_3_method_4_code 10 = .ok (.aload_n 0, 1) := by decide +kernel
theorem d_Fair_hasName_11 : decode prog_3_method_4_code 11 = .ok (.getfield 9, 3) := by decide +kernel
theorem d_Fair_hasName_14 : decode prog_3_method_4_code 14 = .ok (.iload_n 2, 1) := by decide +kernel
theorem d_Fair_hasName_15 : decode prog_3_method_4_code 15 = .ok (.iaload, 1) := by decide +kernel
theorem d_Fair_hasName_16 : decode prog_3_method_4_code 16 = .ok (.iload_n 1, 1) := by decide +kernel
theorem d_Fair_hasName_17 : decode prog_3_method_4_code 17 = .ok (.if_icmp .ne 5, 3) := by decide +kernel
theorem d_Fair_hasName_20 : decode prog_3_method_4_code 20 = .ok (.iconst 1, 1) := by decide +kernel
theorem d_Fair_hasName_21 : decode prog_3_method_4_code 21 = .ok (.ireturn, 1) := by decide +kernel
theorem d_Fair_hasName_22 : decode prog_3_method_4_code 22 = .ok (.iinc 2 1, 3) := by decide +kernel
theorem d_Fair_hasName_25 : decode prog_3_method_4_code 25 = .ok (.goto (-23), 3) := by decide +kernel
theorem d_Fair_hasName_28 : decode prog_3_method_4_code 28 = .ok (.iconst 0, 1) := by decide +kernel
theorem d_Fair_hasName_29 : decode prog_3_method_4_code 29 = .ok (.istore_n 2, 1) := by decide +kernel
theorem d_Fair_hasName_30 : decode prog_3_method_4_code 30 = .ok (.iload_n 2, 1) := by decide +kernel
theorem d_Fair_hasName_31 : decode prog_3_method_4_code 31 = .ok (.aload_n 0, 1) := by decide +kernel
theorem d_Fair_hasName_32 : decode prog_3_method_4_code 32 = .ok (.getfield 52, 3) := by decide +kernel
theorem d_Fair_hasName_35 : decode prog_3_method_4_code 35 = .ok (.if_icmp .ge 21, 3) := by decide +kernel
theorem d_Fair_hasName_38 : decode prog_3_method_4_code 38 = .ok (.aload_n 0, 1) := by decide +kernel
theorem d_Fair_hasName_39 : decode prog_3_method_4_code 39 = .ok (.getfield 18, 3) := by decide +kernel
theorem d_Fair_hasName_42 : decode prog_3_method_4_code 42 = .ok (.iload_n 2, 1) := by decide +kernel
theorem d_Fair_hasName_43 : decode prog_3_method_4_code 43 = .ok (.iaload, 1) := by decide +kernel
theorem d_Fair_hasName_44 : decode prog_3_method_4_code 44 = .ok (.iload_n 1, 1) := by decide +kernel
theorem d_Fair_hasName_45 : decode prog_3_method_4_code 45 = .ok (.if_icmp .ne 5, 3) := by decide +kernel
theorem d_Fair_hasName_48 : decode prog_3_method_4_code 48 = .ok (.iconst 1, 1) := by decide +kernel
theorem d_Fair_hasName_49 : decode prog_3_method_4_code 49 = .ok (.ireturn, 1) := by decide +kernel
theorem d_Fair_hasName_50 : decode prog_3_method_4_code 50 = .ok (.iinc 2 1, 3) := by decide +kernel
theorem d_Fair_hasName_53 : decode prog_3_method_4_code 53 = .ok (.goto (-23), 3) := by decide +kernel
theorem d_Fair_hasName_56 : decode prog_3_method_4_code 56 = .ok (.iconst 0, 1) := by decide +kernel
theorem d_Fair_hasName_57 : decode prog_3_method_4_code 57 = .ok (.ireturn, 1) := by decide +kernel
theorem d_Parser_passName_0 : decode prog_5_method_7_code 0 = .ok (.aload_n 0, 1) := by decide +kernel
theorem d_Parser_passName_1 : decode prog_5_method_7_code 1 = .ok (.getfield 12, 3) := by decide +kernel
theorem d_Parser_passName_4 : decode prog_5_method_7_code 4 = .ok (.getfield 39, 3) := by decide +kernel
theorem d_Parser_passName_7 : decode prog_5_method_7_code 7 = .ok (.iconst 1, 1) := by decide +kernel
theorem d_Parser_passName_8 : decode prog_5_method_7_code 8 = .ok (.if_icmp .ne 19, 3) := by decide +kernel
theorem d_Parser_passName_11 : decode prog_5_method_7_code 11 = .ok (.aload_n 0, 1) := by decide +kernel
theorem d_Parser_passName_12 : decode prog_5_method_7_code 12 = .ok (.getfield 12, 3) := by decide +kernel
theorem d_Parser_passName_15 : decode prog_5_method_7_code 15 = .ok (.getfield 73, 3) := by decide +kernel
theorem d_Parser_passName_18 : decode prog_5_method_7_code 18 = .ok (.bipush 6, 2) := by decide +kernel
theorem d_Parser_passName_20 : decode prog_5_method_7_code 20 = .ok (.if_icmp .gt 7, 3) := by decide +kernel
theorem d_Parser_passName_23 : decode prog_5_method_7_code 23 = .ok (.iconst 1, 1) := by decide +kernel
theorem d_Parser_passName_24 : decode prog_5_method_7_code 24 = .ok (.goto 4, 3) := by decide +kernel
theorem d_Parser_passName_27 : decode prog_5_method_7_code 27 = .ok (.iconst 0, 1) := by decide +kernel
theorem d_Parser_passName_28 : decode prog_5_method_7_code 28 = .ok (.istore_n 1, 1) := by decide +kernel
theorem d_Parser_passName_29 : decode prog_5_method_7_code 29 = .ok (.aload_n 0, 1) := by decide +kernel
theorem d_Parser_passName_30 : decode prog_5_method_7_code 30 = .ok (.getfield 12, 3) := by decide +kernel
theorem d_Parser_passName_33 : decode prog_5_method_7_code 33 = .ok (.getfield 39, 3) := by decide +kernel
theorem d_Parser_passName_36 : decode prog_5_method_7_code 36 = .ok (.iconst 1, 1) := by decide +kernel
theorem d_Parser_passName_37 : decode prog_5_method_7_code 37 = .ok (.if_icmp .ne 25, 3) := by decide +kernel
theorem d_Parser_passName_40 : decode prog_5_method_7_code 40 = .ok (.iload_n 1, 1) := by decide +kernel
theorem d_Parser_passName_41 : decode prog_5_method_7_code 41 = .ok (.ifCond .ne 21, 3) := by decide +kernel
theorem d_Parser_passName_44 : decode prog_5_method_7_code 44 = .ok (.aload_n 0, 1) := by decide +kernel
theorem d_Parser_passName_45 : decode prog_5_method_7_code 45 = .ok (.iconst 1, 1) := by decide +kernel
theorem d_Parser_passName_46 : decode prog_5_method_7_code 46 = .ok (.aload_n 0, 1) := by decide +kernel
theorem d_Parser_passName_47 : decode prog_5_method_7_code 47 = .ok (.getfield 12, 3) := by decide +kernel
theorem d_Parser_passName_50 : decode prog_5_method_7_code 50 = .ok (.getfield 45, 3) := by decide +kernel
theorem d_Parser_passName_53 : decode prog_5_method_7_code 53 = .ok (.bipush 6, 2) := by decide +kernel
theorem d_Parser_passName_55 : decode prog_5_method_7_code 55 = .ok (.iadd, 1) := by decide +kernel
theorem d_Parser_passName_56 : decode prog_5_method_7_code 56 = .ok (.invokevirtual 48, 3) := by decide +kernel
theorem d_Parser_passName_59 : decode prog_5_method_7_code 59 = .ok (.pop, 1) := by decide +kernel
theorem d_Parser_passName_60 : decode prog_5_method_7_code 60 = .ok (.iconst (-1), 1) := by decide +kernel
theorem d_Parser_passName_61 : decode prog_5_method_7_code 61 = .ok (.ireturn, 1) := by decide +kernel
theorem d_Parser_passName_62 : decode prog_5_method_7_code 62 = .ok (.iload_n 1, 1) := by decide +kernel
theorem d_Parser_passName_63 : decode prog_5_method_7_code 63 = .ok (.ifCond .eq 13, 3) := by decide +kernel
theorem d_Parser_passName_66 : decode prog_5_method_7_code 66 = .ok (.aload_n 0, 1) := by decide +kernel
theorem d_Parser_passName_67 : decode prog_5_method_7_code 67 = .ok (.getfield 12, 3) := by decide +kernel
theorem d_Parser_passName_70 : decode prog_5_method_7_code 70 = .ok (.invokevirtual 76, 3) := by decide +kernel
theorem d_Parser_passName_73 : decode prog_5_method_7_code 73 = .ok (.ifCond .eq 10, 3) := by decide +kernel
theorem d_Parser_passName_76 : decode prog_5_method_7_code 76 = .ok (.aload_n 0, 1) := by decide +kernel
theorem d_Parser_passName_77 : decode prog_5_method_7_code 77 = .ok (.invokevirtual 63, 3) := by decide +kernel
theorem d_Parser_passName_80 : decode prog_5_method_7_code 80 = .ok (.pop, 1) := by decide +kernel
theorem d_Parser_passName_81 : decode prog_5_method_7_code 81 = .ok (.iconst (-1), 1) := by decide +kernel
theorem d_Parser_passName_82 : decode prog_5_method_7_code 82 = .ok (.ireturn, 1) := by decide +kernel
theorem d_Parser_passName_83 : decode prog_5_method_7_code 83 = .ok (.aload_n 0, 1) := by decide +kernel
theorem d_Parser_passName_84 : decode prog_5_method_7_code 84 = .ok (.getfield 12, 3) := by decide +kernel
theorem d_Parser_passName_87 : decode prog_5_method_7_code 87 = .ok (.getfield 79, 3) := by decide +kernel
theorem d_Parser_passName_90 : decode prog_5_method_7_code 90 = .ok (.istore_n 2, 1) := by decide +kernel
theorem d_Parser_passName_91 : decode prog_5_method_7_code 91 = .ok (.aload_n 0, 1) := by decide +kernel
theorem d_Parser_passName_92 : decode prog_5_method_7_code 92 = .ok (.getfield 21, 3) := by decide +kernel
theorem d_Parser_passName_95 : decode prog_5_method_7_code 95 = .ok (.iload_n 2, 1) := by decide +kernel
theorem d_Parser_passName_96 : decode prog_5_method_7_code 96 = .ok (.invokevirtual 82, 3) := by decide +kernel
theorem d_Parser_passName_99 : decode prog_5_method_7_code 99 = .ok (.ifCond .eq 18, 3) := by decide +kernel
theorem d_Parser_passName_102 : decode prog_5_method_7_code 102 = .ok (.aload_n 0, 1) := by decide +kernel
theorem d_Parser_passName_103 : decode prog_5_method_7_code 103 = .ok (.iconst 3, 1) := by decide +kernel
theorem d_Parser_passName_104 : decode prog_5_method_7_code 104 = .ok (.aload_n 0, 1) := by decide +kernel
theorem d_Parser_passName_105 : decode prog_5_method_7_code 105 = .ok (.getfield 12, 3) := by decide +kernel
theorem d_Parser_passName_108 : decode prog_5_method_7_code 108 = .ok (.getfield 45, 3) := by decide +kernel
theorem d_Parser_passName_111 : decode prog_5_method_7_code 111 = .ok (.invokevirtual 48, 3) := by decide +kernel
theorem d_Parser_passName_114 : decode prog_5_method_7_code 114 = .ok (.pop, 1) := by decide +kernel
theorem d_Parser_passName_115 : decode prog_5_method_7_code 115 = .ok (.iconst (-1), 1) := by decide +kernel
theorem d_Parser_passName_116 : decode prog_5_method_7_code 116 = .ok (.ireturn, 1) := by decide +kernel
theorem d_Parser_passName_117 : decode prog_5_method_7_code 117 = .ok (.aload_n 0, 1) := by decide +kernel
theorem d_Parser_passName_118 : decode prog_5_method_7_code 118 = .ok (.getfield 12, 3) := by decide +kernel
theorem d_Parser_passName_121 : decode prog_5_method_7_code 121 = .ok (.invokevirtual 66, 3) := by decide +kernel
theorem d_Parser_passName_124 : decode prog_5_method_7_code 124 = .ok (.iload_n 2, 1) := by decide +kernel
theorem d_Parser_passName_125 : decode prog_5_method_7_code 125 = .ok (.ireturn, 1) := by decide +kernel
theorem d_Parser_readTrier_0 : decode prog_5_method_12_code 0 = .ok (.aload_n 0, 1) := by decide +kernel
theorem d_Parser_readTrier_1 : decode prog_5_method_12_code 1 = .ok (.getfield 21, 3) := by decide +kernel
theorem d_Parser_readTrier_4 : decode prog_5_method_12_code 4 = .ok (.getfield 138, 3) := by decide +kernel
theorem d_Parser_readTrier_7 : decode prog_5_method_12_code 7 = .ok (.istore_n 1, 1) := by decide +kernel
theorem d_Parser_readTrier_8 : decode prog_5_method_12_code 8 = .ok (.iload_n 1, 1) := by decide +kernel
theorem d_Parser_readTrier_9 : decode prog_5_method_12_code 9 = .ok (.bipush 8, 2) := by decide +kernel
theorem d_Parser_readTrier_11 : decode prog_5_method_12_code 11 = .ok (.if_icmp .lt 16, 3) := by decide +kernel
theorem d_Parser_readTrier_14 : decode prog_5_method_12_code 14 = .ok (.aload_n 0, 1) := by decide +kernel
theorem d_Parser_readTrier_15 : decode prog_5_method_12_code 15 = .ok (.iconst 5, 1) := by decide +kernel
theorem d_Parser_readTrier_16 : decode prog_5_method_12_code 16 = .ok (.aload_n 0, 1) := by decide +kernel
theorem d_Parser_readTrier_17 : decode prog_5_method_12_code 17 = .ok (.getfield 12, 3) := by decide +kernel
theorem d_Parser_readTrier_20 : decode prog_5_method_12_code 20 = .ok (.getfield 45, 3) := by decide +kernel
theorem d_Parser_readTrier_23 : decode prog_5_method_12_code 23 = .ok (.invokevirtual 48, 3) := by decide +kernel
theorem d_Parser_readTrier_26 : decode prog_5_method_12_code 26 = .ok (.ireturn, 1) := by decide +kernel
theorem d_Parser_readTrier_27 : decode prog_5_method_12_code 27 = .ok (.aload_n 0, 1) := by decide +kernel
theorem d_Parser_readTrier_28 : decode prog_5_method_12_code 28 = .ok (.getfield 12, 3) := by decide +kernel
theorem d_Parser_readTrier_31 : decode prog_5_method_12_code 31 = .ok (.invokevirtual 66, 3) := by decide +kernel
theorem d_Parser_readTrier_34 : decode prog_5_method_12_code 34 = .ok (.aload_n 0, 1) := by decide +kernel
theorem d_Parser_readTrier_35 : decode prog_5_method_12_code 35 = .ok (.invokevirtual 125, 3) := by decide +kernel
theorem d_Parser_readTrier_38 : decode prog_5_method_12_code 38 = .ok (.istore_n 2, 1) := by decide +kernel
theorem d_Parser_readTrier_39 : decode prog_5_method_12_code 39 = .ok (.iload_n 2, 1) := by decide +kernel
theorem d_Parser_readTrier_40 : decode prog_5_method_12_code 40 = .ok (.iconst (-1), 1) := by decide +kernel
theorem d_Parser_readTrier_41 : decode prog_5_method_12_code 41 = .ok (.if_icmp .ne 5, 3) := by decide +kernel
theorem d_Parser_readTrier_44 : decode prog_5_method_12_code 44 = .ok (.iconst 0, 1) := by decide +kernel
theorem d_Parser_readTrier_45 : decode prog_5_method_12_code 45 = .ok (.ireturn, 1) := by decide +kernel
theorem d_Parser_readTrier_46 : decode prog_5_method_12_code 46 = .ok (.iconst 0, 1) := by decide +kernel
theorem d_Parser_readTrier_47 : decode prog_5_method_12_code 47 = .ok (.istore_n 3, 1) := by decide +kernel
theorem d_Parser_readTrier_48 : decode prog_5_method_12_code 48 = .ok (.iload_n 3, 1) := by decide +kernel
theorem d_Parser_readTrier_49 : decode prog_5_method_12_code 49 = .ok (.iconst 5, 1) := by decide +kernel
theorem d_Parser_readTrier_50 : decode prog_5_method_12_code 50 = .ok (.if_icmp .ge 61, 3) := by decide +kernel
theorem d_Parser_readTrier_53 : decode prog_5_method_12_code 53 = .ok (.aload_n 0, 1) := by decide +kernel
theorem d_Parser_readTrier_54 : decode prog_5_method_12_code 54 = .ok (.iconst 3, 1) := by decide +kernel
theorem d_Parser_readTrier_55 : decode prog_5_method_12_code 55 = .ok (.iload_n 3, 1) := by decide +kernel
theorem d_Parser_readTrier_56 : decode prog_5_method_12_code 56 = .ok (.iadd, 1) := by decide +kernel
theorem d_Parser_readTrier_57 : decode prog_5_method_12_code 57 = .ok (.invokevirtual 129, 3) := by decide +kernel
theorem d_Parser_readTrier_60 : decode prog_5_method_12_code 60 = .ok (.ifCond .ne 5, 3) := by decide +kernel
theorem d_Parser_readTrier_63 : decode prog_5_method_12_code 63 = .ok (.iconst 0, 1) := by decide +kernel
theorem d_Parser_readTrier_64 : decode prog_5_method_12_code 64 = .ok (.ireturn, 1) := by decide +kernel
theorem d_Parser_readTrier_65 : decode prog_5_method_12_code 65 = .ok (.aload_n 0, 1) := by decide +kernel
theorem d_Parser_readTrier_66 : decode prog_5_method_12_code 66 = .ok (.getstatic 141, 3) := by decide +kernel
theorem d_Parser_readTrier_69 : decode prog_5_method_12_code 69 = .ok (.iload_n 3, 1) := by decide +kernel
theorem d_Parser_readTrier_70 : decode prog_5_method_12_code 70 = .ok (.iaload, 1) := by decide +kernel
theorem d_Parser_readTrier_71 : decode prog_5_method_12_code 71 = .ok (.getstatic 144, 3) := by decide +kernel
theorem d_Parser_readTrier_74 : decode prog_5_method_12_code 74 = .ok (.iload_n 3, 1) := by decide +kernel
theorem d_Parser_readTrier_75 : decode prog_5_method_12_code 75 = .ok (.iaload, 1) := by decide +kernel
theorem d_Parser_readTrier_76 : decode prog_5_method_12_code 76 = .ok (.invokevirtual 115, 3) := by decide +kernel
theorem d_Parser_readTrier_79 : decode prog_5_method_12_code 79 = .ok (.istore 4, 2) := by decide +kernel
theorem d_Parser_readTrier_81 : decode prog_5_method_12_code 81 = .ok (.iload 4, 2) := by decide +kernel
theorem d_Parser_readTrier_83 : decode prog_5_method_12_code 83 = .ok (.iconst (-1), 1) := by decide +kernel
theorem d_Parser_readTrier_84 : decode prog_5_method_12_code 84 = .ok (.if_icmp .ne 5, 3) := by decide +kernel
theorem d_Parser_readTrier_87 : decode prog_5_method_12_code 87 = .ok (.iconst 0, 1) := by decide +kernel
theorem d_Parser_readTrier_88 : decode prog_5_method_12_code 88 = .ok (.ireturn, 1) := by decide +kernel
theorem d_Parser_readTrier_89 : decode prog_5_method_12_code 89 = .ok (.aload_n 0, 1) := by decide +kernel
theorem d_Parser_readTrier_90 : decode prog_5_method_12_code 90 = .ok (.getfield 21, 3) := by decide +kernel
theorem d_Parser_readTrier_93 : decode prog_5_method_12_code 93 = .ok (.getfield 147, 3) := by decide +kernel
theorem d_Parser_readTrier_96 : decode prog_5_method_12_code 96 = .ok (.iload_n 1, 1) := by decide +kernel
theorem d_Parser_readTrier_97 : decode prog_5_method_12_code 97 = .ok (.bipush 6, 2) := by decide +kernel
theorem d_Parser_readTrier_99 : decode prog_5_method_12_code 99 = .ok (.imul, 1) := by decide +kernel
theorem d_Parser_readTrier_100 : decode prog_5_method_12_code 100 = .ok (.iload_n 3, 1) := by decide +kernel
theorem d_Parser_readTrier_101 : decode prog_5_method_12_code 101 = .ok (.iadd, 1) := by decide +kernel
theorem d_Parser_readTrier_102 : decode prog_5_method_12_code 102 = .ok (.iload 4, 2) := by decide +kernel
theorem d_Parser_readTrier_104 : decode prog_5_method_12_code 104 = .ok (.iastore, 1) := by decide +kernel
theorem d_Parser_readTrier_105 : decode prog_5_method_12_code 105 = .ok (.iinc 3 1, 3) := by decide +kernel
theorem d_Parser_readTrier_108 : decode prog_5_method_12_code 108 = .ok (.goto (-60), 3) := by decide +kernel
theorem d_Parser_readTrier_111 : decode prog_5_method_12_code 111 = .ok (.aload_n 0, 1) := by decide +kernel
theorem d_Parser_readTrier_112 : decode prog_5_method_12_code 112 = .ok (.getfield 12, 3) := by decide +kernel
theorem d_Parser_readTrier_115 : decode prog_5_method_12_code 115 = .ok (.bipush 8, 2) := by decide +kernel
theorem d_Parser_readTrier_117 : decode prog_5_method_12_code 117 = .ok (.invokevirtual 69, 3) := by decide +kernel
theorem d_Parser_readTrier_120 : decode prog_5_method_12_code 120 = .ok (.istore_n 3, 1) := by decide +kernel
theorem d_Parser_readTrier_121 : decode prog_5_method_12_code 121 = .ok (.iload_n 3, 1) := by decide +kernel
theorem d_Parser_readTrier_122 : decode prog_5_method_12_code 122 = .ok (.ifCond .eq 10, 3) := by decide +kernel
theorem d_Parser_readTrier_125 : decode prog_5_method_12_code 125 = .ok (.aload_n 0, 1) := by decide +kernel
theorem d_Parser_readTrier_126 : decode prog_5_method_12_code 126 = .ok (.getfield 12, 3) := by decide +kernel
theorem d_Parser_readTrier_129 : decode prog_5_method_12_code 129 = .ok (.invokevirtual 66, 3) := by decide +kernel
theorem d_Parser_readTrier_132 : decode prog_5_method_12_code 132 = .ok (.aload_n 0, 1) := by decide +kernel
theorem d_Parser_readTrier_133 : decode prog_5_method_12_code 133 = .ok (.getfield 21, 3) := by decide +kernel
theorem d_Parser_readTrier_136 : decode prog_5_method_12_code 136 = .ok (.getfield 147, 3) := by decide +kernel
theorem d_Parser_readTrier_139 : decode prog_5_method_12_code 139 = .ok (.iload_n 1, 1) := by decide +kernel
theorem d_Parser_readTrier_140 : decode prog_5_method_12_code 140 = .ok (.bipush 6, 2) := by decide +kernel
theorem d_Parser_readTrier_142 : decode prog_5_method_12_code 142 = .ok (.imul, 1) := by decide +kernel
theorem d_Parser_readTrier_143 : decode prog_5_method_12_code 143 = .ok (.iconst 5, 1) := by decide +kernel
theorem d_Parser_readTrier_144 : decode prog_5_method_12_code 144 = .ok (.iadd, 1) := by decide +kernel
theorem d_Parser_readTrier_145 : decode prog_5_method_12_code 145 = .ok (.iload_n 3, 1) := by decide +kernel
theorem d_Parser_readTrier_146 : decode prog_5_method_12_code 146 = .ok (.ifCond .eq 7, 3) := by decide +kernel
theorem d_Parser_readTrier_149 : decode prog_5_method_12_code 149 = .ok (.iconst 1, 1) := by decide +kernel
theorem d_Parser_readTrier_150 : decode prog_5_method_12_code 150 = .ok (.goto 4, 3) := by decide +kernel
theorem d_Parser_readTrier_153 : decode prog_5_method_12_code 153 = .ok (.iconst 0, 1) := by decide +kernel
theorem d_Parser_readTrier_154 : decode prog_5_method_12_code 154 = .ok (.iastore, 1) := by decide +kernel
theorem d_Parser_readTrier_155 : decode prog_5_method_12_code 155 = .ok (.aload_n 0, 1) := by decide +kernel
theorem d_Parser_readTrier_156 : decode prog_5_method_12_code 156 = .ok (.getfield 21, 3) := by decide +kernel
theorem d_Parser_readTrier_159 : decode prog_5_method_12_code 159 = .ok (.getfield 150, 3) := by decide +kernel
theorem d_Parser_readTrier_162 : decode prog_5_method_12_code 162 = .ok (.iload_n 1, 1) := by decide +kernel
theorem d_Parser_readTrier_163 : decode prog_5_method_12_code 163 = .ok (.iload_n 2, 1) := by decide +kernel
theorem d_Parser_readTrier_164 : decode prog_5_method_12_code 164 = .ok (.iastore, 1) := by decide +kernel
theorem d_Parser_readTrier_165 : decode prog_5_method_12_code 165 = .ok (.aload_n 0, 1) := by decide +kernel
theorem d_Parser_readTrier_166 : decode prog_5_method_12_code 166 = .ok (.getfield 21, 3) := by decide +kernel
theorem d_Parser_readTrier_169 : decode prog_5_method_12_code 169 = .ok (.dup, 1) := by decide +kernel
theorem d_Parser_readTrier_170 : decode prog_5_method_12_code 170 = .ok (.getfield 138, 3) := by decide +kernel
theorem d_Parser_readTrier_173 : decode prog_5_method_12_code 173 = .ok (.iconst 1, 1) := by decide +kernel
theorem d_Parser_readTrier_174 : decode prog_5_method_12_code 174 = .ok (.iadd, 1) := by decide +kernel
theorem d_Parser_readTrier_175 : decode prog_5_method_12_code 175 = .ok (.putfield 138, 3) := by decide +kernel
theorem d_Parser_readTrier_178 : decode prog_5_method_12_code 178 = .ok (.iconst 1, 1) := by decide +kernel
theorem d_Parser_readTrier_179 : decode prog_5_method_12_code 179 = .ok (.ireturn, 1) := by decide +kernel
theorem d_Parser_readMark_0 : decode prog_5_method_11_code 0 = .ok (.aload_n 0, 1) := by decide +kernel
theorem d_Parser_readMark_1 : decode prog_5_method_11_code 1 = .ok (.getfield 21, 3) := by decide +kernel
theorem d_Parser_readMark_4 : decode prog_5_method_11_code 4 = .ok (.getfield 122, 3) := by decide +kernel
theorem d_Parser_readMark_7 : decode prog_5_method_11_code 7 = .ok (.istore_n 1, 1) := by decide +kernel
theorem d_Parser_readMark_8 : decode prog_5_method_11_code 8 = .ok (.iload_n 1, 1) := by decide +kernel
theorem d_Parser_readMark_9 : decode prog_5_method_11_code 9 = .ok (.bipush 6, 2) := by decide +kernel
theorem d_Parser_readMark_11 : decode prog_5_method_11_code 11 = .ok (.if_icmp .lt 16, 3) := by decide +kernel
theorem d_Parser_readMark_14 : decode prog_5_method_11_code 14 = .ok (.aload_n 0, 1) := by decide +kernel
theorem d_Parser_readMark_15 : decode prog_5_method_11_code 15 = .ok (.iconst 5, 1) := by decide +kernel
theorem d_Parser_readMark_16 : decode prog_5_method_11_code 16 = .ok (.aload_n 0, 1) := by decide +kernel
theorem d_Parser_readMark_17 : decode prog_5_method_11_code 17 = .ok (.getfield 12, 3) := by decide +kernel
theorem d_Parser_readMark_20 : decode prog_5_method_11_code 20 = .ok (.getfield 45, 3) := by decide +kernel
theorem d_Parser_readMark_23 : decode prog_5_method_11_code 23 = .ok (.invokevirtual 48, 3) := by decide +kernel
theorem d_Parser_readMark_26 : decode prog_5_method_11_code 26 = .ok (.ireturn, 1) := by decide +kernel
theorem d_Parser_readMark_27 : decode prog_5_method_11_code 27 = .ok (.aload_n 0, 1) := by decide +kernel
theorem d_Parser_readMark_28 : decode prog_5_method_11_code 28 = .ok (.getfield 12, 3) := by decide +kernel
theorem d_Parser_readMark_31 : decode prog_5_method_11_code 31 = .ok (.invokevirtual 66, 3) := by decide +kernel
theorem d_Parser_readMark_34 : decode prog_5_method_11_code 34 = .ok (.aload_n 0, 1) := by decide +kernel
theorem d_Parser_readMark_35 : decode prog_5_method_11_code 35 = .ok (.invokevirtual 125, 3) := by decide +kernel
theorem d_Parser_readMark_38 : decode prog_5_method_11_code 38 = .ok (.istore_n 2, 1) := by decide +kernel
theorem d_Parser_readMark_39 : decode prog_5_method_11_code 39 = .ok (.iload_n 2, 1) := by decide +kernel
theorem d_Parser_readMark_40 : decode prog_5_method_11_code 40 = .ok (.iconst (-1), 1) := by decide +kernel
theorem d_Parser_readMark_41 : decode prog_5_method_11_code 41 = .ok (.if_icmp .eq 11, 3) := by decide +kernel
theorem d_Parser_readMark_44 : decode prog_5_method_11_code 44 = .ok (.aload_n 0, 1) := by decide +kernel
theorem d_Parser_readMark_45 : decode prog_5_method_11_code 45 = .ok (.iconst 1, 1) := by decide +kernel
theorem d_Parser_readMark_46 : decode prog_5_method_11_code 46 = .ok (.invokevirtual 129, 3) := by decide +kernel
theorem d_Parser_readMark_49 : decode prog_5_method_11_code 49 = .ok (.ifCond .ne 5, 3) := by decide +kernel
theorem d_Parser_readMark_52 : decode prog_5_method_11_code 52 = .ok (.iconst 0, 1) := by decide +kernel
theorem d_Parser_readMark_53 : decode prog_5_method_11_code 53 = .ok (.ireturn, 1) := by decide +kernel
theorem d_Parser_readMark_54 : decode prog_5_method_11_code 54 = .ok (.aload_n 0, 1) := by decide +kernel
theorem d_Parser_readMark_55 : decode prog_5_method_11_code 55 = .ok (.iconst 1, 1) := by decide +kernel
theorem d_Parser_readMark_56 : decode prog_5_method_11_code 56 = .ok (.bipush 99, 2) := by decide +kernel
theorem d_Parser_readMark_58 : decode prog_5_method_11_code 58 = .ok (.invokevirtual 115, 3) := by decide +kernel
theorem d_Parser_readMark_61 : decode prog_5_method_11_code 61 = .ok (.istore_n 3, 1) := by decide +kernel
theorem d_Parser_readMark_62 : decode prog_5_method_11_code 62 = .ok (.iload_n 3, 1) := by decide +kernel
theorem d_Parser_readMark_63 : decode prog_5_method_11_code 63 = .ok (.iconst (-1), 1) := by decide +kernel
theorem d_Parser_readMark_64 : decode prog_5_method_11_code 64 = .ok (.if_icmp .ne 5, 3) := by decide +kernel
theorem d_Parser_readMark_67 : decode prog_5_method_11_code 67 = .ok (.iconst 0, 1) := by decide +kernel
theorem d_Parser_readMark_68 : decode prog_5_method_11_code 68 = .ok (.ireturn, 1) := by decide +kernel
theorem d_Parser_readMark_69 : decode prog_5_method_11_code 69 = .ok (.aload_n 0, 1) := by decide +kernel
theorem d_Parser_readMark_70 : decode prog_5_method_11_code 70 = .ok (.getfield 21, 3) := by decide +kernel
theorem d_Parser_readMark_73 : decode prog_5_method_11_code 73 = .ok (.getfield 132, 3) := by decide +kernel
theorem d_Parser_readMark_76 : decode prog_5_method_11_code 76 = .ok (.iload_n 1, 1) := by decide +kernel
theorem d_Parser_readMark_77 : decode prog_5_method_11_code 77 = .ok (.iload_n 2, 1) := by decide +kernel
theorem d_Parser_readMark_78 : decode prog_5_method_11_code 78 = .ok (.iastore, 1) := by decide +kernel
theorem d_Parser_readMark_79 : decode prog_5_method_11_code 79 = .ok (.aload_n 0, 1) := by decide +kernel
theorem d_Parser_readMark_80 : decode prog_5_method_11_code 80 = .ok (.getfield 21, 3) := by decide +kernel
theorem d_Parser_readMark_83 : decode prog_5_method_11_code 83 = .ok (.getfield 135, 3) := by decide +kernel
theorem d_Parser_readMark_86 : decode prog_5_method_11_code 86 = .ok (.iload_n 1, 1) := by decide +kernel
theorem d_Parser_readMark_87 : decode prog_5_method_11_code 87 = .ok (.iload_n 3, 1) := by decide +kernel
theorem d_Parser_readMark_88 : decode prog_5_method_11_code 88 = .ok (.iastore, 1) := by decide +kernel
theorem d_Parser_readMark_89 : decode prog_5_method_11_code 89 = .ok (.aload_n 0, 1) := by decide +kernel
theorem d_Parser_readMark_90 : decode prog_5_method_11_code 90 = .ok (.getfield 21, 3) := by decide +kernel
theorem d_Parser_readMark_93 : decode prog_5_method_11_code 93 = .ok (.dup, 1) := by decide +kernel
theorem d_Parser_readMark_94 : decode prog_5_method_11_code 94 = .ok (.getfield 122, 3) := by decide +kernel
theorem d_Parser_readMark_97 : decode prog_5_method_11_code 97 = .ok (.iconst 1, 1) := by decide +kernel
theorem d_Parser_readMark_98 : decode prog_5_method_11_code 98 = .ok (.iadd, 1) := by decide +kernel
theorem d_Parser_readMark_99 : decode prog_5_method_11_code 99 = .ok (.putfield 122, 3) := by decide +kernel
theorem d_Parser_readMark_102 : decode prog_5_method_11_code 102 = .ok (.iconst 1, 1) := by decide +kernel
theorem d_Parser_readMark_103 : decode prog_5_method_11_code 103 = .ok (.ireturn, 1) := by decide +kernel
def f_Parser_readPart_128b (kS : Int32 → St → Option (Int32 × St)) (k128 : Int32 → St → Option (Int32 × St)) (x2 : Int32) (σ : St) : Option (Int32 × St) :=
  if 6 ≤ x2 then
    bd (f_Parser_tellWrong σ) fun r_2 σ_3 =>
    gd (isB r_2) <|
    some (r_2, σ_3)
  else
    gd (inB x2 6) <|
    bp (f_Reader_isWord (stV 6 x2) σ) fun r_7 =>
    if r_7 = 0 then
      lt ((x2 + 1)) fun x_8 =>
      k128 x_8 σ
    else
      bp (f_Reader_step σ) fun σ_10 =>
      bp (f_Fair_emit (10000 + x2) σ_10) fun σ_12 =>
      some (1, σ_12)
def f_Parser_readPart_128 (kS : Int32 → St → Option (Int32 × St)) : Nat → Int32 → St → Option (Int32 × St)
  | 0 => fun _ _ => none
  | n + 1 => f_Parser_readPart_128b kS  (f_Parser_readPart_128 kS  n)
def f_Parser_readPart (kS : Int32 → St → Option (Int32 × St)) (x1 : Int32) (σ : St) : Option (Int32 × St) :=
  if (sI σ 8) = 2 then
    bd (f_Parser_passNumber 0 9999 σ) fun r_25 σ_26 =>
    bp (f_Fair_emit r_25 σ_26) fun σ_28 =>
    if r_25 = (-1) then
      some (0, σ_28)
    else
      some (1, σ_28)
  else
    bp (f_Reader_isSign 40 σ) fun r_2 =>
    if r_2 = 0 then
      bp (f_Reader_isWord 25 σ) fun r_4 =>
      if r_4 = 0 then
        bp (f_Reader_isWord 26 σ) fun r_6 =>
        if r_6 = 0 then
          f_Parser_readPart_128 kS FU 0 σ
        else
          bd (f_Parser_readPair kS x1 10021 σ) fun r_8 σ_9 =>
          gd (isB r_8) <|
          some (r_8, σ_9)
      else
        bd (f_Parser_readPair kS x1 10020 σ) fun r_12 σ_13 =>
        gd (isB r_12) <|
        some (r_12, σ_13)
    else
      bd (f_Parser_passOpener x1 σ) fun r_16 σ_17 =>
      if r_16 = 0 then
        some (0, σ_17)
      else
        bd (kS (x1 + 1) σ_17) fun r_19 σ_20 =>
        if r_19 = 0 then
          some (0, σ_20)
        else
          bd (f_Parser_passSign 41 σ_20) fun r_22 σ_23 =>
          if r_22 = 0 then
            some (0, σ_23)
          else
            some (1, σ_23)
set_option maxHeartbeats 4000000 in
set_option maxRecDepth 20000 in
theorem t_Parser_readPart_128b {r : Int32} {σ2 : St} (C : Cx g A p s m av meth c prog_5_method_22_code 3 "BellHammer$Parser" (some .boolean)) {nk : Nat} (hnk : 3 ≤ nk) {kS : Int32 → St → Option (Int32 × St)} (hkS : ∀ (a0 : Int32) (σ : St) (r : Int32) (σ2 : St), kS a0 σ = some (r, σ2) → KK l y_Parser_readSum prog_5_method_20_code 4 (some .boolean) nk g (wX g (qt q)) σ [.ref (qt q 3), .int a0] (some (.int r)) (wX g (qt q)) σ2) {k128 : Int32 → St → Option (Int32 × St)} (hk128 : ∀ (x2 : Int32) (σ : St) (H : Heap) (locs : List Loc) (ls : Array Slot), k128 x2 σ = some (r, σ2) → Wd g (wX g (qt q)) A s σ H locs → lv_has ls 3 [(0, .ref (qt q 3)), (2, .int x2)] → WK p l e s m av below meth c (nk + 2) g (wX g (qt q)) A (some (.int r)) σ2 H locs (F0 m 128 ls []))  {x2 : Int32} {σ : St} {H : Heap} {locs : List Loc} {ls : Array Slot} (hf : f_Parser_readPart_128b kS k128 x2 σ = some (r, σ2)) (w : Wd g (wX g (qt q)) A s σ H locs) (hl : lv_has ls 3 [(0, .ref (qt q 3)), (2, .int x2)]) : WK p l e s m av below meth c (nk + 2) g (wX g (qt q)) A (some (.int r)) σ2 H locs (F0 m 128 ls []) := by
  obtain ⟨hx, hb, hml, hown, hts, hK, hA, hZ, hlocks, hr, hN⟩ := id C
  unfold f_Parser_readPart_128b at hf
  refine lv_iload_n hx hb d_Parser_readPart_128 rfl (lv_at hl 1 rfl) ?_
  refine r_gets C w 6 rfl k688 d_Parser_readPart_129 ?_
  refine r_slen C w 6 rfl (v := 6) rfl d_Parser_readPart_132 ?_
  refine lv_icmp_ge (tgt := 178) hx hb d_Parser_readPart_133 (by decide) (fun cd => ?_) (fun cd => ?_)
  · have hf := it_e cd hf
    refine lv_aload_n hx hb d_Parser_readPart_178 rfl (lv_at hl 0 rfl) ?_
    obtain ⟨r_2, σ_3, h_1, hf⟩ := bd_e hf
    refine k_callV (As := []) (rest := []) C w (c_Parser_tellWrong (q := qt q) h_1) cv_Parser_tellWrong k616 (xr_3 C w) (by omega) hl.1 rfl (Nat.le_of_ble_eq_true rfl) d_Parser_readPart_179 (fun H locs w => ?_)
    show WK p l e s m av below meth c (nk + 2) g (wX g (qt q)) A (some (.int r)) σ2 H locs (F0 m 182 ls [.int r_2])
    obtain ⟨g_4, hf⟩ := gd_e hf
    obtain ⟨rfl, rfl⟩ := some2_e hf
    exact k_zret C w g_4 d_Parser_readPart_182
  · have hf := if_e cd hf
    refine lv_aload_n hx hb d_Parser_readPart_136 rfl (lv_at hl 0 rfl) ?_
    refine xg_3_reader C w k313 d_Parser_readPart_137 ?_
    refine r_gets C w 6 rfl k688 d_Parser_readPart_140 ?_
    refine lv_iload_n hx hb d_Parser_readPart_143 rfl (lv_at hl 1 rfl) ?_
    obtain ⟨g_5, hf⟩ := gd_e hf
    refine r_sld C w 6 rfl g_5 d_Parser_readPart_144 ?_
    obtain ⟨r_7, h_6, hf⟩ := bp_e hf
    refine k_callV (As := [.int (stV 6 x2)]) (rest := []) C w (c_Reader_isWord (q := qt q) h_6) cv_Reader_isWord k598 (xr_4 C w) (by omega) hl.1 rfl (Nat.le_of_ble_eq_true rfl) d_Parser_readPart_145 (fun H locs w => ?_)
    show WK p l e s m av below meth c (nk + 2) g (wX g (qt q)) A (some (.int r)) σ2 H locs (F0 m 148 ls [.int r_7])
    refine lv_if_eq (tgt := 172) hx hb d_Parser_readPart_148 (by decide) (fun cd => ?_) (fun cd => ?_)
    · have hf := it_e cd hf
      obtain ⟨x_8, ex_8⟩ : ∃ y : Int32, y = (x2 + 1) := ⟨_, rfl⟩
      have hf := lt_e ex_8 hf
      refine lv_iinc (v := x_8) (lv' := [(2, .int x_8), (0, .ref (qt q 3))]) hx hb d_Parser_readPart_172 hl (k := 1) rfl (by rw [ex_8]; rfl) (by decide) rfl (fun ls hl => ?_)
      refine lv_goto (tgt := 128) hx hb d_Parser_readPart_175 (by decide) ?_
      exact hk128 x_8 σ _ _ _ hf w (lv_sub hl [1, 0] rfl)
    · have hf := if_e cd hf
      refine lv_aload_n hx hb d_Parser_readPart_151 rfl (lv_at hl 0 rfl) ?_
      refine xg_3_reader C w k313 d_Parser_readPart_152 ?_
      obtain ⟨σ_10, h_9, hf⟩ := bp_e hf
      refine k_callV (As := []) (rest := []) C w (c_Reader_step (q := q) h_9) cv_Reader_step k606 (xr_4 C w) (by omega) hl.1 rfl (Nat.le_of_ble_eq_true rfl) d_Parser_readPart_155 (fun H locs w => ?_)
      show WK p l e s m av below meth c (nk + 2) g (wX g (qt q)) A (some (.int r)) σ2 H locs (F0 m 158 ls [])
      refine lv_aload_n hx hb d_Parser_readPart_158 rfl (lv_at hl 0 rfl) ?_
      refine xg_3_draft C w k314 d_Parser_readPart_159 ?_
      refine lv_sipush (v := 10000) hx hb d_Parser_readPart_162 (by decide) ?_
      refine lv_iload_n hx hb d_Parser_readPart_165 rfl (lv_at hl 1 rfl) ?_
      refine lv_iadd hx hb d_Parser_readPart_166 ?_
      obtain ⟨σ_12, h_11, hf⟩ := bp_e hf
      refine k_callV (As := [.int (10000 + x2)]) (rest := []) C w (c_Fair_emit (q := qt q) h_11) cv_Fair_emit k660 (xr_6 C w) (by omega) hl.1 rfl (Nat.le_of_ble_eq_true rfl) d_Parser_readPart_167 (fun H locs w => ?_)
      show WK p l e s m av below meth c (nk + 2) g (wX g (qt q)) A (some (.int r)) σ2 H locs (F0 m 170 ls [])
      refine lv_iconst (v := 1) hx hb d_Parser_readPart_170 (by decide) ?_
      obtain ⟨rfl, rfl⟩ := some2_e hf
      exact k_zret C w (by decide) d_Parser_readPart_171
set_option maxHeartbeats 4000000 in
set_option maxRecDepth 20000 in
theorem t_Parser_readPart_128 {r : Int32} {σ2 : St} (C : Cx g A p s m av meth c prog_5_method_22_code 3 "BellHammer$Parser" (some .boolean)) {nk : Nat} (hnk : 3 ≤ nk) {kS : Int32 → St → Option (Int32 × St)} (hkS : ∀ (a0 : Int32) (σ : St) (r : Int32) (σ2 : St), kS a0 σ = some (r, σ2) → KK l y_Parser_readSum prog_5_method_20_code 4 (some .boolean) nk g (wX g (qt q)) σ [.ref (qt q 3), .int a0] (some (.int r)) (wX g (qt q)) σ2)  : ∀ (n : Nat) (x2 : Int32) (σ : St) (H : Heap) (locs : List Loc) (ls : Array Slot), f_Parser_readPart_128 kS  n x2 σ = some (r, σ2) → Wd g (wX g (qt q)) A s σ H locs → lv_has ls 3 [(0, .ref (qt q 3)), (2, .int x2)] → WK p l e s m av below meth c (nk + 2) g (wX g (qt q)) A (some (.int r)) σ2 H locs (F0 m 128 ls []) := by
  intro n
  induction n with
  | zero => intro x2 σ H locs ls hf; exact absurd hf (by intro z; cases z)
  | succ n ih => intro x2 σ H locs ls hf w hl; exact t_Parser_readPart_128b C hnk hkS  ih hf w hl
set_option maxHeartbeats 4000000 in
set_option maxRecDepth 20000 in
theorem c_Parser_readPart {l : Launch} {g : GX} {q : Nat → Nat} {nk : Nat} (hnk : 3 ≤ nk) {kS : Int32 → St → Option (Int32 × St)} (hkS : ∀ (a0 : Int32) (σ : St) (r : Int32) (σ2 : St), kS a0 σ = some (r, σ2) → KK l y_Parser_readSum prog_5_method_20_code 4 (some .boolean) nk g (wX g (qt q)) σ [.ref (qt q 3), .int a0] (some (.int r)) (wX g (qt q)) σ2) {x1 : Int32}  {σ : St} {r : Int32} {σ2 : St} (hf : f_Parser_readPart kS x1 σ = some (r, σ2)) : KK l y_Parser_readPart prog_5_method_22_code 3 (some .boolean) (nk + 2) g (wX g (qt q)) σ [.ref (qt q 3), .int x1] (some (.int r)) (wX g (qt q)) σ2 := by
  refine KK_of (plainFor_of_name (by decide)) (Nat.le_of_ble_eq_true rfl) (fun p e s m below meth c A ls C w hl => ?_)
  have hl : lv_has ls 3 [(0, .ref (qt q 3)), (1, .int x1)] := hl
  obtain ⟨hx, hb, hml, hown, hts, hK, hA, hZ, hlocks, hr, hN⟩ := id C
  unfold f_Parser_readPart at hf
  refine lv_aload_n hx hb d_Parser_readPart_0 rfl (lv_at hl 0 rfl) ?_
  refine xg_3_reader C w k313 d_Parser_readPart_1 ?_
  refine xg_4_kind C w k209 d_Parser_readPart_4 ?_
  refine lv_iconst (v := 2) hx hb d_Parser_readPart_7 (by decide) ?_
  refine lv_icmp_ne (tgt := 39) hx hb d_Parser_readPart_8 (by decide) (fun cd => ?_) (fun cd => ?_)
  · have hf := if_e cd hf
    refine lv_aload_n hx hb d_Parser_readPart_39 rfl (lv_at hl 0 rfl) ?_
    refine xg_3_reader C w k313 d_Parser_readPart_40 ?_
    refine lv_bipush (v := 40) hx hb d_Parser_readPart_43 (by decide) ?_
    obtain ⟨r_2, h_1, hf⟩ := bp_e hf
    refine k_callV (As := [.int 40]) (rest := []) C w (c_Reader_isSign (q := qt q) h_1) cv_Reader_isSign k664 (xr_4 C w) (by omega) hl.1 rfl (Nat.le_of_ble_eq_true rfl) d_Parser_readPart_45 (fun H locs w => ?_)
    show WK p l e s m _ below meth c (nk + 2) g (wX g (qt q)) A (some (.int r)) σ2 H locs (F0 m 48 ls [.int r_2])
    refine lv_if_eq (tgt := 84) hx hb d_Parser_readPart_48 (by decide) (fun cd => ?_) (fun cd => ?_)
    · have hf := it_e cd hf
      refine lv_aload_n hx hb d_Parser_readPart_84 rfl (lv_at hl 0 rfl) ?_
      refine xg_3_reader C w k313 d_Parser_readPart_85 ?_
      refine lv_bipush (v := 25) hx hb d_Parser_readPart_88 (by decide) ?_
      obtain ⟨r_4, h_3, hf⟩ := bp_e hf
      refine k_callV (As := [.int 25]) (rest := []) C w (c_Reader_isWord (q := qt q) h_3) cv_Reader_isWord k598 (xr_4 C w) (by omega) hl.1 rfl (Nat.le_of_ble_eq_true rfl) d_Parser_readPart_90 (fun H locs w => ?_)
      show WK p l e s m _ below meth c (nk + 2) g (wX g (qt q)) A (some (.int r)) σ2 H locs (F0 m 93 ls [.int r_4])
      refine lv_if_eq (tgt := 105) hx hb d_Parser_readPart_93 (by decide) (fun cd => ?_) (fun cd => ?_)
      · have hf := it_e cd hf
        refine lv_aload_n hx hb d_Parser_readPart_105 rfl (lv_at hl 0 rfl) ?_
        refine xg_3_reader C w k313 d_Parser_readPart_106 ?_
        refine lv_bipush (v := 26) hx hb d_Parser_readPart_109 (by decide) ?_
        obtain ⟨r_6, h_5, hf⟩ := bp_e hf
        refine k_callV (As := [.int 26]) (rest := []) C w (c_Reader_isWord (q := qt q) h_5) cv_Reader_isWord k598 (xr_4 C w) (by omega) hl.1 rfl (Nat.le_of_ble_eq_true rfl) d_Parser_readPart_111 (fun H locs w => ?_)
        show WK p l e s m _ below meth c (nk + 2) g (wX g (qt q)) A (some (.int r)) σ2 H locs (F0 m 114 ls [.int r_6])
        refine lv_if_eq (tgt := 126) hx hb d_Parser_readPart_114 (by decide) (fun cd => ?_) (fun cd => ?_)
        · have hf := it_e cd hf
          refine lv_iconst (v := 0) hx hb d_Parser_readPart_126 (by decide) ?_
          refine lv_istore_n (lv' := [(2, .int 0), (0, .ref (qt q 3)), (1, .int x1)]) hx hb d_Parser_readPart_127 rfl hl (by decide) rfl (fun ls hl => ?_)
          exact t_Parser_readPart_128 C hnk hkS  FU 0 σ _ _ _ hf w (lv_sub hl [1, 0] rfl)
        · have hf := if_e cd hf
          refine lv_aload_n hx hb d_Parser_readPart_117 rfl (lv_at hl 0 rfl) ?_
          refine lv_iload_n hx hb d_Parser_readPart_118 rfl (lv_at hl 1 rfl) ?_
          refine lv_sipush (v := 10021) hx hb d_Parser_readPart_119 (by decide) ?_
          obtain ⟨r_8, σ_9, h_7, hf⟩ := bd_e hf
          refine k_callV (As := [.int x1, .int 10021]) (rest := []) C w (c_Parser_readPair (q := q) hnk hkS h_7) cv_Parser_readPair k684 (xr_3 C w) (by omega) hl.1 rfl (Nat.le_of_ble_eq_true rfl) d_Parser_readPart_122 (fun H locs w => ?_)
          show WK p l e s m _ below meth c (nk + 2) g (wX g (qt q)) A (some (.int r)) σ2 H locs (F0 m 125 ls [.int r_8])
          obtain ⟨g_10, hf⟩ := gd_e hf
          obtain ⟨rfl, rfl⟩ := some2_e hf
          exact k_zret C w g_10 d_Parser_readPart_125
      · have hf := if_e cd hf
        refine lv_aload_n hx hb d_Parser_readPart_96 rfl (lv_at hl 0 rfl) ?_
        refine lv_iload_n hx hb d_Parser_readPart_97 rfl (lv_at hl 1 rfl) ?_
        refine lv_sipush (v := 10020) hx hb d_Parser_readPart_98 (by decide) ?_
        obtain ⟨r_12, σ_13, h_11, hf⟩ := bd_e hf
        refine k_callV (As := [.int x1, .int 10020]) (rest := []) C w (c_Parser_readPair (q := q) hnk hkS h_11) cv_Parser_readPair k684 (xr_3 C w) (by omega) hl.1 rfl (Nat.le_of_ble_eq_true rfl) d_Parser_readPart_101 (fun H locs w => ?_)
        show WK p l e s m _ below meth c (nk + 2) g (wX g (qt q)) A (some (.int r)) σ2 H locs (F0 m 104 ls [.int r_12])
        obtain ⟨g_14, hf⟩ := gd_e hf
        obtain ⟨rfl, rfl⟩ := some2_e hf
        exact k_zret C w g_14 d_Parser_readPart_104
    · have hf := if_e cd hf
      refine lv_aload_n hx hb d_Parser_readPart_51 rfl (lv_at hl 0 rfl) ?_
      refine lv_iload_n hx hb d_Parser_readPart_52 rfl (lv_at hl 1 rfl) ?_
      obtain ⟨r_16, σ_17, h_15, hf⟩ := bd_e hf
      refine k_callV (As := [.int x1]) (rest := []) C w (c_Parser_passOpener (q := q) h_15) cv_Parser_passOpener k656 (xr_3 C w) (by omega) hl.1 rfl (Nat.le_of_ble_eq_true rfl) d_Parser_readPart_53 (fun H locs w => ?_)
      show WK p l e s m _ below meth c (nk + 2) g (wX g (qt q)) A (some (.int r)) σ2 H locs (F0 m 56 ls [.int r_16])
      refine lv_if_eq (tgt := 82) hx hb d_Parser_readPart_56 (by decide) (fun cd => ?_) (fun cd => ?_)
      · have hf := it_e cd hf
        refine lv_iconst (v := 0) hx hb d_Parser_readPart_82 (by decide) ?_
        obtain ⟨rfl, rfl⟩ := some2_e hf
        exact k_zret C w (by decide) d_Parser_readPart_83
      · have hf := if_e cd hf
        refine lv_aload_n hx hb d_Parser_readPart_59 rfl (lv_at hl 0 rfl) ?_
        refine lv_iload_n hx hb d_Parser_readPart_60 rfl (lv_at hl 1 rfl) ?_
        refine lv_iconst (v := 1) hx hb d_Parser_readPart_61 (by decide) ?_
        refine lv_iadd hx hb d_Parser_readPart_62 ?_
        obtain ⟨r_19, σ_20, h_18, hf⟩ := bd_e hf
        refine k_callV (As := [.int (x1 + 1)]) (rest := []) C w (hkS _ _ _ _ h_18) cv_Parser_readSum k672 (xr_3 C w) (by omega) hl.1 rfl (Nat.le_of_ble_eq_true rfl) d_Parser_readPart_63 (fun H locs w => ?_)
        show WK p l e s m _ below meth c (nk + 2) g (wX g (qt q)) A (some (.int r)) σ2 H locs (F0 m 66 ls [.int r_19])
        refine lv_if_eq (tgt := 82) hx hb d_Parser_readPart_66 (by decide) (fun cd => ?_) (fun cd => ?_)
        · have hf := it_e cd hf
          refine lv_iconst (v := 0) hx hb d_Parser_readPart_82 (by decide) ?_
          obtain ⟨rfl, rfl⟩ := some2_e hf
          exact k_zret C w (by decide) d_Parser_readPart_83
        · have hf := if_e cd hf
          refine lv_aload_n hx hb d_Parser_readPart_69 rfl (lv_at hl 0 rfl) ?_
          refine lv_bipush (v := 41) hx hb d_Parser_readPart_70 (by decide) ?_
          obtain ⟨r_22, σ_23, h_21, hf⟩ := bd_e hf
          refine k_callV (As := [.int 41]) (rest := []) C w (c_Parser_passSign (q := q) h_21) cv_Parser_passSign k668 (xr_3 C w) (by omega) hl.1 rfl (Nat.le_of_ble_eq_true rfl) d_Parser_readPart_72 (fun H locs w => ?_)
          show WK p l e s m _ below meth c (nk + 2) g (wX g (qt q)) A (some (.int r)) σ2 H locs (F0 m 75 ls [.int r_22])
          refine lv_if_eq (tgt := 82) hx hb d_Parser_readPart_75 (by decide) (fun cd => ?_) (fun cd => ?_)
          · have hf := it_e cd hf
            refine lv_iconst (v := 0) hx hb d_Parser_readPart_82 (by decide) ?_
            obtain ⟨rfl, rfl⟩ := some2_e hf
            exact k_zret C w (by decide) d_Parser_readPart_83
          · have hf := if_e cd hf
            refine lv_iconst (v := 1) hx hb d_Parser_readPart_78 (by decide) ?_
            refine lv_goto (tgt := 83) hx hb d_Parser_readPart_79 (by decide) ?_
            obtain ⟨rfl, rfl⟩ := some2_e hf
            exact k_zret C w (by decide) d_Parser_readPart_83
  · have hf := it_e cd hf
    refine lv_aload_n hx hb d_Parser_readPart_11 rfl (lv_at hl 0 rfl) ?_
    refine lv_iconst (v := 0) hx hb d_Parser_readPart_12 (by decide) ?_
    refine lv_sipush (v := 9999) hx hb d_Parser_readPart_13 (by decide) ?_
    obtain ⟨r_25, σ_26, h_24, hf⟩ := bd_e hf
    refine k_callV (As := [.int 0, .int 9999]) (rest := []) C w (c_Parser_passNumber (q := q) h_24) cv_Parser_passNumber k628 (xr_3 C w) (by omega) hl.1 rfl (Nat.le_of_ble_eq_true rfl) d_Parser_readPart_16 (fun H locs w => ?_)
    show WK p l e s m _ below meth c (nk + 2) g (wX g (qt q)) A (some (.int r)) σ2 H locs (F0 m 19 ls [.int r_25])
    refine lv_istore_n (lv' := [(2, .int r_25), (0, .ref (qt q 3)), (1, .int x1)]) hx hb d_Parser_readPart_19 rfl hl (by decide) rfl (fun ls hl => ?_)
    refine lv_aload_n hx hb d_Parser_readPart_20 rfl (lv_at hl 1 rfl) ?_
    refine xg_3_draft C w k314 d_Parser_readPart_21 ?_
    refine lv_iload_n hx hb d_Parser_readPart_24 rfl (lv_at hl 0 rfl) ?_
    obtain ⟨σ_28, h_27, hf⟩ := bp_e hf
    refine k_callV (As := [.int r_25]) (rest := []) C w (c_Fair_emit (q := qt q) h_27) cv_Fair_emit k660 (xr_6 C w) (by omega) hl.1 rfl (Nat.le_of_ble_eq_true rfl) d_Parser_readPart_25 (fun H locs w => ?_)
    show WK p l e s m _ below meth c (nk + 2) g (wX g (qt q)) A (some (.int r)) σ2 H locs (F0 m 28 ls [])
    refine lv_iload_n hx hb d_Parser_readPart_28 rfl (lv_at hl 0 rfl) ?_
    refine lv_iconst (v := (-1)) hx hb d_Parser_readPart_29 (by decide) ?_
    refine lv_icmp_eq (tgt := 37) hx hb d_Parser_readPart_30 (by decide) (fun cd => ?_) (fun cd => ?_)
    · have hf := it_e cd hf
      refine lv_iconst (v := 0) hx hb d_Parser_readPart_37 (by decide) ?_
      obtain ⟨rfl, rfl⟩ := some2_e hf
      exact k_zret C w (by decide) d_Parser_readPart_38
    · have hf := if_e cd hf
      refine lv_iconst (v := 1) hx hb d_Parser_readPart_33 (by decide) ?_
      refine lv_goto (tgt := 38) hx hb d_Parser_readPart_34 (by decide) ?_
      obtain ⟨rfl, rfl⟩ := some2_e hf
      exact k_zret C w (by decide) d_Parser_readPart_38
def f_Parser_readProduct_64 (kS : Int32 → St → Option (Int32 × St)) (k12 : Int32 → Int32 → St → Option (Int32 × St)) (x1 : Int32) (x2 : Int32) (t0 : Int32) (σ : St) : Option (Int32 × St) :=
  bp (f_Reader_step σ) fun σ_2 =>
  bd (f_Parser_readPart kS x1 σ_2) fun r_4 σ_5 =>
  if r_4 = 0 then
    some (0, σ_5)
  else
    bp (f_Fair_emit t0 σ_5) fun σ_7 =>
    lt ((x2 + 1)) fun x_8 =>
    k12 x1 x_8 σ_7
def f_Parser_readProduct_43 (kS : Int32 → St → Option (Int32 × St)) (k12 : Int32 → Int32 → St → Option (Int32 × St)) (x1 : Int32) (x2 : Int32) (σ : St) : Option (Int32 × St) :=
  bp (f_Reader_isSign 42 σ) fun r_2 =>
  if r_2 = 0 then
    f_Parser_readProduct_64 kS k12 x1 x2 10019 σ
  else
    f_Parser_readProduct_64 kS k12 x1 x2 10018 σ
def f_Parser_readProduct_12b (kS : Int32 → St → Option (Int32 × St)) (k12 : Int32 → Int32 → St → Option (Int32 × St)) (x1 : Int32) (x2 : Int32) (σ : St) : Option (Int32 × St) :=
  if 1600 ≤ x2 then
    some (1, σ)
  else
    bp (f_Reader_isSign 42 σ) fun r_2 =>
    if r_2 = 0 then
      bp (f_Reader_isSign 47 σ) fun r_4 =>
      if r_4 = 0 then
        some (1, σ)
      else
        f_Parser_readProduct_43 kS k12 x1 x2 σ
    else
      f_Parser_readProduct_43 kS k12 x1 x2 σ
def f_Parser_readProduct_12 (kS : Int32 → St → Option (Int32 × St)) : Nat → Int32 → Int32 → St → Option (Int32 × St)
  | 0 => fun _ _ _ => none
  | n + 1 => f_Parser_readProduct_12b kS  (f_Parser_readProduct_12 kS  n)
def f_Parser_readProduct (kS : Int32 → St → Option (Int32 × St)) (x1 : Int32) (σ : St) : Option (Int32 × St) :=
  bd (f_Parser_readPart kS x1 σ) fun r_2 σ_3 =>
  if r_2 = 0 then
    some (0, σ_3)
  else
    f_Parser_readProduct_12 kS FU x1 0 σ_3
set_option maxHeartbeats 4000000 in
set_option maxRecDepth 20000 in
theorem t_Parser_readProduct_64 {r : Int32} {σ2 : St} (C : Cx g A p s m av meth c prog_5_method_21_code 4 "BellHammer$Parser" (some .boolean)) {nk : Nat} (hnk : 3 ≤ nk) {kS : Int32 → St → Option (Int32 × St)} (hkS : ∀ (a0 : Int32) (σ : St) (r : Int32) (σ2 : St), kS a0 σ = some (r, σ2) → KK l y_Parser_readSum prog_5_method_20_code 4 (some .boolean) nk g (wX g (qt q)) σ [.ref (qt q 3), .int a0] (some (.int r)) (wX g (qt q)) σ2) {k12 : Int32 → Int32 → St → Option (Int32 × St)} (hk12 : ∀ (x1 : Int32) (x2 : Int32) (σ : St) (H : Heap) (locs : List Loc) (ls : Array Slot), k12 x1 x2 σ = some (r, σ2) → Wd g (wX g (qt q)) A s σ H locs → lv_has ls 4 [(0, .ref (qt q 3)), (1, .int x1), (2, .int x2)] → WK p l e s m av below meth c (nk + 3) g (wX g (qt q)) A (some (.int r)) σ2 H locs (F0 m 12 ls []))  {x1 : Int32} {x2 : Int32} {t0 : Int32} {σ : St} {H : Heap} {locs : List Loc} {ls : Array Slot} (hf : f_Parser_readProduct_64 kS k12 x1 x2 t0 σ = some (r, σ2)) (w : Wd g (wX g (qt q)) A s σ H locs) (hl : lv_has ls 4 [(0, .ref (qt q 3)), (1, .int x1), (2, .int x2)]) : WK p l e s m av below meth c (nk + 3) g (wX g (qt q)) A (some (.int r)) σ2 H locs (F0 m 64 ls [.int t0]) := by
  obtain ⟨hx, hb, hml, hown, hts, hK, hA, hZ, hlocks, hr, hN⟩ := id C
  unfold f_Parser_readProduct_64 at hf
  refine lv_istore_n (lv' := [(3, .int t0), (0, .ref (qt q 3)), (1, .int x1), (2, .int x2)]) hx hb d_Parser_readProduct_64 rfl hl (by decide) rfl (fun ls hl => ?_)
  refine lv_aload_n hx hb d_Parser_readProduct_65 rfl (lv_at hl 1 rfl) ?_
  refine xg_3_reader C w k313 d_Parser_readProduct_66 ?_
  obtain ⟨σ_2, h_1, hf⟩ := bp_e hf
  refine k_callV (As := []) (rest := []) C w (c_Reader_step (q := q) h_1) cv_Reader_step k606 (xr_4 C w) (by omega) hl.1 rfl (Nat.le_of_ble_eq_true rfl) d_Parser_readProduct_69 (fun H locs w => ?_)
  show WK p l e s m av below meth c (nk + 3) g (wX g (qt q)) A (some (.int r)) σ2 H locs (F0 m 72 ls [])
  refine lv_aload_n hx hb d_Parser_readProduct_72 rfl (lv_at hl 1 rfl) ?_
  refine lv_iload_n hx hb d_Parser_readProduct_73 rfl (lv_at hl 2 rfl) ?_
  obtain ⟨r_4, σ_5, h_3, hf⟩ := bd_e hf
  refine k_callV (As := [.int x1]) (rest := []) C w (c_Parser_readPart (q := q) hnk hkS h_3) cv_Parser_readPart k680 (xr_3 C w) (by omega) hl.1 rfl (Nat.le_of_ble_eq_true rfl) d_Parser_readProduct_74 (fun H locs w => ?_)
  show WK p l e s m av below meth c (nk + 3) g (wX g (qt q)) A (some (.int r)) σ2 H locs (F0 m 77 ls [.int r_4])
  refine lv_if_ne (tgt := 82) hx hb d_Parser_readProduct_77 (by decide) (fun cd => ?_) (fun cd => ?_)
  · have hf := if_e cd hf
    refine lv_aload_n hx hb d_Parser_readProduct_82 rfl (lv_at hl 1 rfl) ?_
    refine xg_3_draft C w k314 d_Parser_readProduct_83 ?_
    refine lv_iload_n hx hb d_Parser_readProduct_86 rfl (lv_at hl 0 rfl) ?_
    obtain ⟨σ_7, h_6, hf⟩ := bp_e hf
    refine k_callV (As := [.int t0]) (rest := []) C w (c_Fair_emit (q := qt q) h_6) cv_Fair_emit k660 (xr_6 C w) (by omega) hl.1 rfl (Nat.le_of_ble_eq_true rfl) d_Parser_readProduct_87 (fun H locs w => ?_)
    show WK p l e s m av below meth c (nk + 3) g (wX g (qt q)) A (some (.int r)) σ2 H locs (F0 m 90 ls [])
    obtain ⟨x_8, ex_8⟩ : ∃ y : Int32, y = (x2 + 1) := ⟨_, rfl⟩
    have hf := lt_e ex_8 hf
    refine lv_iinc (v := x_8) (lv' := [(2, .int x_8), (3, .int t0), (0, .ref (qt q 3)), (1, .int x1)]) hx hb d_Parser_readProduct_90 hl (k := 3) rfl (by rw [ex_8]; rfl) (by decide) rfl (fun ls hl => ?_)
    refine lv_goto (tgt := 12) hx hb d_Parser_readProduct_93 (by decide) ?_
    exact hk12 x1 x_8 σ_7 _ _ _ hf w (lv_sub hl [2, 3, 0] rfl)
  · have hf := it_e cd hf
    refine lv_iconst (v := 0) hx hb d_Parser_readProduct_80 (by decide) ?_
    obtain ⟨rfl, rfl⟩ := some2_e hf
    exact k_zret C w (by decide) d_Parser_readProduct_81
set_option maxHeartbeats 4000000 in
set_option maxRecDepth 20000 in
theorem t_Parser_readProduct_43 {r : Int32} {σ2 : St} (C : Cx g A p s m av meth c prog_5_method_21_code 4 "BellHammer$Parser" (some .boolean)) {nk : Nat} (hnk : 3 ≤ nk) {kS : Int32 → St → Option (Int32 × St)} (hkS : ∀ (a0 : Int32) (σ : St) (r : Int32) (σ2 : St), kS a0 σ = some (r, σ2) → KK l y_Parser_readSum prog_5_method_20_code 4 (some .boolean) nk g (wX g (qt q)) σ [.ref (qt q 3), .int a0] (some (.int r)) (wX g (qt q)) σ2) {k12 : Int32 → Int32 → St → Option (Int32 × St)} (hk12 : ∀ (x1 : Int32) (x2 : Int32) (σ : St) (H : Heap) (locs : List Loc) (ls : Array Slot), k12 x1 x2 σ = some (r, σ2) → Wd g (wX g (qt q)) A s σ H locs → lv_has ls 4 [(0, .ref (qt q 3)), (1, .int x1), (2, .int x2)] → WK p l e s m av below meth c (nk + 3) g (wX g (qt q)) A (some (.int r)) σ2 H locs (F0 m 12 ls []))  {x1 : Int32} {x2 : Int32} {σ : St} {H : Heap} {locs : List Loc} {ls : Array Slot} (hf : f_Parser_readProduct_43 kS k12 x1 x2 σ = some (r, σ2)) (w : Wd g (wX g (qt q)) A s σ H locs) (hl : lv_has ls 4 [(0, .ref (qt q 3)), (1, .int x1), (2, .int x2)]) : WK p l e s m av below meth c (nk + 3) g (wX g (qt q)) A (some (.int r)) σ2 H locs (F0 m 43 ls []) := by
  obtain ⟨hx, hb, hml, hown, hts, hK, hA, hZ, hlocks, hr, hN⟩ := id C
  unfold f_Parser_readProduct_43 at hf
  refine lv_aload_n hx hb d_Parser_readProduct_43 rfl (lv_at hl 0 rfl) ?_
  refine xg_3_reader C w k313 d_Parser_readProduct_44 ?_
  refine lv_bipush (v := 42) hx hb d_Parser_readProduct_47 (by decide) ?_
  obtain ⟨r_2, h_1, hf⟩ := bp_e hf
  refine k_callV (As := [.int 42]) (rest := []) C w (c_Reader_isSign (q := qt q) h_1) cv_Reader_isSign k664 (xr_4 C w) (by omega) hl.1 rfl (Nat.le_of_ble_eq_true rfl) d_Parser_readProduct_49 (fun H locs w => ?_)
  show WK p l e s m av below meth c (nk + 3) g (wX g (qt q)) A (some (.int r)) σ2 H locs (F0 m 52 ls [.int r_2])
  refine lv_if_eq (tgt := 61) hx hb d_Parser_readProduct_52 (by decide) (fun cd => ?_) (fun cd => ?_)
  · have hf := it_e cd hf
    refine lv_sipush (v := 10019) hx hb d_Parser_readProduct_61 (by decide) ?_
    exact t_Parser_readProduct_64 C hnk hkS hk12 hf w (lv_sub hl [0, 1, 2] rfl)
  · have hf := if_e cd hf
    refine lv_sipush (v := 10018) hx hb d_Parser_readProduct_55 (by decide) ?_
    refine lv_goto (tgt := 64) hx hb d_Parser_readProduct_58 (by decide) ?_
    exact t_Parser_readProduct_64 C hnk hkS hk12 hf w (lv_sub hl [0, 1, 2] rfl)
set_option maxHeartbeats 4000000 in
set_option maxRecDepth 20000 in
theorem t_Parser_readProduct_12b {r : Int32} {σ2 : St} (C : Cx g A p s m av meth c prog_5_method_21_code 4 "BellHammer$Parser" (some .boolean)) {nk : Nat} (hnk : 3 ≤ nk) {kS : Int32 → St → Option (Int32 × St)} (hkS : ∀ (a0 : Int32) (σ : St) (r : Int32) (σ2 : St), kS a0 σ = some (r, σ2) → KK l y_Parser_readSum prog_5_method_20_code 4 (some .boolean) nk g (wX g (qt q)) σ [.ref (qt q 3), .int a0] (some (.int r)) (wX g (qt q)) σ2) {k12 : Int32 → Int32 → St → Option (Int32 × St)} (hk12 : ∀ (x1 : Int32) (x2 : Int32) (σ : St) (H : Heap) (locs : List Loc) (ls : Array Slot), k12 x1 x2 σ = some (r, σ2) → Wd g (wX g (qt q)) A s σ H locs → lv_has ls 4 [(0, .ref (qt q 3)), (1, .int x1), (2, .int x2)] → WK p l e s m av below meth c (nk + 3) g (wX g (qt q)) A (some (.int r)) σ2 H locs (F0 m 12 ls []))  {x1 : Int32} {x2 : Int32} {σ : St} {H : Heap} {locs : List Loc} {ls : Array Slot} (hf : f_Parser_readProduct_12b kS k12 x1 x2 σ = some (r, σ2)) (w : Wd g (wX g (qt q)) A s σ H locs) (hl : lv_has ls 4 [(0, .ref (qt q 3)), (1, .int x1), (2, .int x2)]) : WK p l e s m av below meth c (nk + 3) g (wX g (qt q)) A (some (.int r)) σ2 H locs (F0 m 12 ls []) := by
  obtain ⟨hx, hb, hml, hown, hts, hK, hA, hZ, hlocks, hr, hN⟩ := id C
  unfold f_Parser_readProduct_12b at hf
  refine lv_iload_n hx hb d_Parser_readProduct_12 rfl (lv_at hl 2 rfl) ?_
  refine lv_sipush (v := 1600) hx hb d_Parser_readProduct_13 (by decide) ?_
  refine lv_icmp_ge (tgt := 96) hx hb d_Parser_readProduct_16 (by decide) (fun cd => ?_) (fun cd => ?_)
  · have hf := it_e cd hf
    refine lv_iconst (v := 1) hx hb d_Parser_readProduct_96 (by decide) ?_
    obtain ⟨rfl, rfl⟩ := some2_e hf
    exact k_zret C w (by decide) d_Parser_readProduct_97
  · have hf := if_e cd hf
    refine lv_aload_n hx hb d_Parser_readProduct_19 rfl (lv_at hl 0 rfl) ?_
    refine xg_3_reader C w k313 d_Parser_readProduct_20 ?_
    refine lv_bipush (v := 42) hx hb d_Parser_readProduct_23 (by decide) ?_
    obtain ⟨r_2, h_1, hf⟩ := bp_e hf
    refine k_callV (As := [.int 42]) (rest := []) C w (c_Reader_isSign (q := qt q) h_1) cv_Reader_isSign k664 (xr_4 C w) (by omega) hl.1 rfl (Nat.le_of_ble_eq_true rfl) d_Parser_readProduct_25 (fun H locs w => ?_)
    show WK p l e s m av below meth c (nk + 3) g (wX g (qt q)) A (some (.int r)) σ2 H locs (F0 m 28 ls [.int r_2])
    refine lv_if_ne (tgt := 43) hx hb d_Parser_readProduct_28 (by decide) (fun cd => ?_) (fun cd => ?_)
    · have hf := if_e cd hf
      exact t_Parser_readProduct_43 C hnk hkS hk12 hf w (lv_sub hl [0, 1, 2] rfl)
    · have hf := it_e cd hf
      refine lv_aload_n hx hb d_Parser_readProduct_31 rfl (lv_at hl 0 rfl) ?_
      refine xg_3_reader C w k313 d_Parser_readProduct_32 ?_
      refine lv_bipush (v := 47) hx hb d_Parser_readProduct_35 (by decide) ?_
      obtain ⟨r_4, h_3, hf⟩ := bp_e hf
      refine k_callV (As := [.int 47]) (rest := []) C w (c_Reader_isSign (q := qt q) h_3) cv_Reader_isSign k664 (xr_4 C w) (by omega) hl.1 rfl (Nat.le_of_ble_eq_true rfl) d_Parser_readProduct_37 (fun H locs w => ?_)
      show WK p l e s m av below meth c (nk + 3) g (wX g (qt q)) A (some (.int r)) σ2 H locs (F0 m 40 ls [.int r_4])
      refine lv_if_eq (tgt := 96) hx hb d_Parser_readProduct_40 (by decide) (fun cd => ?_) (fun cd => ?_)
      · have hf := it_e cd hf
        refine lv_iconst (v := 1) hx hb d_Parser_readProduct_96 (by decide) ?_
        obtain ⟨rfl, rfl⟩ := some2_e hf
        exact k_zret C w (by decide) d_Parser_readProduct_97
      · have hf := if_e cd hf
        exact t_Parser_readProduct_43 C hnk hkS hk12 hf w (lv_sub hl [0, 1, 2] rfl)
set_option maxHeartbeats 4000000 in
set_option maxRecDepth 20000 in
theorem t_Parser_readProduct_12 {r : Int32} {σ2 : St} (C : Cx g A p s m av meth c prog_5_method_21_code 4 "BellHammer$Parser" (some .boolean)) {nk : Nat} (hnk : 3 ≤ nk) {kS : Int32 → St → Option (Int32 × St)} (hkS : ∀ (a0 : Int32) (σ : St) (r : Int32) (σ2 : St), kS a0 σ = some (r, σ2) → KK l y_Parser_readSum prog_5_method_20_code 4 (some .boolean) nk g (wX g (qt q)) σ [.ref (qt q 3), .int a0] (some (.int r)) (wX g (qt q)) σ2)  : ∀ (n : Nat) (x1 : Int32) (x2 : Int32) (σ : St) (H : Heap) (locs : List Loc) (ls : Array Slot), f_Parser_readProduct_12 kS  n x1 x2 σ = some (r, σ2) → Wd g (wX g (qt q)) A s σ H locs → lv_has ls 4 [(0, .ref (qt q 3)), (1, .int x1), (2, .int x2)] → WK p l e s m av below meth c (nk + 3) g (wX g (qt q)) A (some (.int r)) σ2 H locs (F0 m 12 ls []) := by
  intro n
  induction n with
  | zero => intro x1 x2 σ H locs ls hf; exact absurd hf (by intro z; cases z)
  | succ n ih => intro x1 x2 σ H locs ls hf w hl; exact t_Parser_readProduct_12b C hnk hkS  ih hf w hl
set_option maxHeartbeats 4000000 in
set_option maxRecDepth 20000 in
theorem c_Parser_readProduct {l : Launch} {g : GX} {q : Nat → Nat} {nk : Nat} (hnk : 3 ≤ nk) {kS : Int32 → St → Option (Int32 × St)} (hkS : ∀ (a0 : Int32) (σ : St) (r : Int32) (σ2 : St), kS a0 σ = some (r, σ2) → KK l y_Parser_readSum prog_5_method_20_code 4 (some .boolean) nk g (wX g (qt q)) σ [.ref (qt q 3), .int a0] (some (.int r)) (wX g (qt q)) σ2) {x1 : Int32}  {σ : St} {r : Int32} {σ2 : St} (hf : f_Parser_readProduct kS x1 σ = some (r, σ2)) : KK l y_Parser_readProduct prog_5_method_21_code 4 (some .boolean) (nk + 3) g (wX g (qt q)) σ [.ref (qt q 3), .int x1] (some (.int r)) (wX g (qt q)) σ2 := by
  refine KK_of (plainFor_of_name (by decide)) (Nat.le_of_ble_eq_true rfl) (fun p e s m below meth c A ls C w hl => ?_)
  have hl : lv_has ls 4 [(0, .ref (qt q 3)), (1, .int x1)] := hl
  obtain ⟨hx, hb, hml, hown, hts, hK, hA, hZ, hlocks, hr, hN⟩ := id C
  unfold f_Parser_readProduct at hf
  refine lv_aload_n hx hb d_Parser_readProduct_0 rfl (lv_at hl 0 rfl) ?_
  refine lv_iload_n hx hb d_Parser_readProduct_1 rfl (lv_at hl 1 rfl) ?_
  obtain ⟨r_2, σ_3, h_1, hf⟩ := bd_e hf
  refine k_callV (As := [.int x1]) (rest := []) C w (c_Parser_readPart (q := q) hnk hkS h_1) cv_Parser_readPart k680 (xr_3 C w) (by omega) hl.1 rfl (Nat.le_of_ble_eq_true rfl) d_Parser_readProduct_2 (fun H locs w => ?_)
  show WK p l e s m _ below meth c (nk + 3) g (wX g (qt q)) A (some (.int r)) σ2 H locs (F0 m 5 ls [.int r_2])
  refine lv_if_ne (tgt := 10) hx hb d_Parser_readProduct_5 (by decide) (fun cd => ?_) (fun cd => ?_)
  · have hf := if_e cd hf
    refine lv_iconst (v := 0) hx hb d_Parser_readProduct_10 (by decide) ?_
    refine lv_istore_n (lv' := [(2, .int 0), (0, .ref (qt q 3)), (1, .int x1)]) hx hb d_Parser_readProduct_11 rfl hl (by decide) rfl (fun ls hl => ?_)
    exact t_Parser_readProduct_12 C hnk hkS  FU x1 0 σ_3 _ _ _ hf w (lv_sub hl [1, 2, 0] rfl)
  · have hf := it_e cd hf
    refine lv_iconst (v := 0) hx hb d_Parser_readProduct_8 (by decide) ?_
    obtain ⟨rfl, rfl⟩ := some2_e hf
    exact k_zret C w (by decide) d_Parser_readProduct_9
def f_Parser_readSum_64 (kS : Int32 → St → Option (Int32 × St)) (k12 : Int32 → Int32 → St → Option (Int32 × St)) (x1 : Int32) (x2 : Int32) (t0 : Int32) (σ : St) : Option (Int32 × St) :=
  bp (f_Reader_step σ) fun σ_2 =>
  bd (f_Parser_readProduct kS x1 σ_2) fun r_4 σ_5 =>
  if r_4 = 0 then
    some (0, σ_5)
  else
    bp (f_Fair_emit t0 σ_5) fun σ_7 =>
    lt ((x2 + 1)) fun x_8 =>
    k12 x1 x_8 σ_7
def f_Parser_readSum_43 (kS : Int32 → St → Option (Int32 × St)) (k12 : Int32 → Int32 → St → Option (Int32 × St)) (x1 : Int32) (x2 : Int32) (σ : St) : Option (Int32 × St) :=
  bp (f_Reader_isSign 43 σ) fun r_2 =>
  if r_2 = 0 then
    f_Parser_readSum_64 kS k12 x1 x2 10017 σ
  else
    f_Parser_readSum_64 kS k12 x1 x2 10016 σ
def f_Parser_readSum_12b (kS : Int32 → St → Option (Int32 × St)) (k12 : Int32 → Int32 → St → Option (Int32 × St)) (x1 : Int32) (x2 : Int32) (σ : St) : Option (Int32 × St) :=
  if 1600 ≤ x2 then
    some (1, σ)
  else
    bp (f_Reader_isSign 43 σ) fun r_2 =>
    if r_2 = 0 then
      bp (f_Reader_isSign 45 σ) fun r_4 =>
      if r_4 = 0 then
        some (1, σ)
      else
        f_Parser_readSum_43 kS k12 x1 x2 σ
    else
      f_Parser_readSum_43 kS k12 x1 x2 σ
def f_Parser_readSum_12 (kS : Int32 → St → Option (Int32 × St)) : Nat → Int32 → Int32 → St → Option (Int32 × St)
  | 0 => fun _ _ _ => none
  | n + 1 => f_Parser_readSum_12b kS  (f_Parser_readSum_12 kS  n)
def f_Parser_readSumB (kS : Int32 → St → Option (Int32 × St)) (x1 : Int32) (σ : St) : Option (Int32 × St) :=
  bd (f_Parser_readProduct kS x1 σ) fun r_2 σ_3 =>
  if r_2 = 0 then
    some (0, σ_3)
  else
    f_Parser_readSum_12 kS FU x1 0 σ_3
def f_Parser_readSum : Nat → Int32 → St → Option (Int32 × St)
  | 0 => fun _ _ => none
  | d + 1 => f_Parser_readSumB (f_Parser_readSum d)
set_option maxHeartbeats 4000000 in
set_option maxRecDepth 20000 in
theorem t_Parser_readSum_64 {r : Int32} {σ2 : St} (C : Cx g A p s m av meth c prog_5_method_20_code 4 "BellHammer$Parser" (some .boolean)) {nk : Nat} (hnk : 3 ≤ nk) {kS : Int32 → St → Option (Int32 × St)} (hkS : ∀ (a0 : Int32) (σ : St) (r : Int32) (σ2 : St), kS a0 σ = some (r, σ2) → KK l y_Parser_readSum prog_5_method_20_code 4 (some .boolean) nk g (wX g (qt q)) σ [.ref (qt q 3), .int a0] (some (.int r)) (wX g (qt q)) σ2) {k12 : Int32 → Int32 → St → Option (Int32 × St)} (hk12 : ∀ (x1 : Int32) (x2 : Int32) (σ : St) (H : Heap) (locs : List Loc) (ls : Array Slot), k12 x1 x2 σ = some (r, σ2) → Wd g (wX g (qt q)) A s σ H locs → lv_has ls 4 [(0, .ref (qt q 3)), (1, .int x1), (2, .int x2)] → WK p l e s m av below meth c (nk + 5) g (wX g (qt q)) A (some (.int r)) σ2 H locs (F0 m 12 ls []))  {x1 : Int32} {x2 : Int32} {t0 : Int32} {σ : St} {H : Heap} {locs : List Loc} {ls : Array Slot} (hf : f_Parser_readSum_64 kS k12 x1 x2 t0 σ = some (r, σ2)) (w : Wd g (wX g (qt q)) A s σ H locs) (hl : lv_has ls 4 [(0, .ref (qt q 3)), (1, .int x1), (2, .int x2)]) : WK p l e s m av below meth c (nk + 5) g (wX g (qt q)) A (some (.int r)) σ2 H locs (F0 m 64 ls [.int t0]) := by
  obtain ⟨hx, hb, hml, hown, hts, hK, hA, hZ, hlocks, hr, hN⟩ := id C
  unfold f_Parser_readSum_64 at hf
  refine lv_istore_n (lv' := [(3, .int t0), (0, .ref (qt q 3)), (1, .int x1), (2, .int x2)]) hx hb d_Parser_readSum_64 rfl hl (by decide) rfl (fun ls hl => ?_)
  refine lv_aload_n hx hb d_Parser_readSum_65 rfl (lv_at hl 1 rfl) ?_
  refine xg_3_reader C w k313 d_Parser_readSum_66 ?_
  obtain ⟨σ_2, h_1, hf⟩ := bp_e hf
  refine k_callV (As := []) (rest := []) C w (c_Reader_step (q := q) h_1) cv_Reader_step k606 (xr_4 C w) (by omega) hl.1 rfl (Nat.le_of_ble_eq_true rfl) d_Parser_readSum_69 (fun H locs w => ?_)
  show WK p l e s m av below meth c (nk + 5) g (wX g (qt q)) A (some (.int r)) σ2 H locs (F0 m 72 ls [])
  refine lv_aload_n hx hb d_Parser_readSum_72 rfl (lv_at hl 1 rfl) ?_
  refine lv_iload_n hx hb d_Parser_readSum_73 rfl (lv_at hl 2 rfl) ?_
  obtain ⟨r_4, σ_5, h_3, hf⟩ := bd_e hf
  refine k_callV (As := [.int x1]) (rest := []) C w (c_Parser_readProduct (q := q) hnk hkS h_3) cv_Parser_readProduct k676 (xr_3 C w) (by omega) hl.1 rfl (Nat.le_of_ble_eq_true rfl) d_Parser_readSum_74 (fun H locs w => ?_)
  show WK p l e s m av below meth c (nk + 5) g (wX g (qt q)) A (some (.int r)) σ2 H locs (F0 m 77 ls [.int r_4])
  refine lv_if_ne (tgt := 82) hx hb d_Parser_readSum_77 (by decide) (fun cd => ?_) (fun cd => ?_)
  · have hf := if_e cd hf
    refine lv_aload_n hx hb d_Parser_readSum_82 rfl (lv_at hl 1 rfl) ?_
    refine xg_3_draft C w k314 d_Parser_readSum_83 ?_
    refine lv_iload_n hx hb d_Parser_readSum_86 rfl (lv_at hl 0 rfl) ?_
    obtain ⟨σ_7, h_6, hf⟩ := bp_e hf
    refine k_callV (As := [.int t0]) (rest := []) C w (c_Fair_emit (q := qt q) h_6) cv_Fair_emit k660 (xr_6 C w) (by omega) hl.1 rfl (Nat.le_of_ble_eq_true rfl) d_Parser_readSum_87 (fun H locs w => ?_)
    show WK p l e s m av below meth c (nk + 5) g (wX g (qt q)) A (some (.int r)) σ2 H locs (F0 m 90 ls [])
    obtain ⟨x_8, ex_8⟩ : ∃ y : Int32, y = (x2 + 1) := ⟨_, rfl⟩
    have hf := lt_e ex_8 hf
    refine lv_iinc (v := x_8) (lv' := [(2, .int x_8), (3, .int t0), (0, .ref (qt q 3)), (1, .int x1)]) hx hb d_Parser_readSum_90 hl (k := 3) rfl (by rw [ex_8]; rfl) (by decide) rfl (fun ls hl => ?_)
    refine lv_goto (tgt := 12) hx hb d_Parser_readSum_93 (by decide) ?_
    exact hk12 x1 x_8 σ_7 _ _ _ hf w (lv_sub hl [2, 3, 0] rfl)
  · have hf := it_e cd hf
    refine lv_iconst (v := 0) hx hb d_Parser_readSum_80 (by decide) ?_
    obtain ⟨rfl, rfl⟩ := some2_e hf
    exact k_zret C w (by decide) d_Parser_readSum_81
set_option maxHeartbeats 4000000 in
set_option maxRecDepth 20000 in
theorem t_Parser_readSum_43 {r : Int32} {σ2 : St} (C : Cx g A p s m av meth c prog_5_method_20_code 4 "BellHammer$Parser" (some .boolean)) {nk : Nat} (hnk : 3 ≤ nk) {kS : Int32 → St → Option (Int32 × St)} (hkS : ∀ (a0 : Int32) (σ : St) (r : Int32) (σ2 : St), kS a0 σ = some (r, σ2) → KK l y_Parser_readSum prog_5_method_20_code 4 (some .boolean) nk g (wX g (qt q)) σ [.ref (qt q 3), .int a0] (some (.int r)) (wX g (qt q)) σ2) {k12 : Int32 → Int32 → St → Option (Int32 × St)} (hk12 : ∀ (x1 : Int32) (x2 : Int32) (σ : St) (H : Heap) (locs : List Loc) (ls : Array Slot), k12 x1 x2 σ = some (r, σ2) → Wd g (wX g (qt q)) A s σ H locs → lv_has ls 4 [(0, .ref (qt q 3)), (1, .int x1), (2, .int x2)] → WK p l e s m av below meth c (nk + 5) g (wX g (qt q)) A (some (.int r)) σ2 H locs (F0 m 12 ls []))  {x1 : Int32} {x2 : Int32} {σ : St} {H : Heap} {locs : List Loc} {ls : Array Slot} (hf : f_Parser_readSum_43 kS k12 x1 x2 σ = some (r, σ2)) (w : Wd g (wX g (qt q)) A s σ H locs) (hl : lv_has ls 4 [(0, .ref (qt q 3)), (1, .int x1), (2, .int x2)]) : WK p l e s m av below meth c (nk + 5) g (wX g (qt q)) A (some (.int r)) σ2 H locs (F0 m 43 ls []) := by
  obtain ⟨hx, hb, hml, hown, hts, hK, hA, hZ, hlocks, hr, hN⟩ := id C
  unfold f_Parser_readSum_43 at hf
  refine lv_aload_n hx hb d_Parser_readSum_43 rfl (lv_at hl 0 rfl) ?_
  refine xg_3_reader C w k313 d_Parser_readSum_44 ?_
  refine lv_bipush (v := 43) hx hb d_Parser_readSum_47 (by decide) ?_
  obtain ⟨r_2, h_1, hf⟩ := bp_e hf
  refine k_callV (As := [.int 43]) (rest := []) C w (c_Reader_isSign (q := qt q) h_1) cv_Reader_isSign k664 (xr_4 C w) (by omega) hl.1 rfl (Nat.le_of_ble_eq_true rfl) d_Parser_readSum_49 (fun H locs w => ?_)
  show WK p l e s m av below meth c (nk + 5) g (wX g (qt q)) A (some (.int r)) σ2 H locs (F0 m 52 ls [.int r_2])
  refine lv_if_eq (tgt := 61) hx hb d_Parser_readSum_52 (by decide) (fun cd => ?_) (fun cd => ?_)
  · have hf := it_e cd hf
    refine lv_sipush (v := 10017) hx hb d_Parser_readSum_61 (by decide) ?_
    exact t_Parser_readSum_64 C hnk hkS hk12 hf w (lv_sub hl [0, 1, 2] rfl)
  · have hf := if_e cd hf
    refine lv_sipush (v := 10016) hx hb d_Parser_readSum_55 (by decide) ?_
    refine lv_goto (tgt := 64) hx hb d_Parser_readSum_58 (by decide) ?_
    exact t_Parser_readSum_64 C hnk hkS hk12 hf w (lv_sub hl [0, 1, 2] rfl)
set_option maxHeartbeats 4000000 in
set_option maxRecDepth 20000 in
theorem t_Parser_readSum_12b {r : Int32} {σ2 : St} (C : Cx g A p s m av meth c prog_5_method_20_code 4 "BellHammer$Parser" (some .boolean)) {nk : Nat} (hnk : 3 ≤ nk) {kS : Int32 → St → Option (Int32 × St)} (hkS : ∀ (a0 : Int32) (σ : St) (r : Int32) (σ2 : St), kS a0 σ = some (r, σ2) → KK l y_Parser_readSum prog_5_method_20_code 4 (some .boolean) nk g (wX g (qt q)) σ [.ref (qt q 3), .int a0] (some (.int r)) (wX g (qt q)) σ2) {k12 : Int32 → Int32 → St → Option (Int32 × St)} (hk12 : ∀ (x1 : Int32) (x2 : Int32) (σ : St) (H : Heap) (locs : List Loc) (ls : Array Slot), k12 x1 x2 σ = some (r, σ2) → Wd g (wX g (qt q)) A s σ H locs → lv_has ls 4 [(0, .ref (qt q 3)), (1, .int x1), (2, .int x2)] → WK p l e s m av below meth c (nk + 5) g (wX g (qt q)) A (some (.int r)) σ2 H locs (F0 m 12 ls []))  {x1 : Int32} {x2 : Int32} {σ : St} {H : Heap} {locs : List Loc} {ls : Array Slot} (hf : f_Parser_readSum_12b kS k12 x1 x2 σ = some (r, σ2)) (w : Wd g (wX g (qt q)) A s σ H locs) (hl : lv_has ls 4 [(0, .ref (qt q 3)), (1, .int x1), (2, .int x2)]) : WK p l e s m av below meth c (nk + 5) g (wX g (qt q)) A (some (.int r)) σ2 H locs (F0 m 12 ls []) := by
  obtain ⟨hx, hb, hml, hown, hts, hK, hA, hZ, hlocks, hr, hN⟩ := id C
  unfold f_Parser_readSum_12b at hf
  refine lv_iload_n hx hb d_Parser_readSum_12 rfl (lv_at hl 2 rfl) ?_
  refine lv_sipush (v := 1600) hx hb d_Parser_readSum_13 (by decide) ?_
  refine lv_icmp_ge (tgt := 96) hx hb d_Parser_readSum_16 (by decide) (fun cd => ?_) (fun cd => ?_)
  · have hf := it_e cd hf
    refine lv_iconst (v := 1) hx hb d_Parser_readSum_96 (by decide) ?_
    obtain ⟨rfl, rfl⟩ := some2_e hf
    exact k_zret C w (by decide) d_Parser_readSum_97
  · have hf := if_e cd hf
    refine lv_aload_n hx hb d_Parser_readSum_19 rfl (lv_at hl 0 rfl) ?_
    refine xg_3_reader C w k313 d_Parser_readSum_20 ?_
    refine lv_bipush (v := 43) hx hb d_Parser_readSum_23 (by decide) ?_
    obtain ⟨r_2, h_1, hf⟩ := bp_e hf
    refine k_callV (As := [.int 43]) (rest := []) C w (c_Reader_isSign (q := qt q) h_1) cv_Reader_isSign k664 (xr_4 C w) (by omega) hl.1 rfl (Nat.le_of_ble_eq_true rfl) d_Parser_readSum_25 (fun H locs w => ?_)
    show WK p l e s m av below meth c (nk + 5) g (wX g (qt q)) A (some (.int r)) σ2 H locs (F0 m 28 ls [.int r_2])
    refine lv_if_ne (tgt := 43) hx hb d_Parser_readSum_28 (by decide) (fun cd => ?_) (fun cd => ?_)
    · have hf := if_e cd hf
      exact t_Parser_readSum_43 C hnk hkS hk12 hf w (lv_sub hl [0, 1, 2] rfl)
    · have hf := it_e cd hf
      refine lv_aload_n hx hb d_Parser_readSum_31 rfl (lv_at hl 0 rfl) ?_
      refine xg_3_reader C w k313 d_Parser_readSum_32 ?_
      refine lv_bipush (v := 45) hx hb d_Parser_readSum_35 (by decide) ?_
      obtain ⟨r_4, h_3, hf⟩ := bp_e hf
      refine k_callV (As := [.int 45]) (rest := []) C w (c_Reader_isSign (q := qt q) h_3) cv_Reader_isSign k664 (xr_4 C w) (by omega) hl.1 rfl (Nat.le_of_ble_eq_true rfl) d_Parser_readSum_37 (fun H locs w => ?_)
      show WK p l e s m av below meth c (nk + 5) g (wX g (qt q)) A (some (.int r)) σ2 H locs (F0 m 40 ls [.int r_4])
      refine lv_if_eq (tgt := 96) hx hb d_Parser_readSum_40 (by decide) (fun cd => ?_) (fun cd => ?_)
      · have hf := it_e cd hf
        refine lv_iconst (v := 1) hx hb d_Parser_readSum_96 (by decide) ?_
        obtain ⟨rfl, rfl⟩ := some2_e hf
        exact k_zret C w (by decide) d_Parser_readSum_97
      · have hf := if_e cd hf
        exact t_Parser_readSum_43 C hnk hkS hk12 hf w (lv_sub hl [0, 1, 2] rfl)
set_option maxHeartbeats 4000000 in
set_option maxRecDepth 20000 in
theorem t_Parser_readSum_12 {r : Int32} {σ2 : St} (C : Cx g A p s m av meth c prog_5_method_20_code 4 "BellHammer$Parser" (some .boolean)) {nk : Nat} (hnk : 3 ≤ nk) {kS : Int32 → St → Option (Int32 × St)} (hkS : ∀ (a0 : Int32) (σ : St) (r : Int32) (σ2 : St), kS a0 σ = some (r, σ2) → KK l y_Parser_readSum prog_5_method_20_code 4 (some .boolean) nk g (wX g (qt q)) σ [.ref (qt q 3), .int a0] (some (.int r)) (wX g (qt q)) σ2)  : ∀ (n : Nat) (x1 : Int32) (x2 : Int32) (σ : St) (H : Heap) (locs : List Loc) (ls : Array Slot), f_Parser_readSum_12 kS  n x1 x2 σ = some (r, σ2) → Wd g (wX g (qt q)) A s σ H locs → lv_has ls 4 [(0, .ref (qt q 3)), (1, .int x1), (2, .int x2)] → WK p l e s m av below meth c (nk + 5) g (wX g (qt q)) A (some (.int r)) σ2 H locs (F0 m 12 ls []) := by
  intro n
  induction n with
  | zero => intro x1 x2 σ H locs ls hf; exact absurd hf (by intro z; cases z)
  | succ n ih => intro x1 x2 σ H locs ls hf w hl; exact t_Parser_readSum_12b C hnk hkS  ih hf w hl
set_option maxHeartbeats 4000000 in
set_option maxRecDepth 20000 in
theorem c_Parser_readSumB {l : Launch} {g : GX} {q : Nat → Nat} {nk : Nat} (hnk : 3 ≤ nk) {kS : Int32 → St → Option (Int32 × St)} (hkS : ∀ (a0 : Int32) (σ : St) (r : Int32) (σ2 : St), kS a0 σ = some (r, σ2) → KK l y_Parser_readSum prog_5_method_20_code 4 (some .boolean) nk g (wX g (qt q)) σ [.ref (qt q 3), .int a0] (some (.int r)) (wX g (qt q)) σ2) {x1 : Int32}  {σ : St} {r : Int32} {σ2 : St} (hf : f_Parser_readSumB kS x1 σ = some (r, σ2)) : KK l y_Parser_readSum prog_5_method_20_code 4 (some .boolean) (nk + 5) g (wX g (qt q)) σ [.ref (qt q 3), .int x1] (some (.int r)) (wX g (qt q)) σ2 := by
  refine KK_of (plainFor_of_name (by decide)) (Nat.le_of_ble_eq_true rfl) (fun p e s m below meth c A ls C w hl => ?_)
  have hl : lv_has ls 4 [(0, .ref (qt q 3)), (1, .int x1)] := hl
  obtain ⟨hx, hb, hml, hown, hts, hK, hA, hZ, hlocks, hr, hN⟩ := id C
  unfold f_Parser_readSumB at hf
  refine lv_aload_n hx hb d_Parser_readSum_0 rfl (lv_at hl 0 rfl) ?_
  refine lv_iload_n hx hb d_Parser_readSum_1 rfl (lv_at hl 1 rfl) ?_
  obtain ⟨r_2, σ_3, h_1, hf⟩ := bd_e hf
  refine k_callV (As := [.int x1]) (rest := []) C w (c_Parser_readProduct (q := q) hnk hkS h_1) cv_Parser_readProduct k676 (xr_3 C w) (by omega) hl.1 rfl (Nat.le_of_ble_eq_true rfl) d_Parser_readSum_2 (fun H locs w => ?_)
  show WK p l e s m _ below meth c (nk + 5) g (wX g (qt q)) A (some (.int r)) σ2 H locs (F0 m 5 ls [.int r_2])
  refine lv_if_ne (tgt := 10) hx hb d_Parser_readSum_5 (by decide) (fun cd => ?_) (fun cd => ?_)
  · have hf := if_e cd hf
    refine lv_iconst (v := 0) hx hb d_Parser_readSum_10 (by decide) ?_
    refine lv_istore_n (lv' := [(2, .int 0), (0, .ref (qt q 3)), (1, .int x1)]) hx hb d_Parser_readSum_11 rfl hl (by decide) rfl (fun ls hl => ?_)
    exact t_Parser_readSum_12 C hnk hkS  FU x1 0 σ_3 _ _ _ hf w (lv_sub hl [1, 2, 0] rfl)
  · have hf := it_e cd hf
    refine lv_iconst (v := 0) hx hb d_Parser_readSum_8 (by decide) ?_
    obtain ⟨rfl, rfl⟩ := some2_e hf
    exact k_zret C w (by decide) d_Parser_readSum_9
set_option maxHeartbeats 4000000 in
set_option maxRecDepth 20000 in
theorem c_Parser_readSum {l : Launch} {g : GX} {q : Nat → Nat} : ∀ (d : Nat) (x1 : Int32) (σ : St) (r : Int32) (σ2 : St), f_Parser_readSum d x1 σ = some (r, σ2) → KK l y_Parser_readSum prog_5_method_20_code 4 (some .boolean) (3 + 5 * d) g (wX g (qt q)) σ [.ref (qt q 3), .int x1] (some (.int r)) (wX g (qt q)) σ2 := by
  intro d
  induction d with
  | zero => intro x1 σ r σ2 hf; exact absurd hf (by intro z; cases z)
  | succ d ih =>
    intro x1 σ r σ2 hf
    have := c_Parser_readSumB (l := l) (g := g) (q := q) (nk := 3 + 5 * d) (by omega) ih hf
    rw [show 3 + 5 * (d + 1) = 3 + 5 * d + 5 from by omega]
    exact this
def f_Parser_passComparer_66 (x1 : Int32) (σ : St) : Option (Int32 × St) :=
  bp (f_Reader_step σ) fun σ_2 =>
  some (x1, σ_2)
def f_Parser_passComparer_39 (t0 : Int32) (σ : St) : Option (Int32 × St) :=
  if t0 = 10015 then
    bp (f_Reader_isSign 61 σ) fun r_2 =>
    if r_2 = 0 then
      bd (f_Parser_tellWrong σ) fun r_4 σ_5 =>
      some ((-1), σ_5)
    else
      f_Parser_passComparer_66 t0 σ
  else
    f_Parser_passComparer_66 t0 σ
def f_Parser_passComparer (σ : St) : Option (Int32 × St) :=
  bp (f_Reader_isSign 60 σ) fun r_2 =>
  if r_2 = 0 then
    bp (f_Reader_isSign 62 σ) fun r_4 =>
    if r_4 = 0 then
      f_Parser_passComparer_39 10015 σ
    else
      f_Parser_passComparer_39 10014 σ
  else
    f_Parser_passComparer_39 10013 σ
set_option maxHeartbeats 4000000 in
set_option maxRecDepth 20000 in
theorem t_Parser_passComparer_66 {r : Int32} {σ2 : St} (C : Cx g A p s m av meth c prog_5_method_19_code 2 "BellHammer$Parser" (some .int))  {x1 : Int32} {σ : St} {H : Heap} {locs : List Loc} {ls : Array Slot} (hf : f_Parser_passComparer_66   x1 σ = some (r, σ2)) (w : Wd g (wX g (qt q)) A s σ H locs) (hl : lv_has ls 2 [(0, .ref (qt q 3)), (1, .int x1)]) : WK p l e s m av below meth c 2 g (wX g (qt q)) A (some (.int r)) σ2 H locs (F0 m 66 ls []) := by
  obtain ⟨hx, hb, hml, hown, hts, hK, hA, hZ, hlocks, hr, hN⟩ := id C
  unfold f_Parser_passComparer_66 at hf
  refine lv_aload_n hx hb d_Parser_passComparer_66 rfl (lv_at hl 0 rfl) ?_
  refine xg_3_reader C w k313 d_Parser_passComparer_67 ?_
  obtain ⟨σ_2, h_1, hf⟩ := bp_e hf
  refine k_callV (As := []) (rest := []) C w (c_Reader_step (q := q) h_1) cv_Reader_step k606 (xr_4 C w) (by decide) hl.1 rfl (Nat.le_of_ble_eq_true rfl) d_Parser_passComparer_70 (fun H locs w => ?_)
  show WK p l e s m av below meth c 2 g (wX g (qt q)) A (some (.int r)) σ2 H locs (F0 m 73 ls [])
  refine lv_iload_n hx hb d_Parser_passComparer_73 rfl (lv_at hl 1 rfl) ?_
  obtain ⟨rfl, rfl⟩ := some2_e hf
  exact k_iret C w d_Parser_passComparer_74
set_option maxHeartbeats 4000000 in
set_option maxRecDepth 20000 in
theorem t_Parser_passComparer_39 {r : Int32} {σ2 : St} (C : Cx g A p s m av meth c prog_5_method_19_code 2 "BellHammer$Parser" (some .int))  {t0 : Int32} {σ : St} {H : Heap} {locs : List Loc} {ls : Array Slot} (hf : f_Parser_passComparer_39   t0 σ = some (r, σ2)) (w : Wd g (wX g (qt q)) A s σ H locs) (hl : lv_has ls 2 [(0, .ref (qt q 3))]) : WK p l e s m av below meth c 2 g (wX g (qt q)) A (some (.int r)) σ2 H locs (F0 m 39 ls [.int t0]) := by
  obtain ⟨hx, hb, hml, hown, hts, hK, hA, hZ, hlocks, hr, hN⟩ := id C
  unfold f_Parser_passComparer_39 at hf
  refine lv_istore_n (lv' := [(1, .int t0), (0, .ref (qt q 3))]) hx hb d_Parser_passComparer_39 rfl hl (by decide) rfl (fun ls hl => ?_)
  refine lv_iload_n hx hb d_Parser_passComparer_40 rfl (lv_at hl 0 rfl) ?_
  refine lv_sipush (v := 10015) hx hb d_Parser_passComparer_41 (by decide) ?_
  refine lv_icmp_ne (tgt := 66) hx hb d_Parser_passComparer_44 (by decide) (fun cd => ?_) (fun cd => ?_)
  · have hf := if_e cd hf
    exact t_Parser_passComparer_66 C  hf w (lv_sub hl [1, 0] rfl)
  · have hf := it_e cd hf
    refine lv_aload_n hx hb d_Parser_passComparer_47 rfl (lv_at hl 1 rfl) ?_
    refine xg_3_reader C w k313 d_Parser_passComparer_48 ?_
    refine lv_bipush (v := 61) hx hb d_Parser_passComparer_51 (by decide) ?_
    obtain ⟨r_2, h_1, hf⟩ := bp_e hf
    refine k_callV (As := [.int 61]) (rest := []) C w (c_Reader_isSign (q := qt q) h_1) cv_Reader_isSign k664 (xr_4 C w) (by decide) hl.1 rfl (Nat.le_of_ble_eq_true rfl) d_Parser_passComparer_53 (fun H locs w => ?_)
    show WK p l e s m av below meth c 2 g (wX g (qt q)) A (some (.int r)) σ2 H locs (F0 m 56 ls [.int r_2])
    refine lv_if_ne (tgt := 66) hx hb d_Parser_passComparer_56 (by decide) (fun cd => ?_) (fun cd => ?_)
    · have hf := if_e cd hf
      exact t_Parser_passComparer_66 C  hf w (lv_sub hl [1, 0] rfl)
    · have hf := it_e cd hf
      refine lv_aload_n hx hb d_Parser_passComparer_59 rfl (lv_at hl 1 rfl) ?_
      obtain ⟨r_4, σ_5, h_3, hf⟩ := bd_e hf
      refine k_callV (As := []) (rest := []) C w (c_Parser_tellWrong (q := qt q) h_3) cv_Parser_tellWrong k616 (xr_3 C w) (by decide) hl.1 rfl (Nat.le_of_ble_eq_true rfl) d_Parser_passComparer_60 (fun H locs w => ?_)
      show WK p l e s m av below meth c 2 g (wX g (qt q)) A (some (.int r)) σ2 H locs (F0 m 63 ls [.int r_4])
      refine lv_pop hx hb d_Parser_passComparer_63 rfl ?_
      refine lv_iconst (v := (-1)) hx hb d_Parser_passComparer_64 (by decide) ?_
      obtain ⟨rfl, rfl⟩ := some2_e hf
      exact k_iret C w d_Parser_passComparer_65
set_option maxHeartbeats 4000000 in
set_option maxRecDepth 20000 in
theorem c_Parser_passComparer {l : Launch} {g : GX} {q : Nat → Nat}  {σ : St} {r : Int32} {σ2 : St} (hf : f_Parser_passComparer   σ = some (r, σ2)) : KK l y_Parser_passComparer prog_5_method_19_code 2 (some .int) 2 g (wX g (qt q)) σ [.ref (qt q 3)] (some (.int r)) (wX g (qt q)) σ2 := by
  refine KK_of (plainFor_of_name (by decide)) (Nat.le_of_ble_eq_true rfl) (fun p e s m below meth c A ls C w hl => ?_)
  have hl : lv_has ls 2 [(0, .ref (qt q 3))] := hl
  obtain ⟨hx, hb, hml, hown, hts, hK, hA, hZ, hlocks, hr, hN⟩ := id C
  unfold f_Parser_passComparer at hf
  refine lv_aload_n hx hb d_Parser_passComparer_0 rfl (lv_at hl 0 rfl) ?_
  refine xg_3_reader C w k313 d_Parser_passComparer_1 ?_
  refine lv_bipush (v := 60) hx hb d_Parser_passComparer_4 (by decide) ?_
  obtain ⟨r_2, h_1, hf⟩ := bp_e hf
  refine k_callV (As := [.int 60]) (rest := []) C w (c_Reader_isSign (q := qt q) h_1) cv_Reader_isSign k664 (xr_4 C w) (by decide) hl.1 rfl (Nat.le_of_ble_eq_true rfl) d_Parser_passComparer_6 (fun H locs w => ?_)
  show WK p l e s m _ below meth c 2 g (wX g (qt q)) A (some (.int r)) σ2 H locs (F0 m 9 ls [.int r_2])
  refine lv_if_eq (tgt := 18) hx hb d_Parser_passComparer_9 (by decide) (fun cd => ?_) (fun cd => ?_)
  · have hf := it_e cd hf
    refine lv_aload_n hx hb d_Parser_passComparer_18 rfl (lv_at hl 0 rfl) ?_
    refine xg_3_reader C w k313 d_Parser_passComparer_19 ?_
    refine lv_bipush (v := 62) hx hb d_Parser_passComparer_22 (by decide) ?_
    obtain ⟨r_4, h_3, hf⟩ := bp_e hf
    refine k_callV (As := [.int 62]) (rest := []) C w (c_Reader_isSign (q := qt q) h_3) cv_Reader_isSign k664 (xr_4 C w) (by decide) hl.1 rfl (Nat.le_of_ble_eq_true rfl) d_Parser_passComparer_24 (fun H locs w => ?_)
    show WK p l e s m _ below meth c 2 g (wX g (qt q)) A (some (.int r)) σ2 H locs (F0 m 27 ls [.int r_4])
    refine lv_if_eq (tgt := 36) hx hb d_Parser_passComparer_27 (by decide) (fun cd => ?_) (fun cd => ?_)
    · have hf := it_e cd hf
      refine lv_sipush (v := 10015) hx hb d_Parser_passComparer_36 (by decide) ?_
      exact t_Parser_passComparer_39 C  hf w (lv_sub hl [0] rfl)
    · have hf := if_e cd hf
      refine lv_sipush (v := 10014) hx hb d_Parser_passComparer_30 (by decide) ?_
      refine lv_goto (tgt := 39) hx hb d_Parser_passComparer_33 (by decide) ?_
      exact t_Parser_passComparer_39 C  hf w (lv_sub hl [0] rfl)
  · have hf := if_e cd hf
    refine lv_sipush (v := 10013) hx hb d_Parser_passComparer_12 (by decide) ?_
    refine lv_goto (tgt := 39) hx hb d_Parser_passComparer_15 (by decide) ?_
    exact t_Parser_passComparer_39 C  hf w (lv_sub hl [0] rfl)
def f_Parser_readFactB (kT : Int32 → St → Option (Int32 × St)) (x1 : Int32) (σ : St) : Option (Int32 × St) :=
  bp (f_Reader_isWord 23 σ) fun r_2 =>
  if r_2 = 0 then
    bp (f_Reader_isSign 91 σ) fun r_4 =>
    if r_4 = 0 then
      bp (f_Reader_isWord 24 σ) fun r_6 =>
      if r_6 = 0 then
        bd (f_Parser_readSum 8 x1 σ) fun r_8 σ_9 =>
        if r_8 = 0 then
          some (0, σ_9)
        else
          bd (f_Parser_passComparer σ_9) fun r_11 σ_12 =>
          if r_11 = (-1) then
            some (0, σ_12)
          else
            bd (f_Parser_readSum 8 x1 σ_12) fun r_14 σ_15 =>
            if r_14 = 0 then
              some (0, σ_15)
            else
              bp (f_Fair_emit r_11 σ_15) fun σ_17 =>
              some (1, σ_17)
      else
        bp (f_Reader_step σ) fun σ_19 =>
        bp (f_Fair_emit 1 σ_19) fun σ_21 =>
        some (1, σ_21)
    else
      bd (f_Parser_passOpener x1 σ) fun r_23 σ_24 =>
      if r_23 = 0 then
        some (0, σ_24)
      else
        bd (f_Parser_readTest kT (x1 + 1) σ_24) fun r_26 σ_27 =>
        if r_26 = 0 then
          some (0, σ_27)
        else
          bd (f_Parser_passSign 93 σ_27) fun r_29 σ_30 =>
          if r_29 = 0 then
            some (0, σ_30)
          else
            some (1, σ_30)
  else
    bd (f_Parser_passOpener x1 σ) fun r_32 σ_33 =>
    if r_32 = 0 then
      some (0, σ_33)
    else
      bd (kT (x1 + 1) σ_33) fun r_35 σ_36 =>
      if r_35 = 0 then
        some (0, σ_36)
      else
        bp (f_Fair_emit 10010 σ_36) fun σ_38 =>
        some (1, σ_38)
def f_Parser_readFact : Nat → Int32 → St → Option (Int32 × St)
  | 0 => fun _ _ => none
  | d + 1 => f_Parser_readFactB (f_Parser_readFact d)
set_option maxHeartbeats 4000000 in
set_option maxRecDepth 20000 in
theorem c_Parser_readFactB {l : Launch} {g : GX} {q : Nat → Nat} {nk : Nat} (hnk : 44 ≤ nk) {kT : Int32 → St → Option (Int32 × St)} (hkT : ∀ (a0 : Int32) (σ : St) (r : Int32) (σ2 : St), kT a0 σ = some (r, σ2) → KK l y_Parser_readFact prog_5_method_17_code 3 (some .boolean) nk g (wX g (qt q)) σ [.ref (qt q 3), .int a0] (some (.int r)) (wX g (qt q)) σ2) {x1 : Int32}  {σ : St} {r : Int32} {σ2 : St} (hf : f_Parser_readFactB kT x1 σ = some (r, σ2)) : KK l y_Parser_readFact prog_5_method_17_code 3 (some .boolean) (nk + 4) g (wX g (qt q)) σ [.ref (qt q 3), .int x1] (some (.int r)) (wX g (qt q)) σ2 := by
  refine KK_of (plainFor_of_name (by decide)) (Nat.le_of_ble_eq_true rfl) (fun p e s m below meth c A ls C w hl => ?_)
  have hl : lv_has ls 3 [(0, .ref (qt q 3)), (1, .int x1)] := hl
  obtain ⟨hx, hb, hml, hown, hts, hK, hA, hZ, hlocks, hr, hN⟩ := id C
  unfold f_Parser_readFactB at hf
  refine lv_aload_n hx hb d_Parser_readFact_0 rfl (lv_at hl 0 rfl) ?_
  refine xg_3_reader C w k313 d_Parser_readFact_1 ?_
  refine lv_bipush (v := 23) hx hb d_Parser_readFact_4 (by decide) ?_
  obtain ⟨r_2, h_1, hf⟩ := bp_e hf
  refine k_callV (As := [.int 23]) (rest := []) C w (c_Reader_isWord (q := qt q) h_1) cv_Reader_isWord k598 (xr_4 C w) (by omega) hl.1 rfl (Nat.le_of_ble_eq_true rfl) d_Parser_readFact_6 (fun H locs w => ?_)
  show WK p l e s m _ below meth c (nk + 4) g (wX g (qt q)) A (some (.int r)) σ2 H locs (F0 m 9 ls [.int r_2])
  refine lv_if_eq (tgt := 44) hx hb d_Parser_readFact_9 (by decide) (fun cd => ?_) (fun cd => ?_)
  · have hf := it_e cd hf
    refine lv_aload_n hx hb d_Parser_readFact_44 rfl (lv_at hl 0 rfl) ?_
    refine xg_3_reader C w k313 d_Parser_readFact_45 ?_
    refine lv_bipush (v := 91) hx hb d_Parser_readFact_48 (by decide) ?_
    obtain ⟨r_4, h_3, hf⟩ := bp_e hf
    refine k_callV (As := [.int 91]) (rest := []) C w (c_Reader_isSign (q := qt q) h_3) cv_Reader_isSign k664 (xr_4 C w) (by omega) hl.1 rfl (Nat.le_of_ble_eq_true rfl) d_Parser_readFact_50 (fun H locs w => ?_)
    show WK p l e s m _ below meth c (nk + 4) g (wX g (qt q)) A (some (.int r)) σ2 H locs (F0 m 53 ls [.int r_4])
    refine lv_if_eq (tgt := 89) hx hb d_Parser_readFact_53 (by decide) (fun cd => ?_) (fun cd => ?_)
    · have hf := it_e cd hf
      refine lv_aload_n hx hb d_Parser_readFact_89 rfl (lv_at hl 0 rfl) ?_
      refine xg_3_reader C w k313 d_Parser_readFact_90 ?_
      refine lv_bipush (v := 24) hx hb d_Parser_readFact_93 (by decide) ?_
      obtain ⟨r_6, h_5, hf⟩ := bp_e hf
      refine k_callV (As := [.int 24]) (rest := []) C w (c_Reader_isWord (q := qt q) h_5) cv_Reader_isWord k598 (xr_4 C w) (by omega) hl.1 rfl (Nat.le_of_ble_eq_true rfl) d_Parser_readFact_95 (fun H locs w => ?_)
      show WK p l e s m _ below meth c (nk + 4) g (wX g (qt q)) A (some (.int r)) σ2 H locs (F0 m 98 ls [.int r_6])
      refine lv_if_eq (tgt := 118) hx hb d_Parser_readFact_98 (by decide) (fun cd => ?_) (fun cd => ?_)
      · have hf := it_e cd hf
        refine lv_aload_n hx hb d_Parser_readFact_118 rfl (lv_at hl 0 rfl) ?_
        refine lv_iload_n hx hb d_Parser_readFact_119 rfl (lv_at hl 1 rfl) ?_
        obtain ⟨r_8, σ_9, h_7, hf⟩ := bd_e hf
        refine k_callV (As := [.int x1]) (rest := []) C w (c_Parser_readSum (q := q) 8 _ _ _ _ h_7) cv_Parser_readSum k672 (xr_3 C w) (by omega) hl.1 rfl (Nat.le_of_ble_eq_true rfl) d_Parser_readFact_120 (fun H locs w => ?_)
        show WK p l e s m _ below meth c (nk + 4) g (wX g (qt q)) A (some (.int r)) σ2 H locs (F0 m 123 ls [.int r_8])
        refine lv_if_ne (tgt := 128) hx hb d_Parser_readFact_123 (by decide) (fun cd => ?_) (fun cd => ?_)
        · have hf := if_e cd hf
          refine lv_aload_n hx hb d_Parser_readFact_128 rfl (lv_at hl 0 rfl) ?_
          obtain ⟨r_11, σ_12, h_10, hf⟩ := bd_e hf
          refine k_callV (As := []) (rest := []) C w (c_Parser_passComparer (q := q) h_10) cv_Parser_passComparer k690 (xr_3 C w) (by omega) hl.1 rfl (Nat.le_of_ble_eq_true rfl) d_Parser_readFact_129 (fun H locs w => ?_)
          show WK p l e s m _ below meth c (nk + 4) g (wX g (qt q)) A (some (.int r)) σ2 H locs (F0 m 132 ls [.int r_11])
          refine lv_istore_n (lv' := [(2, .int r_11), (0, .ref (qt q 3)), (1, .int x1)]) hx hb d_Parser_readFact_132 rfl hl (by decide) rfl (fun ls hl => ?_)
          refine lv_iload_n hx hb d_Parser_readFact_133 rfl (lv_at hl 0 rfl) ?_
          refine lv_iconst (v := (-1)) hx hb d_Parser_readFact_134 (by decide) ?_
          refine lv_icmp_eq (tgt := 146) hx hb d_Parser_readFact_135 (by decide) (fun cd => ?_) (fun cd => ?_)
          · have hf := it_e cd hf
            refine lv_iconst (v := 0) hx hb d_Parser_readFact_146 (by decide) ?_
            obtain ⟨rfl, rfl⟩ := some2_e hf
            exact k_zret C w (by decide) d_Parser_readFact_147
          · have hf := if_e cd hf
            refine lv_aload_n hx hb d_Parser_readFact_138 rfl (lv_at hl 1 rfl) ?_
            refine lv_iload_n hx hb d_Parser_readFact_139 rfl (lv_at hl 2 rfl) ?_
            obtain ⟨r_14, σ_15, h_13, hf⟩ := bd_e hf
            refine k_callV (As := [.int x1]) (rest := []) C w (c_Parser_readSum (q := q) 8 _ _ _ _ h_13) cv_Parser_readSum k672 (xr_3 C w) (by omega) hl.1 rfl (Nat.le_of_ble_eq_true rfl) d_Parser_readFact_140 (fun H locs w => ?_)
            show WK p l e s m _ below meth c (nk + 4) g (wX g (qt q)) A (some (.int r)) σ2 H locs (F0 m 143 ls [.int r_14])
            refine lv_if_ne (tgt := 148) hx hb d_Parser_readFact_143 (by decide) (fun cd => ?_) (fun cd => ?_)
            · have hf := if_e cd hf
              refine lv_aload_n hx hb d_Parser_readFact_148 rfl (lv_at hl 1 rfl) ?_
              refine xg_3_draft C w k314 d_Parser_readFact_149 ?_
              refine lv_iload_n hx hb d_Parser_readFact_152 rfl (lv_at hl 0 rfl) ?_
              obtain ⟨σ_17, h_16, hf⟩ := bp_e hf
              refine k_callV (As := [.int r_11]) (rest := []) C w (c_Fair_emit (q := qt q) h_16) cv_Fair_emit k660 (xr_6 C w) (by omega) hl.1 rfl (Nat.le_of_ble_eq_true rfl) d_Parser_readFact_153 (fun H locs w => ?_)
              show WK p l e s m _ below meth c (nk + 4) g (wX g (qt q)) A (some (.int r)) σ2 H locs (F0 m 156 ls [])
              refine lv_iconst (v := 1) hx hb d_Parser_readFact_156 (by decide) ?_
              obtain ⟨rfl, rfl⟩ := some2_e hf
              exact k_zret C w (by decide) d_Parser_readFact_157
            · have hf := it_e cd hf
              refine lv_iconst (v := 0) hx hb d_Parser_readFact_146 (by decide) ?_
              obtain ⟨rfl, rfl⟩ := some2_e hf
              exact k_zret C w (by decide) d_Parser_readFact_147
        · have hf := it_e cd hf
          refine lv_iconst (v := 0) hx hb d_Parser_readFact_126 (by decide) ?_
          obtain ⟨rfl, rfl⟩ := some2_e hf
          exact k_zret C w (by decide) d_Parser_readFact_127
      · have hf := if_e cd hf
        refine lv_aload_n hx hb d_Parser_readFact_101 rfl (lv_at hl 0 rfl) ?_
        refine xg_3_reader C w k313 d_Parser_readFact_102 ?_
        obtain ⟨σ_19, h_18, hf⟩ := bp_e hf
        refine k_callV (As := []) (rest := []) C w (c_Reader_step (q := q) h_18) cv_Reader_step k606 (xr_4 C w) (by omega) hl.1 rfl (Nat.le_of_ble_eq_true rfl) d_Parser_readFact_105 (fun H locs w => ?_)
        show WK p l e s m _ below meth c (nk + 4) g (wX g (qt q)) A (some (.int r)) σ2 H locs (F0 m 108 ls [])
        refine lv_aload_n hx hb d_Parser_readFact_108 rfl (lv_at hl 0 rfl) ?_
        refine xg_3_draft C w k314 d_Parser_readFact_109 ?_
        refine lv_iconst (v := 1) hx hb d_Parser_readFact_112 (by decide) ?_
        obtain ⟨σ_21, h_20, hf⟩ := bp_e hf
        refine k_callV (As := [.int 1]) (rest := []) C w (c_Fair_emit (q := qt q) h_20) cv_Fair_emit k660 (xr_6 C w) (by omega) hl.1 rfl (Nat.le_of_ble_eq_true rfl) d_Parser_readFact_113 (fun H locs w => ?_)
        show WK p l e s m _ below meth c (nk + 4) g (wX g (qt q)) A (some (.int r)) σ2 H locs (F0 m 116 ls [])
        refine lv_iconst (v := 1) hx hb d_Parser_readFact_116 (by decide) ?_
        obtain ⟨rfl, rfl⟩ := some2_e hf
        exact k_zret C w (by decide) d_Parser_readFact_117
    · have hf := if_e cd hf
      refine lv_aload_n hx hb d_Parser_readFact_56 rfl (lv_at hl 0 rfl) ?_
      refine lv_iload_n hx hb d_Parser_readFact_57 rfl (lv_at hl 1 rfl) ?_
      obtain ⟨r_23, σ_24, h_22, hf⟩ := bd_e hf
      refine k_callV (As := [.int x1]) (rest := []) C w (c_Parser_passOpener (q := q) h_22) cv_Parser_passOpener k656 (xr_3 C w) (by omega) hl.1 rfl (Nat.le_of_ble_eq_true rfl) d_Parser_readFact_58 (fun H locs w => ?_)
      show WK p l e s m _ below meth c (nk + 4) g (wX g (qt q)) A (some (.int r)) σ2 H locs (F0 m 61 ls [.int r_23])
      refine lv_if_eq (tgt := 87) hx hb d_Parser_readFact_61 (by decide) (fun cd => ?_) (fun cd => ?_)
      · have hf := it_e cd hf
        refine lv_iconst (v := 0) hx hb d_Parser_readFact_87 (by decide) ?_
        obtain ⟨rfl, rfl⟩ := some2_e hf
        exact k_zret C w (by decide) d_Parser_readFact_88
      · have hf := if_e cd hf
        refine lv_aload_n hx hb d_Parser_readFact_64 rfl (lv_at hl 0 rfl) ?_
        refine lv_iload_n hx hb d_Parser_readFact_65 rfl (lv_at hl 1 rfl) ?_
        refine lv_iconst (v := 1) hx hb d_Parser_readFact_66 (by decide) ?_
        refine lv_iadd hx hb d_Parser_readFact_67 ?_
        obtain ⟨r_26, σ_27, h_25, hf⟩ := bd_e hf
        refine k_callV (As := [.int (x1 + 1)]) (rest := []) C w (c_Parser_readTest (q := q) hnk hkT h_25) cv_Parser_readTest k644 (xr_3 C w) (by omega) hl.1 rfl (Nat.le_of_ble_eq_true rfl) d_Parser_readFact_68 (fun H locs w => ?_)
        show WK p l e s m _ below meth c (nk + 4) g (wX g (qt q)) A (some (.int r)) σ2 H locs (F0 m 71 ls [.int r_26])
        refine lv_if_eq (tgt := 87) hx hb d_Parser_readFact_71 (by decide) (fun cd => ?_) (fun cd => ?_)
        · have hf := it_e cd hf
          refine lv_iconst (v := 0) hx hb d_Parser_readFact_87 (by decide) ?_
          obtain ⟨rfl, rfl⟩ := some2_e hf
          exact k_zret C w (by decide) d_Parser_readFact_88
        · have hf := if_e cd hf
          refine lv_aload_n hx hb d_Parser_readFact_74 rfl (lv_at hl 0 rfl) ?_
          refine lv_bipush (v := 93) hx hb d_Parser_readFact_75 (by decide) ?_
          obtain ⟨r_29, σ_30, h_28, hf⟩ := bd_e hf
          refine k_callV (As := [.int 93]) (rest := []) C w (c_Parser_passSign (q := q) h_28) cv_Parser_passSign k668 (xr_3 C w) (by omega) hl.1 rfl (Nat.le_of_ble_eq_true rfl) d_Parser_readFact_77 (fun H locs w => ?_)
          show WK p l e s m _ below meth c (nk + 4) g (wX g (qt q)) A (some (.int r)) σ2 H locs (F0 m 80 ls [.int r_29])
          refine lv_if_eq (tgt := 87) hx hb d_Parser_readFact_80 (by decide) (fun cd => ?_) (fun cd => ?_)
          · have hf := it_e cd hf
            refine lv_iconst (v := 0) hx hb d_Parser_readFact_87 (by decide) ?_
            obtain ⟨rfl, rfl⟩ := some2_e hf
            exact k_zret C w (by decide) d_Parser_readFact_88
          · have hf := if_e cd hf
            refine lv_iconst (v := 1) hx hb d_Parser_readFact_83 (by decide) ?_
            refine lv_goto (tgt := 88) hx hb d_Parser_readFact_84 (by decide) ?_
            obtain ⟨rfl, rfl⟩ := some2_e hf
            exact k_zret C w (by decide) d_Parser_readFact_88
  · have hf := if_e cd hf
    refine lv_aload_n hx hb d_Parser_readFact_12 rfl (lv_at hl 0 rfl) ?_
    refine lv_iload_n hx hb d_Parser_readFact_13 rfl (lv_at hl 1 rfl) ?_
    obtain ⟨r_32, σ_33, h_31, hf⟩ := bd_e hf
    refine k_callV (As := [.int x1]) (rest := []) C w (c_Parser_passOpener (q := q) h_31) cv_Parser_passOpener k656 (xr_3 C w) (by omega) hl.1 rfl (Nat.le_of_ble_eq_true rfl) d_Parser_readFact_14 (fun H locs w => ?_)
    show WK p l e s m _ below meth c (nk + 4) g (wX g (qt q)) A (some (.int r)) σ2 H locs (F0 m 17 ls [.int r_32])
    refine lv_if_eq (tgt := 30) hx hb d_Parser_readFact_17 (by decide) (fun cd => ?_) (fun cd => ?_)
    · have hf := it_e cd hf
      refine lv_iconst (v := 0) hx hb d_Parser_readFact_30 (by decide) ?_
      obtain ⟨rfl, rfl⟩ := some2_e hf
      exact k_zret C w (by decide) d_Parser_readFact_31
    · have hf := if_e cd hf
      refine lv_aload_n hx hb d_Parser_readFact_20 rfl (lv_at hl 0 rfl) ?_
      refine lv_iload_n hx hb d_Parser_readFact_21 rfl (lv_at hl 1 rfl) ?_
      refine lv_iconst (v := 1) hx hb d_Parser_readFact_22 (by decide) ?_
      refine lv_iadd hx hb d_Parser_readFact_23 ?_
      obtain ⟨r_35, σ_36, h_34, hf⟩ := bd_e hf
      refine k_callV (As := [.int (x1 + 1)]) (rest := []) C w (hkT _ _ _ _ h_34) cv_Parser_readFact k652 (xr_3 C w) (by omega) hl.1 rfl (Nat.le_of_ble_eq_true rfl) d_Parser_readFact_24 (fun H locs w => ?_)
      show WK p l e s m _ below meth c (nk + 4) g (wX g (qt q)) A (some (.int r)) σ2 H locs (F0 m 27 ls [.int r_35])
      refine lv_if_ne (tgt := 32) hx hb d_Parser_readFact_27 (by decide) (fun cd => ?_) (fun cd => ?_)
      · have hf := if_e cd hf
        refine lv_aload_n hx hb d_Parser_readFact_32 rfl (lv_at hl 0 rfl) ?_
        refine xg_3_draft C w k314 d_Parser_readFact_33 ?_
        refine lv_sipush (v := 10010) hx hb d_Parser_readFact_36 (by decide) ?_
        obtain ⟨σ_38, h_37, hf⟩ := bp_e hf
        refine k_callV (As := [.int 10010]) (rest := []) C w (c_Fair_emit (q := qt q) h_37) cv_Fair_emit k660 (xr_6 C w) (by omega) hl.1 rfl (Nat.le_of_ble_eq_true rfl) d_Parser_readFact_39 (fun H locs w => ?_)
        show WK p l e s m _ below meth c (nk + 4) g (wX g (qt q)) A (some (.int r)) σ2 H locs (F0 m 42 ls [])
        refine lv_iconst (v := 1) hx hb d_Parser_readFact_42 (by decide) ?_
        obtain ⟨rfl, rfl⟩ := some2_e hf
        exact k_zret C w (by decide) d_Parser_readFact_43
      · have hf := it_e cd hf
        refine lv_iconst (v := 0) hx hb d_Parser_readFact_30 (by decide) ?_
        obtain ⟨rfl, rfl⟩ := some2_e hf
        exact k_zret C w (by decide) d_Parser_readFact_31
set_option maxHeartbeats 4000000 in
set_option maxRecDepth 20000 in
theorem c_Parser_readFact {l : Launch} {g : GX} {q : Nat → Nat} : ∀ (d : Nat) (x1 : Int32) (σ : St) (r : Int32) (σ2 : St), f_Parser_readFact d x1 σ = some (r, σ2) → KK l y_Parser_readFact prog_5_method_17_code 3 (some .boolean) (44 + 4 * d) g (wX g (qt q)) σ [.ref (qt q 3), .int x1] (some (.int r)) (wX g (qt q)) σ2 := by
  intro d
  induction d with
  | zero => intro x1 σ r σ2 hf; exact absurd hf (by intro z; cases z)
  | succ d ih =>
    intro x1 σ r σ2 hf
    have := c_Parser_readFactB (l := l) (g := g) (q := q) (nk := 44 + 4 * d) (by omega) ih hf
    rw [show 44 + 4 * (d + 1) = 44 + 4 * d + 4 from by omega]
    exact this
def f_Parser_endRule (σ : St) : Option (Int32 × St) :=
  if (sI σ 15) < 6 then
    gd (inB (sI σ 15) 6) <|
    lt (uA σ 8 (upd (sA σ 8) (sI σ 15).toNatClampNeg (sI σ 12))) fun σ_2 =>
    lt (uI σ_2 15 ((sI σ_2 15) + 1)) fun σ_3 =>
    some (1, σ_3)
  else
    some (0, σ)
set_option maxHeartbeats 4000000 in
set_option maxRecDepth 20000 in
theorem c_Parser_endRule {l : Launch} {g : GX} {q : Nat → Nat}  {σ : St} {r : Int32} {σ2 : St} (hf : f_Parser_endRule   σ = some (r, σ2)) : KK l y_Parser_endRule prog_5_method_14_code 1 (some .boolean) 0 g (wX g q) σ [.ref (q 3)] (some (.int r)) (wX g q) σ2 := by
  refine KK_of (plainFor_of_name (by decide)) (Nat.le_of_ble_eq_true rfl) (fun p e s m below meth c A ls C w hl => ?_)
  have hl : lv_has ls 1 [(0, .ref (q 3))] := hl
  obtain ⟨hx, hb, hml, hown, hts, hK, hA, hZ, hlocks, hr, hN⟩ := id C
  unfold f_Parser_endRule at hf
  refine lv_aload_n hx hb d_Parser_endRule_0 rfl (lv_at hl 0 rfl) ?_
  refine xg_3_draft C w k314 d_Parser_endRule_1 ?_
  refine xg_6_rules C w k284 d_Parser_endRule_4 ?_
  refine lv_bipush (v := 6) hx hb d_Parser_endRule_7 (by decide) ?_
  refine lv_icmp_lt (tgt := 14) hx hb d_Parser_endRule_9 (by decide) (fun cd => ?_) (fun cd => ?_)
  · have hf := it_e cd hf
    refine lv_aload_n hx hb d_Parser_endRule_14 rfl (lv_at hl 0 rfl) ?_
    refine xg_3_draft C w k314 d_Parser_endRule_15 ?_
    refine xg_6_ruleEnd C w k269 d_Parser_endRule_18 ?_
    refine lv_aload_n hx hb d_Parser_endRule_21 rfl (lv_at hl 0 rfl) ?_
    refine xg_3_draft C w k314 d_Parser_endRule_22 ?_
    refine xg_6_rules C w k284 d_Parser_endRule_25 ?_
    refine lv_aload_n hx hb d_Parser_endRule_28 rfl (lv_at hl 0 rfl) ?_
    refine xg_3_draft C w k314 d_Parser_endRule_29 ?_
    refine xg_6_codeSize C w k271 d_Parser_endRule_32 ?_
    obtain ⟨g_1, hf⟩ := gd_e hf
    refine xs_13 C w g_1 d_Parser_endRule_35 (fun σ_2 H locs eσ_2 w => ?_)
    have hf := lt_e eσ_2 hf
    refine lv_aload_n hx hb d_Parser_endRule_36 rfl (lv_at hl 0 rfl) ?_
    refine xg_3_draft C w k314 d_Parser_endRule_37 ?_
    refine lv_dup hx hb d_Parser_endRule_40 rfl ?_
    refine xg_6_rules C w k284 d_Parser_endRule_41 ?_
    refine lv_iconst (v := 1) hx hb d_Parser_endRule_44 (by decide) ?_
    refine lv_iadd hx hb d_Parser_endRule_45 ?_
    refine xp_6_rules C w k284 d_Parser_endRule_46 (fun σ_3 H locs eσ_3 w => ?_)
    have hf := lt_e eσ_3 hf
    refine lv_iconst (v := 1) hx hb d_Parser_endRule_49 (by decide) ?_
    obtain ⟨rfl, rfl⟩ := some2_e hf
    exact k_zret C w (by decide) d_Parser_endRule_50
  · have hf := if_e cd hf
    refine lv_iconst (v := 0) hx hb d_Parser_endRule_12 (by decide) ?_
    obtain ⟨rfl, rfl⟩ := some2_e hf
    exact k_zret C w (by decide) d_Parser_endRule_13
def f_Reader_isOwnWord_2b (k2 : Int32 → St → Option (Int32)) (x1 : Int32) (σ : St) : Option (Int32) :=
  if 27 ≤ x1 then
    some 0
  else
    bp (f_Reader_isWord x1 σ) fun r_2 =>
    if r_2 = 0 then
      lt ((x1 + 1)) fun x_3 =>
      k2 x_3 σ
    else
      some 1
def f_Reader_isOwnWord_2 : Nat → Int32 → St → Option (Int32)
  | 0 => fun _ _ => none
  | n + 1 => f_Reader_isOwnWord_2b   (f_Reader_isOwnWord_2   n)
def f_Reader_isOwnWord (σ : St) : Option (Int32) :=
  f_Reader_isOwnWord_2 FU 0 σ
set_option maxHeartbeats 4000000 in
set_option maxRecDepth 20000 in
theorem t_Reader_isOwnWord_2b {r : Int32} {σ : St} (C : Cx g A p s m av meth c prog_6_method_9_code 2 "BellHammer$Reader" (some .boolean)) {k2 : Int32 → St → Option (Int32)} (hk2 : ∀ (x1 : Int32) (H : Heap) (locs : List Loc) (ls : Array Slot), k2 x1 σ = some r → Wd g (wX g q) A s σ H locs → lv_has ls 2 [(0, .ref (q 4)), (1, .int x1)] → WK p l e s m av below meth c 1 g (wX g q) A (some (.int r)) σ H locs (F0 m 2 ls []))  {x1 : Int32} {H : Heap} {locs : List Loc} {ls : Array Slot} (hf : f_Reader_isOwnWord_2b  k2 x1 σ = some r) (w : Wd g (wX g q) A s σ H locs) (hl : lv_has ls 2 [(0, .ref (q 4)), (1, .int x1)]) : WK p l e s m av below meth c 1 g (wX g q) A (some (.int r)) σ H locs (F0 m 2 ls []) := by
  obtain ⟨hx, hb, hml, hown, hts, hK, hA, hZ, hlocks, hr, hN⟩ := id C
  unfold f_Reader_isOwnWord_2b at hf
  refine lv_iload_n hx hb d_Reader_isOwnWord_2 rfl (lv_at hl 1 rfl) ?_
  refine lv_aload_n hx hb d_Reader_isOwnWord_3 rfl (lv_at hl 0 rfl) ?_
  refine xg_4_own C w k204 d_Reader_isOwnWord_4 ?_
  refine xn_5 C w d_Reader_isOwnWord_7 ?_
  refine lv_icmp_ge (tgt := 27) hx hb d_Reader_isOwnWord_8 (by decide) (fun cd => ?_) (fun cd => ?_)
  · have hf := it_e cd hf
    refine lv_iconst (v := 0) hx hb d_Reader_isOwnWord_27 (by decide) ?_
    cases some_e hf
    exact k_zret C w (by decide) d_Reader_isOwnWord_28
  · have hf := if_e cd hf
    refine lv_aload_n hx hb d_Reader_isOwnWord_11 rfl (lv_at hl 0 rfl) ?_
    refine lv_iload_n hx hb d_Reader_isOwnWord_12 rfl (lv_at hl 1 rfl) ?_
    obtain ⟨r_2, h_1, hf⟩ := bp_e hf
    refine k_callV (As := [.int x1]) (rest := []) C w (c_Reader_isWord (q := q) h_1) cv_Reader_isWord k615 (xr_4 C w) (by decide) hl.1 rfl (Nat.le_of_ble_eq_true rfl) d_Reader_isOwnWord_13 (fun H locs w => ?_)
    show WK p l e s m av below meth c 1 g (wX g q) A (some (.int r)) σ H locs (F0 m 16 ls [.int r_2])
    refine lv_if_eq (tgt := 21) hx hb d_Reader_isOwnWord_16 (by decide) (fun cd => ?_) (fun cd => ?_)
    · have hf := it_e cd hf
      obtain ⟨x_3, ex_3⟩ : ∃ y : Int32, y = (x1 + 1) := ⟨_, rfl⟩
      have hf := lt_e ex_3 hf
      refine lv_iinc (v := x_3) (lv' := [(1, .int x_3), (0, .ref (q 4))]) hx hb d_Reader_isOwnWord_21 hl (k := 1) rfl (by rw [ex_3]; rfl) (by decide) rfl (fun ls hl => ?_)
      refine lv_goto (tgt := 2) hx hb d_Reader_isOwnWord_24 (by decide) ?_
      exact hk2 x_3  _ _ _ hf w (lv_sub hl [1, 0] rfl)
    · have hf := if_e cd hf
      refine lv_iconst (v := 1) hx hb d_Reader_isOwnWord_19 (by decide) ?_
      cases some_e hf
      exact k_zret C w (by decide) d_Reader_isOwnWord_20
set_option maxHeartbeats 4000000 in
set_option maxRecDepth 20000 in
theorem t_Reader_isOwnWord_2 {r : Int32} {σ : St} (C : Cx g A p s m av meth c prog_6_method_9_code 2 "BellHammer$Reader" (some .boolean))  : ∀ (n : Nat) (x1 : Int32) (H : Heap) (locs : List Loc) (ls : Array Slot), f_Reader_isOwnWord_2   n x1 σ = some r → Wd g (wX g q) A s σ H locs → lv_has ls 2 [(0, .ref (q 4)), (1, .int x1)] → WK p l e s m av below meth c 1 g (wX g q) A (some (.int r)) σ H locs (F0 m 2 ls []) := by
  intro n
  induction n with
  | zero => intro x1 H locs ls hf; exact absurd hf (by intro z; cases z)
  | succ n ih => intro x1 H locs ls hf w hl; exact t_Reader_isOwnWord_2b C  ih hf w hl
set_option maxHeartbeats 4000000 in
set_option maxRecDepth 20000 in
theorem c_Reader_isOwnWord {l : Launch} {g : GX} {q : Nat → Nat}  {σ : St} {r : Int32} (hf : f_Reader_isOwnWord   σ = some r) : KK l y_Reader_isOwnWord prog_6_method_9_code 2 (some .boolean) 1 g (wX g q) σ [.ref (q 4)] (some (.int r)) (wX g q) σ := by
  refine KK_of (plainFor_of_name (by decide)) (Nat.le_of_ble_eq_true rfl) (fun p e s m below meth c A ls C w hl => ?_)
  have hl : lv_has ls 2 [(0, .ref (q 4))] := hl
  obtain ⟨hx, hb, hml, hown, hts, hK, hA, hZ, hlocks, hr, hN⟩ := id C
  unfold f_Reader_isOwnWord at hf
  refine lv_iconst (v := 0) hx hb d_Reader_isOwnWord_0 (by decide) ?_
  refine lv_istore_n (lv' := [(1, .int 0), (0, .ref (q 4))]) hx hb d_Reader_isOwnWord_1 rfl hl (by decide) rfl (fun ls hl => ?_)
  exact t_Reader_isOwnWord_2 C  FU 0  _ _ _ hf w (lv_sub hl [1, 0] rfl)
def f_Fair_hasName_30b (k30 : Int32 → Int32 → St → Option (Int32)) (x1 : Int32) (x2 : Int32) (σ : St) : Option (Int32) :=
  if (sI σ 14) ≤ x2 then
    some 0
  else
    gd (inB x2 8) <|
    if (sA σ 4 x2.toNatClampNeg) = x1 then
      some 1
    else
      lt ((x2 + 1)) fun x_2 =>
      k30 x1 x_2 σ
def f_Fair_hasName_30 : Nat → Int32 → Int32 → St → Option (Int32)
  | 0 => fun _ _ _ => none
  | n + 1 => f_Fair_hasName_30b   (f_Fair_hasName_30   n)
def f_Fair_hasName_2b (k2 : Int32 → Int32 → St → Option (Int32)) (x1 : Int32) (x2 : Int32) (σ : St) : Option (Int32) :=
  if (sI σ 13) ≤ x2 then
    f_Fair_hasName_30 FU x1 0 σ
  else
    gd (inB x2 6) <|
    if (sA σ 2 x2.toNatClampNeg) = x1 then
      some 1
    else
      lt ((x2 + 1)) fun x_2 =>
      k2 x1 x_2 σ
def f_Fair_hasName_2 : Nat → Int32 → Int32 → St → Option (Int32)
  | 0 => fun _ _ _ => none
  | n + 1 => f_Fair_hasName_2b   (f_Fair_hasName_2   n)
def f_Fair_hasName (x1 : Int32) (σ : St) : Option (Int32) :=
  f_Fair_hasName_2 FU x1 0 σ
set_option maxHeartbeats 4000000 in
set_option maxRecDepth 20000 in
theorem t_Fair_hasName_30b {r : Int32} {σ : St} (C : Cx g A p s m av meth c prog_3_method_4_code 3 "BellHammer$Fair" (some .boolean)) {k30 : Int32 → Int32 → St → Option (Int32)} (hk30 : ∀ (x1 : Int32) (x2 : Int32) (H : Heap) (locs : List Loc) (ls : Array Slot), k30 x1 x2 σ = some r → Wd g (wX g q) A s σ H locs → lv_has ls 3 [(0, .ref (q 6)), (1, .int x1), (2, .int x2)] → WK p l e s m av below meth c 0 g (wX g q) A (some (.int r)) σ H locs (F0 m 30 ls []))  {x1 : Int32} {x2 : Int32} {H : Heap} {locs : List Loc} {ls : Array Slot} (hf : f_Fair_hasName_30b  k30 x1 x2 σ = some r) (w : Wd g (wX g q) A s σ H locs) (hl : lv_has ls 3 [(0, .ref (q 6)), (1, .int x1), (2, .int x2)]) : WK p l e s m av below meth c 0 g (wX g q) A (some (.int r)) σ H locs (F0 m 30 ls []) := by
  obtain ⟨hx, hb, hml, hown, hts, hK, hA, hZ, hlocks, hr, hN⟩ := id C
  unfold f_Fair_hasName_30b at hf
  refine lv_iload_n hx hb d_Fair_hasName_30 rfl (lv_at hl 2 rfl) ?_
  refine lv_aload_n hx hb d_Fair_hasName_31 rfl (lv_at hl 0 rfl) ?_
  refine xg_6_triers C w k275 d_Fair_hasName_32 ?_
  refine lv_icmp_ge (tgt := 56) hx hb d_Fair_hasName_35 (by decide) (fun cd => ?_) (fun cd => ?_)
  · have hf := it_e cd hf
    refine lv_iconst (v := 0) hx hb d_Fair_hasName_56 (by decide) ?_
    cases some_e hf
    exact k_zret C w (by decide) d_Fair_hasName_57
  · have hf := if_e cd hf
    refine lv_aload_n hx hb d_Fair_hasName_38 rfl (lv_at hl 0 rfl) ?_
    refine xg_6_trierName C w k255 d_Fair_hasName_39 ?_
    refine lv_iload_n hx hb d_Fair_hasName_42 rfl (lv_at hl 2 rfl) ?_
    obtain ⟨g_1, hf⟩ := gd_e hf
    refine xl_9 C w g_1 d_Fair_hasName_43 ?_
    refine lv_iload_n hx hb d_Fair_hasName_44 rfl (lv_at hl 1 rfl) ?_
    refine lv_icmp_ne (tgt := 50) hx hb d_Fair_hasName_45 (by decide) (fun cd => ?_) (fun cd => ?_)
    · have hf := if_e cd hf
      obtain ⟨x_2, ex_2⟩ : ∃ y : Int32, y = (x2 + 1) := ⟨_, rfl⟩
      have hf := lt_e ex_2 hf
      refine lv_iinc (v := x_2) (lv' := [(2, .int x_2), (0, .ref (q 6)), (1, .int x1)]) hx hb d_Fair_hasName_50 hl (k := 2) rfl (by rw [ex_2]; rfl) (by decide) rfl (fun ls hl => ?_)
      refine lv_goto (tgt := 30) hx hb d_Fair_hasName_53 (by decide) ?_
      exact hk30 x1 x_2  _ _ _ hf w (lv_sub hl [1, 2, 0] rfl)
    · have hf := it_e cd hf
      refine lv_iconst (v := 1) hx hb d_Fair_hasName_48 (by decide) ?_
      cases some_e hf
      exact k_zret C w (by decide) d_Fair_hasName_49
set_option maxHeartbeats 4000000 in
set_option maxRecDepth 20000 in
theorem t_Fair_hasName_30 {r : Int32} {σ : St} (C : Cx g A p s m av meth c prog_3_method_4_code 3 "BellHammer$Fair" (some .boolean))  : ∀ (n : Nat) (x1 : Int32) (x2 : Int32) (H : Heap) (locs : List Loc) (ls : Array Slot), f_Fair_hasName_30   n x1 x2 σ = some r → Wd g (wX g q) A s σ H locs → lv_has ls 3 [(0, .ref (q 6)), (1, .int x1), (2, .int x2)] → WK p l e s m av below meth c 0 g (wX g q) A (some (.int r)) σ H locs (F0 m 30 ls []) := by
  intro n
  induction n with
  | zero => intro x1 x2 H locs ls hf; exact absurd hf (by intro z; cases z)
  | succ n ih => intro x1 x2 H locs ls hf w hl; exact t_Fair_hasName_30b C  ih hf w hl
set_option maxHeartbeats 4000000 in
set_option maxRecDepth 20000 in
theorem t_Fair_hasName_2b {r : Int32} {σ : St} (C : Cx g A p s m av meth c prog_3_method_4_code 3 "BellHammer$Fair" (some .boolean)) {k2 : Int32 → Int32 → St → Option (Int32)} (hk2 : ∀ (x1 : Int32) (x2 : Int32) (H : Heap) (locs : List Loc) (ls : Array Slot), k2 x1 x2 σ = some r → Wd g (wX g q) A s σ H locs → lv_has ls 3 [(0, .ref (q 6)), (1, .int x1), (2, .int x2)] → WK p l e s m av below meth c 0 g (wX g q) A (some (.int r)) σ H locs (F0 m 2 ls []))  {x1 : Int32} {x2 : Int32} {H : Heap} {locs : List Loc} {ls : Array Slot} (hf : f_Fair_hasName_2b  k2 x1 x2 σ = some r) (w : Wd g (wX g q) A s σ H locs) (hl : lv_has ls 3 [(0, .ref (q 6)), (1, .int x1), (2, .int x2)]) : WK p l e s m av below meth c 0 g (wX g q) A (some (.int r)) σ H locs (F0 m 2 ls []) := by
  obtain ⟨hx, hb, hml, hown, hts, hK, hA, hZ, hlocks, hr, hN⟩ := id C
  unfold f_Fair_hasName_2b at hf
  refine lv_iload_n hx hb d_Fair_hasName_2 rfl (lv_at hl 2 rfl) ?_
  refine lv_aload_n hx hb d_Fair_hasName_3 rfl (lv_at hl 0 rfl) ?_
  refine xg_6_marks C w k272 d_Fair_hasName_4 ?_
  refine lv_icmp_ge (tgt := 28) hx hb d_Fair_hasName_7 (by decide) (fun cd => ?_) (fun cd => ?_)
  · have hf := it_e cd hf
    refine lv_iconst (v := 0) hx hb d_Fair_hasName_28 (by decide) ?_
    refine lv_istore_n (lv' := [(2, .int 0), (0, .ref (q 6)), (1, .int x1)]) hx hb d_Fair_hasName_29 rfl hl (by decide) rfl (fun ls hl => ?_)
    exact t_Fair_hasName_30 C  FU x1 0  _ _ _ hf w (lv_sub hl [1, 2, 0] rfl)
  · have hf := if_e cd hf
    refine lv_aload_n hx hb d_Fair_hasName_10 rfl (lv_at hl 0 rfl) ?_
    refine xg_6_markName C w k249 d_Fair_hasName_11 ?_
    refine lv_iload_n hx hb d_Fair_hasName_14 rfl (lv_at hl 2 rfl) ?_
    obtain ⟨g_1, hf⟩ := gd_e hf
    refine xl_7 C w g_1 d_Fair_hasName_15 ?_
    refine lv_iload_n hx hb d_Fair_hasName_16 rfl (lv_at hl 1 rfl) ?_
    refine lv_icmp_ne (tgt := 22) hx hb d_Fair_hasName_17 (by decide) (fun cd => ?_) (fun cd => ?_)
    · have hf := if_e cd hf
      obtain ⟨x_2, ex_2⟩ : ∃ y : Int32, y = (x2 + 1) := ⟨_, rfl⟩
      have hf := lt_e ex_2 hf
      refine lv_iinc (v := x_2) (lv' := [(2, .int x_2), (0, .ref (q 6)), (1, .int x1)]) hx hb d_Fair_hasName_22 hl (k := 2) rfl (by rw [ex_2]; rfl) (by decide) rfl (fun ls hl => ?_)
      refine lv_goto (tgt := 2) hx hb d_Fair_hasName_25 (by decide) ?_
      exact hk2 x1 x_2  _ _ _ hf w (lv_sub hl [1, 2, 0] rfl)
    · have hf := it_e cd hf
      refine lv_iconst (v := 1) hx hb d_Fair_hasName_20 (by decide) ?_
      cases some_e hf
      exact k_zret C w (by decide) d_Fair_hasName_21
set_option maxHeartbeats 4000000 in
set_option maxRecDepth 20000 in
theorem t_Fair_hasName_2 {r : Int32} {σ : St} (C : Cx g A p s m av meth c prog_3_method_4_code 3 "BellHammer$Fair" (some .boolean))  : ∀ (n : Nat) (x1 : Int32) (x2 : Int32) (H : Heap) (locs : List Loc) (ls : Array Slot), f_Fair_hasName_2   n x1 x2 σ = some r → Wd g (wX g q) A s σ H locs → lv_has ls 3 [(0, .ref (q 6)), (1, .int x1), (2, .int x2)] → WK p l e s m av below meth c 0 g (wX g q) A (some (.int r)) σ H locs (F0 m 2 ls []) := by
  intro n
  induction n with
  | zero => intro x1 x2 H locs ls hf; exact absurd hf (by intro z; cases z)
  | succ n ih => intro x1 x2 H locs ls hf w hl; exact t_Fair_hasName_2b C  ih hf w hl
set_option maxHeartbeats 4000000 in
set_option maxRecDepth 20000 in
theorem c_Fair_hasName {l : Launch} {g : GX} {q : Nat → Nat} {x1 : Int32}  {σ : St} {r : Int32} (hf : f_Fair_hasName  x1 σ = some r) : KK l y_Fair_hasName prog_3_method_4_code 3 (some .boolean) 0 g (wX g q) σ [.ref (q 6), .int x1] (some (.int r)) (wX g q) σ := by
  refine KK_of (plainFor_of_name (by decide)) (Nat.le_of_ble_eq_true rfl) (fun p e s m below meth c A ls C w hl => ?_)
  have hl : lv_has ls 3 [(0, .ref (q 6)), (1, .int x1)] := hl
  obtain ⟨hx, hb, hml, hown, hts, hK, hA, hZ, hlocks, hr, hN⟩ := id C
  unfold f_Fair_hasName at hf
  refine lv_iconst (v := 0) hx hb d_Fair_hasName_0 (by decide) ?_
  refine lv_istore_n (lv' := [(2, .int 0), (0, .ref (q 6)), (1, .int x1)]) hx hb d_Fair_hasName_1 rfl hl (by decide) rfl (fun ls hl => ?_)
  exact t_Fair_hasName_2 C  FU x1 0  _ _ _ hf w (lv_sub hl [1, 2, 0] rfl)
def f_Parser_passName_76 (σ : St) : Option (Int32 × St) :=
  bd (f_Parser_tellWrong σ) fun r_2 σ_3 =>
  some ((-1), σ_3)
def f_Parser_passName_62 (x1 : Int32) (σ : St) : Option (Int32 × St) :=
  if x1 = 0 then
    f_Parser_passName_76 σ
  else
    bp (f_Reader_isOwnWord σ) fun r_2 =>
    if r_2 = 0 then
      lt ((sI σ 11)) fun x_3 =>
      bp (f_Fair_hasName x_3 σ) fun r_5 =>
      if r_5 = 0 then
        bp (f_Reader_step σ) fun σ_7 =>
        some (x_3, σ_7)
      else
        bd (f_Parser_tell 3 (sI σ 9) σ) fun r_9 σ_10 =>
        some ((-1), σ_10)
    else
      f_Parser_passName_76 σ
def f_Parser_passName_28 (t0 : Int32) (σ : St) : Option (Int32 × St) :=
  if (sI σ 8) = 1 then
    if t0 = 0 then
      bd (f_Parser_tell 1 ((sI σ 9) + 6) σ) fun r_2 σ_3 =>
      some ((-1), σ_3)
    else
      f_Parser_passName_62 t0 σ
  else
    f_Parser_passName_62 t0 σ
def f_Parser_passName_27 (σ : St) : Option (Int32 × St) :=
  f_Parser_passName_28 0 σ
def f_Parser_passName (σ : St) : Option (Int32 × St) :=
  if (sI σ 8) = 1 then
    if 6 < (sI σ 10) then
      f_Parser_passName_27 σ
    else
      f_Parser_passName_28 1 σ
  else
    f_Parser_passName_27 σ
set_option maxHeartbeats 4000000 in
set_option maxRecDepth 20000 in
theorem t_Parser_passName_76 {r : Int32} {σ2 : St} (C : Cx g A p s m av meth c prog_5_method_7_code 3 "BellHammer$Parser" (some .int))  {σ : St} {H : Heap} {locs : List Loc} {ls : Array Slot} (hf : f_Parser_passName_76    σ = some (r, σ2)) (w : Wd g (wX g (qt q)) A s σ H locs) (hl : lv_has ls 3 [(0, .ref (qt q 3))]) : WK p l e s m av below meth c 2 g (wX g (qt q)) A (some (.int r)) σ2 H locs (F0 m 76 ls []) := by
  obtain ⟨hx, hb, hml, hown, hts, hK, hA, hZ, hlocks, hr, hN⟩ := id C
  unfold f_Parser_passName_76 at hf
  refine lv_aload_n hx hb d_Parser_passName_76 rfl (lv_at hl 0 rfl) ?_
  obtain ⟨r_2, σ_3, h_1, hf⟩ := bd_e hf
  refine k_callV (As := []) (rest := []) C w (c_Parser_tellWrong (q := qt q) h_1) cv_Parser_tellWrong k616 (xr_3 C w) (by decide) hl.1 rfl (Nat.le_of_ble_eq_true rfl) d_Parser_passName_77 (fun H locs w => ?_)
  show WK p l e s m av below meth c 2 g (wX g (qt q)) A (some (.int r)) σ2 H locs (F0 m 80 ls [.int r_2])
  refine lv_pop hx hb d_Parser_passName_80 rfl ?_
  refine lv_iconst (v := (-1)) hx hb d_Parser_passName_81 (by decide) ?_
  obtain ⟨rfl, rfl⟩ := some2_e hf
  exact k_iret C w d_Parser_passName_82
set_option maxHeartbeats 4000000 in
set_option maxRecDepth 20000 in
theorem t_Parser_passName_62 {r : Int32} {σ2 : St} (C : Cx g A p s m av meth c prog_5_method_7_code 3 "BellHammer$Parser" (some .int))  {x1 : Int32} {σ : St} {H : Heap} {locs : List Loc} {ls : Array Slot} (hf : f_Parser_passName_62   x1 σ = some (r, σ2)) (w : Wd g (wX g (qt q)) A s σ H locs) (hl : lv_has ls 3 [(0, .ref (qt q 3)), (1, .int x1)]) : WK p l e s m av below meth c 2 g (wX g (qt q)) A (some (.int r)) σ2 H locs (F0 m 62 ls []) := by
  obtain ⟨hx, hb, hml, hown, hts, hK, hA, hZ, hlocks, hr, hN⟩ := id C
  unfold f_Parser_passName_62 at hf
  refine lv_iload_n hx hb d_Parser_passName_62 rfl (lv_at hl 1 rfl) ?_
  refine lv_if_eq (tgt := 76) hx hb d_Parser_passName_63 (by decide) (fun cd => ?_) (fun cd => ?_)
  · have hf := it_e cd hf
    exact t_Parser_passName_76 C  hf w (lv_sub hl [0] rfl)
  · have hf := if_e cd hf
    refine lv_aload_n hx hb d_Parser_passName_66 rfl (lv_at hl 0 rfl) ?_
    refine xg_3_reader C w k313 d_Parser_passName_67 ?_
    obtain ⟨r_2, h_1, hf⟩ := bp_e hf
    refine k_callV (As := []) (rest := []) C w (c_Reader_isOwnWord (q := qt q) h_1) cv_Reader_isOwnWord k611 (xr_4 C w) (by decide) hl.1 rfl (Nat.le_of_ble_eq_true rfl) d_Parser_passName_70 (fun H locs w => ?_)
    show WK p l e s m av below meth c 2 g (wX g (qt q)) A (some (.int r)) σ2 H locs (F0 m 73 ls [.int r_2])
    refine lv_if_eq (tgt := 83) hx hb d_Parser_passName_73 (by decide) (fun cd => ?_) (fun cd => ?_)
    · have hf := it_e cd hf
      refine lv_aload_n hx hb d_Parser_passName_83 rfl (lv_at hl 0 rfl) ?_
      refine xg_3_reader C w k313 d_Parser_passName_84 ?_
      refine xg_4_value C w k215 d_Parser_passName_87 ?_
      refine lv_topi (fun x_3 ex_3 => ?_)
      have hf := lt_e ex_3 hf
      refine lv_istore_n (lv' := [(2, .int x_3), (0, .ref (qt q 3)), (1, .int x1)]) hx hb d_Parser_passName_90 rfl hl (by decide) rfl (fun ls hl => ?_)
      refine lv_aload_n hx hb d_Parser_passName_91 rfl (lv_at hl 1 rfl) ?_
      refine xg_3_draft C w k314 d_Parser_passName_92 ?_
      refine lv_iload_n hx hb d_Parser_passName_95 rfl (lv_at hl 0 rfl) ?_
      obtain ⟨r_5, h_4, hf⟩ := bp_e hf
      refine k_callV (As := [.int x_3]) (rest := []) C w (c_Fair_hasName (q := qt q) h_4) cv_Fair_hasName k620 (xr_6 C w) (by decide) hl.1 rfl (Nat.le_of_ble_eq_true rfl) d_Parser_passName_96 (fun H locs w => ?_)
      show WK p l e s m av below meth c 2 g (wX g (qt q)) A (some (.int r)) σ2 H locs (F0 m 99 ls [.int r_5])
      refine lv_if_eq (tgt := 117) hx hb d_Parser_passName_99 (by decide) (fun cd => ?_) (fun cd => ?_)
      · have hf := it_e cd hf
        refine lv_aload_n hx hb d_Parser_passName_117 rfl (lv_at hl 1 rfl) ?_
        refine xg_3_reader C w k313 d_Parser_passName_118 ?_
        obtain ⟨σ_7, h_6, hf⟩ := bp_e hf
        refine k_callV (As := []) (rest := []) C w (c_Reader_step (q := q) h_6) cv_Reader_step k606 (xr_4 C w) (by decide) hl.1 rfl (Nat.le_of_ble_eq_true rfl) d_Parser_passName_121 (fun H locs w => ?_)
        show WK p l e s m av below meth c 2 g (wX g (qt q)) A (some (.int r)) σ2 H locs (F0 m 124 ls [])
        refine lv_iload_n hx hb d_Parser_passName_124 rfl (lv_at hl 0 rfl) ?_
        obtain ⟨rfl, rfl⟩ := some2_e hf
        exact k_iret C w d_Parser_passName_125
      · have hf := if_e cd hf
        refine lv_aload_n hx hb d_Parser_passName_102 rfl (lv_at hl 1 rfl) ?_
        refine lv_iconst (v := 3) hx hb d_Parser_passName_103 (by decide) ?_
        refine lv_aload_n hx hb d_Parser_passName_104 rfl (lv_at hl 1 rfl) ?_
        refine xg_3_reader C w k313 d_Parser_passName_105 ?_
        refine xg_4_start C w k210 d_Parser_passName_108 ?_
        obtain ⟨r_9, σ_10, h_8, hf⟩ := bd_e hf
        refine k_callV (As := [.int 3, .int (sI σ 9)]) (rest := []) C w (c_Parser_tell (q := qt q) h_8) cv_Parser_tell k590 (xr_3 C w) (by decide) hl.1 rfl (Nat.le_of_ble_eq_true rfl) d_Parser_passName_111 (fun H locs w => ?_)
        show WK p l e s m av below meth c 2 g (wX g (qt q)) A (some (.int r)) σ2 H locs (F0 m 114 ls [.int r_9])
        refine lv_pop hx hb d_Parser_passName_114 rfl ?_
        refine lv_iconst (v := (-1)) hx hb d_Parser_passName_115 (by decide) ?_
        obtain ⟨rfl, rfl⟩ := some2_e hf
        exact k_iret C w d_Parser_passName_116
    · have hf := if_e cd hf
      exact t_Parser_passName_76 C  hf w (lv_sub hl [0] rfl)
set_option maxHeartbeats 4000000 in
set_option maxRecDepth 20000 in
theorem t_Parser_passName_28 {r : Int32} {σ2 : St} (C : Cx g A p s m av meth c prog_5_method_7_code 3 "BellHammer$Parser" (some .int))  {t0 : Int32} {σ : St} {H : Heap} {locs : List Loc} {ls : Array Slot} (hf : f_Parser_passName_28   t0 σ = some (r, σ2)) (w : Wd g (wX g (qt q)) A s σ H locs) (hl : lv_has ls 3 [(0, .ref (qt q 3))]) : WK p l e s m av below meth c 2 g (wX g (qt q)) A (some (.int r)) σ2 H locs (F0 m 28 ls [.int t0]) := by
  obtain ⟨hx, hb, hml, hown, hts, hK, hA, hZ, hlocks, hr, hN⟩ := id C
  unfold f_Parser_passName_28 at hf
  refine lv_istore_n (lv' := [(1, .int t0), (0, .ref (qt q 3))]) hx hb d_Parser_passName_28 rfl hl (by decide) rfl (fun ls hl => ?_)
  refine lv_aload_n hx hb d_Parser_passName_29 rfl (lv_at hl 1 rfl) ?_
  refine xg_3_reader C w k313 d_Parser_passName_30 ?_
  refine xg_4_kind C w k209 d_Parser_passName_33 ?_
  refine lv_iconst (v := 1) hx hb d_Parser_passName_36 (by decide) ?_
  refine lv_icmp_ne (tgt := 62) hx hb d_Parser_passName_37 (by decide) (fun cd => ?_) (fun cd => ?_)
  · have hf := if_e cd hf
    exact t_Parser_passName_62 C  hf w (lv_sub hl [1, 0] rfl)
  · have hf := it_e cd hf
    refine lv_iload_n hx hb d_Parser_passName_40 rfl (lv_at hl 0 rfl) ?_
    refine lv_if_ne (tgt := 62) hx hb d_Parser_passName_41 (by decide) (fun cd => ?_) (fun cd => ?_)
    · have hf := if_e cd hf
      exact t_Parser_passName_62 C  hf w (lv_sub hl [1, 0] rfl)
    · have hf := it_e cd hf
      refine lv_aload_n hx hb d_Parser_passName_44 rfl (lv_at hl 1 rfl) ?_
      refine lv_iconst (v := 1) hx hb d_Parser_passName_45 (by decide) ?_
      refine lv_aload_n hx hb d_Parser_passName_46 rfl (lv_at hl 1 rfl) ?_
      refine xg_3_reader C w k313 d_Parser_passName_47 ?_
      refine xg_4_start C w k210 d_Parser_passName_50 ?_
      refine lv_bipush (v := 6) hx hb d_Parser_passName_53 (by decide) ?_
      refine lv_iadd hx hb d_Parser_passName_55 ?_
      obtain ⟨r_2, σ_3, h_1, hf⟩ := bd_e hf
      refine k_callV (As := [.int 1, .int ((sI σ 9) + 6)]) (rest := []) C w (c_Parser_tell (q := qt q) h_1) cv_Parser_tell k590 (xr_3 C w) (by decide) hl.1 rfl (Nat.le_of_ble_eq_true rfl) d_Parser_passName_56 (fun H locs w => ?_)
      show WK p l e s m av below meth c 2 g (wX g (qt q)) A (some (.int r)) σ2 H locs (F0 m 59 ls [.int r_2])
      refine lv_pop hx hb d_Parser_passName_59 rfl ?_
      refine lv_iconst (v := (-1)) hx hb d_Parser_passName_60 (by decide) ?_
      obtain ⟨rfl, rfl⟩ := some2_e hf
      exact k_iret C w d_Parser_passName_61
set_option maxHeartbeats 4000000 in
set_option maxRecDepth 20000 in
theorem t_Parser_passName_27 {r : Int32} {σ2 : St} (C : Cx g A p s m av meth c prog_5_method_7_code 3 "BellHammer$Parser" (some .int))  {σ : St} {H : Heap} {locs : List Loc} {ls : Array Slot} (hf : f_Parser_passName_27    σ = some (r, σ2)) (w : Wd g (wX g (qt q)) A s σ H locs) (hl : lv_has ls 3 [(0, .ref (qt q 3))]) : WK p l e s m av below meth c 2 g (wX g (qt q)) A (some (.int r)) σ2 H locs (F0 m 27 ls []) := by
  obtain ⟨hx, hb, hml, hown, hts, hK, hA, hZ, hlocks, hr, hN⟩ := id C
  unfold f_Parser_passName_27 at hf
  refine lv_iconst (v := 0) hx hb d_Parser_passName_27 (by decide) ?_
  exact t_Parser_passName_28 C  hf w (lv_sub hl [0] rfl)
set_option maxHeartbeats 4000000 in
set_option maxRecDepth 20000 in
theorem c_Parser_passName {l : Launch} {g : GX} {q : Nat → Nat}  {σ : St} {r : Int32} {σ2 : St} (hf : f_Parser_passName   σ = some (r, σ2)) : KK l y_Parser_passName prog_5_method_7_code 3 (some .int) 2 g (wX g (qt q)) σ [.ref (qt q 3)] (some (.int r)) (wX g (qt q)) σ2 := by
  refine KK_of (plainFor_of_name (by decide)) (Nat.le_of_ble_eq_true rfl) (fun p e s m below meth c A ls C w hl => ?_)
  have hl : lv_has ls 3 [(0, .ref (qt q 3))] := hl
  obtain ⟨hx, hb, hml, hown, hts, hK, hA, hZ, hlocks, hr, hN⟩ := id C
  unfold f_Parser_passName at hf
  refine lv_aload_n hx hb d_Parser_passName_0 rfl (lv_at hl 0 rfl) ?_
  refine xg_3_reader C w k313 d_Parser_passName_1 ?_
  refine xg_4_kind C w k209 d_Parser_passName_4 ?_
  refine lv_iconst (v := 1) hx hb d_Parser_passName_7 (by decide) ?_
  refine lv_icmp_ne (tgt := 27) hx hb d_Parser_passName_8 (by decide) (fun cd => ?_) (fun cd => ?_)
  · have hf := if_e cd hf
    exact t_Parser_passName_27 C  hf w (lv_sub hl [0] rfl)
  · have hf := it_e cd hf
    refine lv_aload_n hx hb d_Parser_passName_11 rfl (lv_at hl 0 rfl) ?_
    refine xg_3_reader C w k313 d_Parser_passName_12 ?_
    refine xg_4_size C w k213 d_Parser_passName_15 ?_
    refine lv_bipush (v := 6) hx hb d_Parser_passName_18 (by decide) ?_
    refine lv_icmp_gt (tgt := 27) hx hb d_Parser_passName_20 (by decide) (fun cd => ?_) (fun cd => ?_)
    · have hf := it_e cd hf
      exact t_Parser_passName_27 C  hf w (lv_sub hl [0] rfl)
    · have hf := if_e cd hf
      refine lv_iconst (v := 1) hx hb d_Parser_passName_23 (by decide) ?_
      refine lv_goto (tgt := 28) hx hb d_Parser_passName_24 (by decide) ?_
      exact t_Parser_passName_28 C  hf w (lv_sub hl [0] rfl)
def f_Parser_readTrier_154 (x1 : Int32) (x2 : Int32) (t0 : Int32) (t1 : Int32) (σ : St) : Option (Int32 × St) :=
  gd (inB t1 48) <|
  lt (uA σ 5 (upd (sA σ 5) t1.toNatClampNeg t0)) fun σ_2 =>
  gd (inB x1 8) <|
  lt (uA σ_2 4 (upd (sA σ_2 4) x1.toNatClampNeg x2)) fun σ_4 =>
  lt (uI σ_4 14 ((sI σ_4 14) + 1)) fun σ_5 =>
  some (1, σ_5)
def f_Parser_readTrier_132 (x1 : Int32) (x2 : Int32) (x3 : Int32) (σ : St) : Option (Int32 × St) :=
  if x3 = 0 then
    f_Parser_readTrier_154 x1 x2 0 ((x1 * 6) + 5) σ
  else
    f_Parser_readTrier_154 x1 x2 1 ((x1 * 6) + 5) σ
def f_Parser_readTrier_48b (k48 : Int32 → Int32 → Int32 → St → Option (Int32 × St)) (x1 : Int32) (x2 : Int32) (x3 : Int32) (σ : St) : Option (Int32 × St) :=
  if 5 ≤ x3 then
    bp (f_Reader_isWord 8 σ) fun r_2 =>
    if r_2 = 0 then
      f_Parser_readTrier_132 x1 x2 r_2 σ
    else
      bp (f_Reader_step σ) fun σ_4 =>
      f_Parser_readTrier_132 x1 x2 r_2 σ_4
  else
    bd (f_Parser_passWord (3 + x3) σ) fun r_6 σ_7 =>
    if r_6 = 0 then
      some (0, σ_7)
    else
      gd (inB x3 5) <|
      gd (inB x3 5) <|
      bd (f_Parser_passNumber (stV 0 x3) (stV 1 x3) σ_7) fun r_11 σ_12 =>
      if r_11 = (-1) then
        some (0, σ_12)
      else
        gd (inB ((x1 * 6) + x3) 48) <|
        lt (uA σ_12 5 (upd (sA σ_12 5) ((x1 * 6) + x3).toNatClampNeg r_11)) fun σ_14 =>
        lt ((x3 + 1)) fun x_15 =>
        k48 x1 x2 x_15 σ_14
def f_Parser_readTrier_48 : Nat → Int32 → Int32 → Int32 → St → Option (Int32 × St)
  | 0 => fun _ _ _ _ => none
  | n + 1 => f_Parser_readTrier_48b   (f_Parser_readTrier_48   n)
def f_Parser_readTrier (σ : St) : Option (Int32 × St) :=
  lt ((sI σ 14)) fun x_1 =>
  if x_1 < 8 then
    bp (f_Reader_step σ) fun σ_3 =>
    bd (f_Parser_passName σ_3) fun r_5 σ_6 =>
    if r_5 = (-1) then
      some (0, σ_6)
    else
      f_Parser_readTrier_48 FU x_1 r_5 0 σ_6
  else
    bd (f_Parser_tell 5 (sI σ 9) σ) fun r_8 σ_9 =>
    gd (isB r_8) <|
    some (r_8, σ_9)
set_option maxHeartbeats 4000000 in
set_option maxRecDepth 20000 in
theorem t_Parser_readTrier_154 {r : Int32} {σ2 : St} (C : Cx g A p s m av meth c prog_5_method_12_code 5 "BellHammer$Parser" (some .boolean))  {x1 : Int32} {x2 : Int32} {t0 : Int32} {t1 : Int32} {σ : St} {H : Heap} {locs : List Loc} {ls : Array Slot} (hf : f_Parser_readTrier_154   x1 x2 t0 t1 σ = some (r, σ2)) (w : Wd g (wX g (qt q)) A s σ H locs) (hl : lv_has ls 5 [(0, .ref (qt q 3)), (1, .int x1), (2, .int x2)]) : WK p l e s m av below meth c 3 g (wX g (qt q)) A (some (.int r)) σ2 H locs (F0 m 154 ls [.int t0, .int t1, .ref (qt q 10)]) := by
  obtain ⟨hx, hb, hml, hown, hts, hK, hA, hZ, hlocks, hr, hN⟩ := id C
  unfold f_Parser_readTrier_154 at hf
  obtain ⟨g_1, hf⟩ := gd_e hf
  refine xs_10 C w g_1 d_Parser_readTrier_154 (fun σ_2 H locs eσ_2 w => ?_)
  have hf := lt_e eσ_2 hf
  refine lv_aload_n hx hb d_Parser_readTrier_155 rfl (lv_at hl 0 rfl) ?_
  refine xg_3_draft C w k314 d_Parser_readTrier_156 ?_
  refine xg_6_trierName C w k257 d_Parser_readTrier_159 ?_
  refine lv_iload_n hx hb d_Parser_readTrier_162 rfl (lv_at hl 1 rfl) ?_
  refine lv_iload_n hx hb d_Parser_readTrier_163 rfl (lv_at hl 2 rfl) ?_
  obtain ⟨g_3, hf⟩ := gd_e hf
  refine xs_9 C w g_3 d_Parser_readTrier_164 (fun σ_4 H locs eσ_4 w => ?_)
  have hf := lt_e eσ_4 hf
  refine lv_aload_n hx hb d_Parser_readTrier_165 rfl (lv_at hl 0 rfl) ?_
  refine xg_3_draft C w k314 d_Parser_readTrier_166 ?_
  refine lv_dup hx hb d_Parser_readTrier_169 rfl ?_
  refine xg_6_triers C w k278 d_Parser_readTrier_170 ?_
  refine lv_iconst (v := 1) hx hb d_Parser_readTrier_173 (by decide) ?_
  refine lv_iadd hx hb d_Parser_readTrier_174 ?_
  refine xp_6_triers C w k278 d_Parser_readTrier_175 (fun σ_5 H locs eσ_5 w => ?_)
  have hf := lt_e eσ_5 hf
  refine lv_iconst (v := 1) hx hb d_Parser_readTrier_178 (by decide) ?_
  obtain ⟨rfl, rfl⟩ := some2_e hf
  exact k_zret C w (by decide) d_Parser_readTrier_179
set_option maxHeartbeats 4000000 in
set_option maxRecDepth 20000 in
theorem t_Parser_readTrier_132 {r : Int32} {σ2 : St} (C : Cx g A p s m av meth c prog_5_method_12_code 5 "BellHammer$Parser" (some .boolean))  {x1 : Int32} {x2 : Int32} {x3 : Int32} {σ : St} {H : Heap} {locs : List Loc} {ls : Array Slot} (hf : f_Parser_readTrier_132   x1 x2 x3 σ = some (r, σ2)) (w : Wd g (wX g (qt q)) A s σ H locs) (hl : lv_has ls 5 [(0, .ref (qt q 3)), (1, .int x1), (2, .int x2), (3, .int x3)]) : WK p l e s m av below meth c 3 g (wX g (qt q)) A (some (.int r)) σ2 H locs (F0 m 132 ls []) := by
  obtain ⟨hx, hb, hml, hown, hts, hK, hA, hZ, hlocks, hr, hN⟩ := id C
  unfold f_Parser_readTrier_132 at hf
  refine lv_aload_n hx hb d_Parser_readTrier_132 rfl (lv_at hl 0 rfl) ?_
  refine xg_3_draft C w k314 d_Parser_readTrier_133 ?_
  refine xg_6_traits C w k259 d_Parser_readTrier_136 ?_
  refine lv_iload_n hx hb d_Parser_readTrier_139 rfl (lv_at hl 1 rfl) ?_
  refine lv_bipush (v := 6) hx hb d_Parser_readTrier_140 (by decide) ?_
  refine lv_imul hx hb d_Parser_readTrier_142 ?_
  refine lv_iconst (v := 5) hx hb d_Parser_readTrier_143 (by decide) ?_
  refine lv_iadd hx hb d_Parser_readTrier_144 ?_
  refine lv_iload_n hx hb d_Parser_readTrier_145 rfl (lv_at hl 3 rfl) ?_
  refine lv_if_eq (tgt := 153) hx hb d_Parser_readTrier_146 (by decide) (fun cd => ?_) (fun cd => ?_)
  · have hf := it_e cd hf
    refine lv_iconst (v := 0) hx hb d_Parser_readTrier_153 (by decide) ?_
    exact t_Parser_readTrier_154 C  hf w (lv_sub hl [0, 1, 2] rfl)
  · have hf := if_e cd hf
    refine lv_iconst (v := 1) hx hb d_Parser_readTrier_149 (by decide) ?_
    refine lv_goto (tgt := 154) hx hb d_Parser_readTrier_150 (by decide) ?_
    exact t_Parser_readTrier_154 C  hf w (lv_sub hl [0, 1, 2] rfl)
set_option maxHeartbeats 4000000 in
set_option maxRecDepth 20000 in
theorem t_Parser_readTrier_48b {r : Int32} {σ2 : St} (C : Cx g A p s m av meth c prog_5_method_12_code 5 "BellHammer$Parser" (some .boolean)) {k48 : Int32 → Int32 → Int32 → St → Option (Int32 × St)} (hk48 : ∀ (x1 : Int32) (x2 : Int32) (x3 : Int32) (σ : St) (H : Heap) (locs : List Loc) (ls : Array Slot), k48 x1 x2 x3 σ = some (r, σ2) → Wd g (wX g (qt q)) A s σ H locs → lv_has ls 5 [(0, .ref (qt q 3)), (1, .int x1), (2, .int x2), (3, .int x3)] → WK p l e s m av below meth c 3 g (wX g (qt q)) A (some (.int r)) σ2 H locs (F0 m 48 ls []))  {x1 : Int32} {x2 : Int32} {x3 : Int32} {σ : St} {H : Heap} {locs : List Loc} {ls : Array Slot} (hf : f_Parser_readTrier_48b  k48 x1 x2 x3 σ = some (r, σ2)) (w : Wd g (wX g (qt q)) A s σ H locs) (hl : lv_has ls 5 [(0, .ref (qt q 3)), (1, .int x1), (2, .int x2), (3, .int x3)]) : WK p l e s m av below meth c 3 g (wX g (qt q)) A (some (.int r)) σ2 H locs (F0 m 48 ls []) := by
  obtain ⟨hx, hb, hml, hown, hts, hK, hA, hZ, hlocks, hr, hN⟩ := id C
  unfold f_Parser_readTrier_48b at hf
  refine lv_iload_n hx hb d_Parser_readTrier_48 rfl (lv_at hl 3 rfl) ?_
  refine lv_iconst (v := 5) hx hb d_Parser_readTrier_49 (by decide) ?_
  refine lv_icmp_ge (tgt := 111) hx hb d_Parser_readTrier_50 (by decide) (fun cd => ?_) (fun cd => ?_)
  · have hf := it_e cd hf
    refine lv_aload_n hx hb d_Parser_readTrier_111 rfl (lv_at hl 0 rfl) ?_
    refine xg_3_reader C w k313 d_Parser_readTrier_112 ?_
    refine lv_bipush (v := 8) hx hb d_Parser_readTrier_115 (by decide) ?_
    obtain ⟨r_2, h_1, hf⟩ := bp_e hf
    refine k_callV (As := [.int 8]) (rest := []) C w (c_Reader_isWord (q := qt q) h_1) cv_Reader_isWord k598 (xr_4 C w) (by decide) hl.1 rfl (Nat.le_of_ble_eq_true rfl) d_Parser_readTrier_117 (fun H locs w => ?_)
    show WK p l e s m av below meth c 3 g (wX g (qt q)) A (some (.int r)) σ2 H locs (F0 m 120 ls [.int r_2])
    refine lv_istore_n (lv' := [(3, .int r_2), (0, .ref (qt q 3)), (1, .int x1), (2, .int x2)]) hx hb d_Parser_readTrier_120 rfl hl (by decide) rfl (fun ls hl => ?_)
    refine lv_iload_n hx hb d_Parser_readTrier_121 rfl (lv_at hl 0 rfl) ?_
    refine lv_if_eq (tgt := 132) hx hb d_Parser_readTrier_122 (by decide) (fun cd => ?_) (fun cd => ?_)
    · have hf := it_e cd hf
      exact t_Parser_readTrier_132 C  hf w (lv_sub hl [1, 2, 3, 0] rfl)
    · have hf := if_e cd hf
      refine lv_aload_n hx hb d_Parser_readTrier_125 rfl (lv_at hl 1 rfl) ?_
      refine xg_3_reader C w k313 d_Parser_readTrier_126 ?_
      obtain ⟨σ_4, h_3, hf⟩ := bp_e hf
      refine k_callV (As := []) (rest := []) C w (c_Reader_step (q := q) h_3) cv_Reader_step k606 (xr_4 C w) (by decide) hl.1 rfl (Nat.le_of_ble_eq_true rfl) d_Parser_readTrier_129 (fun H locs w => ?_)
      show WK p l e s m av below meth c 3 g (wX g (qt q)) A (some (.int r)) σ2 H locs (F0 m 132 ls [])
      exact t_Parser_readTrier_132 C  hf w (lv_sub hl [1, 2, 3, 0] rfl)
  · have hf := if_e cd hf
    refine lv_aload_n hx hb d_Parser_readTrier_53 rfl (lv_at hl 0 rfl) ?_
    refine lv_iconst (v := 3) hx hb d_Parser_readTrier_54 (by decide) ?_
    refine lv_iload_n hx hb d_Parser_readTrier_55 rfl (lv_at hl 3 rfl) ?_
    refine lv_iadd hx hb d_Parser_readTrier_56 ?_
    obtain ⟨r_6, σ_7, h_5, hf⟩ := bd_e hf
    refine k_callV (As := [.int (3 + x3)]) (rest := []) C w (c_Parser_passWord (q := q) h_5) cv_Parser_passWord k624 (xr_3 C w) (by decide) hl.1 rfl (Nat.le_of_ble_eq_true rfl) d_Parser_readTrier_57 (fun H locs w => ?_)
    show WK p l e s m av below meth c 3 g (wX g (qt q)) A (some (.int r)) σ2 H locs (F0 m 60 ls [.int r_6])
    refine lv_if_ne (tgt := 65) hx hb d_Parser_readTrier_60 (by decide) (fun cd => ?_) (fun cd => ?_)
    · have hf := if_e cd hf
      refine lv_aload_n hx hb d_Parser_readTrier_65 rfl (lv_at hl 0 rfl) ?_
      refine r_getsN C w 0 rfl (List.mem_of_getElem? (l := nestF) (i := 2) rfl) d_Parser_readTrier_66 ?_
      refine lv_iload_n hx hb d_Parser_readTrier_69 rfl (lv_at hl 3 rfl) ?_
      obtain ⟨g_8, hf⟩ := gd_e hf
      refine r_sld C w 0 rfl g_8 d_Parser_readTrier_70 ?_
      refine r_getsN C w 1 rfl (List.mem_of_getElem? (l := nestF) (i := 3) rfl) d_Parser_readTrier_71 ?_
      refine lv_iload_n hx hb d_Parser_readTrier_74 rfl (lv_at hl 3 rfl) ?_
      obtain ⟨g_9, hf⟩ := gd_e hf
      refine r_sld C w 1 rfl g_9 d_Parser_readTrier_75 ?_
      obtain ⟨r_11, σ_12, h_10, hf⟩ := bd_e hf
      refine k_callV (As := [.int (stV 0 x3), .int (stV 1 x3)]) (rest := []) C w (c_Parser_passNumber (q := q) h_10) cv_Parser_passNumber k628 (xr_3 C w) (by decide) hl.1 rfl (Nat.le_of_ble_eq_true rfl) d_Parser_readTrier_76 (fun H locs w => ?_)
      show WK p l e s m av below meth c 3 g (wX g (qt q)) A (some (.int r)) σ2 H locs (F0 m 79 ls [.int r_11])
      refine lv_istore (lv' := [(4, .int r_11), (0, .ref (qt q 3)), (1, .int x1), (2, .int x2), (3, .int x3)]) hx hb d_Parser_readTrier_79 hl (by decide) rfl (fun ls hl => ?_)
      refine lv_iload hx hb d_Parser_readTrier_81 (lv_at hl 0 rfl) ?_
      refine lv_iconst (v := (-1)) hx hb d_Parser_readTrier_83 (by decide) ?_
      refine lv_icmp_ne (tgt := 89) hx hb d_Parser_readTrier_84 (by decide) (fun cd => ?_) (fun cd => ?_)
      · have hf := if_e cd hf
        refine lv_aload_n hx hb d_Parser_readTrier_89 rfl (lv_at hl 1 rfl) ?_
        refine xg_3_draft C w k314 d_Parser_readTrier_90 ?_
        refine xg_6_traits C w k259 d_Parser_readTrier_93 ?_
        refine lv_iload_n hx hb d_Parser_readTrier_96 rfl (lv_at hl 2 rfl) ?_
        refine lv_bipush (v := 6) hx hb d_Parser_readTrier_97 (by decide) ?_
        refine lv_imul hx hb d_Parser_readTrier_99 ?_
        refine lv_iload_n hx hb d_Parser_readTrier_100 rfl (lv_at hl 4 rfl) ?_
        refine lv_iadd hx hb d_Parser_readTrier_101 ?_
        refine lv_iload hx hb d_Parser_readTrier_102 (lv_at hl 0 rfl) ?_
        obtain ⟨g_13, hf⟩ := gd_e hf
        refine xs_10 C w g_13 d_Parser_readTrier_104 (fun σ_14 H locs eσ_14 w => ?_)
        have hf := lt_e eσ_14 hf
        obtain ⟨x_15, ex_15⟩ : ∃ y : Int32, y = (x3 + 1) := ⟨_, rfl⟩
        have hf := lt_e ex_15 hf
        refine lv_iinc (v := x_15) (lv' := [(3, .int x_15), (4, .int r_11), (0, .ref (qt q 3)), (1, .int x1), (2, .int x2)]) hx hb d_Parser_readTrier_105 hl (k := 4) rfl (by rw [ex_15]; rfl) (by decide) rfl (fun ls hl => ?_)
        refine lv_goto (tgt := 48) hx hb d_Parser_readTrier_108 (by decide) ?_
        exact hk48 x1 x2 x_15 σ_14 _ _ _ hf w (lv_sub hl [2, 3, 4, 0] rfl)
      · have hf := it_e cd hf
        refine lv_iconst (v := 0) hx hb d_Parser_readTrier_87 (by decide) ?_
        obtain ⟨rfl, rfl⟩ := some2_e hf
        exact k_zret C w (by decide) d_Parser_readTrier_88
    · have hf := it_e cd hf
      refine lv_iconst (v := 0) hx hb d_Parser_readTrier_63 (by decide) ?_
      obtain ⟨rfl, rfl⟩ := some2_e hf
      exact k_zret C w (by decide) d_Parser_readTrier_64
set_option maxHeartbeats 4000000 in
set_option maxRecDepth 20000 in
theorem t_Parser_readTrier_48 {r : Int32} {σ2 : St} (C : Cx g A p s m av meth c prog_5_method_12_code 5 "BellHammer$Parser" (some .boolean))  : ∀ (n : Nat) (x1 : Int32) (x2 : Int32) (x3 : Int32) (σ : St) (H : Heap) (locs : List Loc) (ls : Array Slot), f_Parser_readTrier_48   n x1 x2 x3 σ = some (r, σ2) → Wd g (wX g (qt q)) A s σ H locs → lv_has ls 5 [(0, .ref (qt q 3)), (1, .int x1), (2, .int x2), (3, .int x3)] → WK p l e s m av below meth c 3 g (wX g (qt q)) A (some (.int r)) σ2 H locs (F0 m 48 ls []) := by
  intro n
  induction n with
  | zero => intro x1 x2 x3 σ H locs ls hf; exact absurd hf (by intro z; cases z)
  | succ n ih => intro x1 x2 x3 σ H locs ls hf w hl; exact t_Parser_readTrier_48b C  ih hf w hl
set_option maxHeartbeats 4000000 in
set_option maxRecDepth 20000 in
theorem c_Parser_readTrier {l : Launch} {g : GX} {q : Nat → Nat}  {σ : St} {r : Int32} {σ2 : St} (hf : f_Parser_readTrier   σ = some (r, σ2)) : KK l y_Parser_readTrier prog_5_method_12_code 5 (some .boolean) 3 g (wX g (qt q)) σ [.ref (qt q 3)] (some (.int r)) (wX g (qt q)) σ2 := by
  refine KK_of (plainFor_of_name (by decide)) (Nat.le_of_ble_eq_true rfl) (fun p e s m below meth c A ls C w hl => ?_)
  have hl : lv_has ls 5 [(0, .ref (qt q 3))] := hl
  obtain ⟨hx, hb, hml, hown, hts, hK, hA, hZ, hlocks, hr, hN⟩ := id C
  unfold f_Parser_readTrier at hf
  refine lv_aload_n hx hb d_Parser_readTrier_0 rfl (lv_at hl 0 rfl) ?_
  refine xg_3_draft C w k314 d_Parser_readTrier_1 ?_
  refine xg_6_triers C w k278 d_Parser_readTrier_4 ?_
  refine lv_topi (fun x_1 ex_1 => ?_)
  have hf := lt_e ex_1 hf
  refine lv_istore_n (lv' := [(1, .int x_1), (0, .ref (qt q 3))]) hx hb d_Parser_readTrier_7 rfl hl (by decide) rfl (fun ls hl => ?_)
  refine lv_iload_n hx hb d_Parser_readTrier_8 rfl (lv_at hl 0 rfl) ?_
  refine lv_bipush (v := 8) hx hb d_Parser_readTrier_9 (by decide) ?_
  refine lv_icmp_lt (tgt := 27) hx hb d_Parser_readTrier_11 (by decide) (fun cd => ?_) (fun cd => ?_)
  · have hf := it_e cd hf
    refine lv_aload_n hx hb d_Parser_readTrier_27 rfl (lv_at hl 1 rfl) ?_
    refine xg_3_reader C w k313 d_Parser_readTrier_28 ?_
    obtain ⟨σ_3, h_2, hf⟩ := bp_e hf
    refine k_callV (As := []) (rest := []) C w (c_Reader_step (q := q) h_2) cv_Reader_step k606 (xr_4 C w) (by decide) hl.1 rfl (Nat.le_of_ble_eq_true rfl) d_Parser_readTrier_31 (fun H locs w => ?_)
    show WK p l e s m _ below meth c 3 g (wX g (qt q)) A (some (.int r)) σ2 H locs (F0 m 34 ls [])
    refine lv_aload_n hx hb d_Parser_readTrier_34 rfl (lv_at hl 1 rfl) ?_
    obtain ⟨r_5, σ_6, h_4, hf⟩ := bd_e hf
    refine k_callV (As := []) (rest := []) C w (c_Parser_passName (q := q) h_4) cv_Parser_passName k607 (xr_3 C w) (by decide) hl.1 rfl (Nat.le_of_ble_eq_true rfl) d_Parser_readTrier_35 (fun H locs w => ?_)
    show WK p l e s m _ below meth c 3 g (wX g (qt q)) A (some (.int r)) σ2 H locs (F0 m 38 ls [.int r_5])
    refine lv_istore_n (lv' := [(2, .int r_5), (1, .int x_1), (0, .ref (qt q 3))]) hx hb d_Parser_readTrier_38 rfl hl (by decide) rfl (fun ls hl => ?_)
    refine lv_iload_n hx hb d_Parser_readTrier_39 rfl (lv_at hl 0 rfl) ?_
    refine lv_iconst (v := (-1)) hx hb d_Parser_readTrier_40 (by decide) ?_
    refine lv_icmp_ne (tgt := 46) hx hb d_Parser_readTrier_41 (by decide) (fun cd => ?_) (fun cd => ?_)
    · have hf := if_e cd hf
      refine lv_iconst (v := 0) hx hb d_Parser_readTrier_46 (by decide) ?_
      refine lv_istore_n (lv' := [(3, .int 0), (2, .int r_5), (1, .int x_1), (0, .ref (qt q 3))]) hx hb d_Parser_readTrier_47 rfl hl (by decide) rfl (fun ls hl => ?_)
      exact t_Parser_readTrier_48 C  FU x_1 r_5 0 σ_6 _ _ _ hf w (lv_sub hl [3, 2, 1, 0] rfl)
    · have hf := it_e cd hf
      refine lv_iconst (v := 0) hx hb d_Parser_readTrier_44 (by decide) ?_
      obtain ⟨rfl, rfl⟩ := some2_e hf
      exact k_zret C w (by decide) d_Parser_readTrier_45
  · have hf := if_e cd hf
    refine lv_aload_n hx hb d_Parser_readTrier_14 rfl (lv_at hl 1 rfl) ?_
    refine lv_iconst (v := 5) hx hb d_Parser_readTrier_15 (by decide) ?_
    refine lv_aload_n hx hb d_Parser_readTrier_16 rfl (lv_at hl 1 rfl) ?_
    refine xg_3_reader C w k313 d_Parser_readTrier_17 ?_
    refine xg_4_start C w k210 d_Parser_readTrier_20 ?_
    obtain ⟨r_8, σ_9, h_7, hf⟩ := bd_e hf
    refine k_callV (As := [.int 5, .int (sI σ 9)]) (rest := []) C w (c_Parser_tell (q := qt q) h_7) cv_Parser_tell k590 (xr_3 C w) (by decide) hl.1 rfl (Nat.le_of_ble_eq_true rfl) d_Parser_readTrier_23 (fun H locs w => ?_)
    show WK p l e s m _ below meth c 3 g (wX g (qt q)) A (some (.int r)) σ2 H locs (F0 m 26 ls [.int r_8])
    obtain ⟨g_10, hf⟩ := gd_e hf
    obtain ⟨rfl, rfl⟩ := some2_e hf
    exact k_zret C w g_10 d_Parser_readTrier_26
def f_Parser_readMark (σ : St) : Option (Int32 × St) :=
  lt ((sI σ 13)) fun x_1 =>
  if x_1 < 6 then
    bp (f_Reader_step σ) fun σ_3 =>
    bd (f_Parser_passName σ_3) fun r_5 σ_6 =>
    if r_5 = (-1) then
      some (0, σ_6)
    else
      bd (f_Parser_passWord 1 σ_6) fun r_8 σ_9 =>
      if r_8 = 0 then
        some (0, σ_9)
      else
        bd (f_Parser_passNumber 1 99 σ_9) fun r_11 σ_12 =>
        if r_11 = (-1) then
          some (0, σ_12)
        else
          gd (inB x_1 6) <|
          lt (uA σ_12 2 (upd (sA σ_12 2) x_1.toNatClampNeg r_5)) fun σ_14 =>
          gd (inB x_1 6) <|
          lt (uA σ_14 3 (upd (sA σ_14 3) x_1.toNatClampNeg r_11)) fun σ_16 =>
          lt (uI σ_16 13 ((sI σ_16 13) + 1)) fun σ_17 =>
          some (1, σ_17)
  else
    bd (f_Parser_tell 5 (sI σ 9) σ) fun r_19 σ_20 =>
    gd (isB r_19) <|
    some (r_19, σ_20)
set_option maxHeartbeats 4000000 in
set_option maxRecDepth 20000 in
theorem c_Parser_readMark {l : Launch} {g : GX} {q : Nat → Nat}  {σ : St} {r : Int32} {σ2 : St} (hf : f_Parser_readMark   σ = some (r, σ2)) : KK l y_Parser_readMark prog_5_method_11_code 4 (some .boolean) 3 g (wX g (qt q)) σ [.ref (qt q 3)] (some (.int r)) (wX g (qt q)) σ2 := by
  refine KK_of (plainFor_of_name (by decide)) (Nat.le_of_ble_eq_true rfl) (fun p e s m below meth c A ls C w hl => ?_)
  have hl : lv_has ls 4 [(0, .ref (qt q 3))] := hl
  obtain ⟨hx, hb, hml, hown, hts, hK, hA, hZ, hlocks, hr, hN⟩ := id C
  unfold f_Parser_readMark at hf
  refine lv_aload_n hx hb d_Parser_readMark_0 rfl (lv_at hl 0 rfl) ?_
  refine xg_3_draft C w k314 d_Parser_readMark_1 ?_
  refine xg_6_marks C w k274 d_Parser_readMark_4 ?_
  refine lv_topi (fun x_1 ex_1 => ?_)
  have hf := lt_e ex_1 hf
  refine lv_istore_n (lv' := [(1, .int x_1), (0, .ref (qt q 3))]) hx hb d_Parser_readMark_7 rfl hl (by decide) rfl (fun ls hl => ?_)
  refine lv_iload_n hx hb d_Parser_readMark_8 rfl (lv_at hl 0 rfl) ?_
  refine lv_bipush (v := 6) hx hb d_Parser_readMark_9 (by decide) ?_
  refine lv_icmp_lt (tgt := 27) hx hb d_Parser_readMark_11 (by decide) (fun cd => ?_) (fun cd => ?_)
  · have hf := it_e cd hf
    refine lv_aload_n hx hb d_Parser_readMark_27 rfl (lv_at hl 1 rfl) ?_
    refine xg_3_reader C w k313 d_Parser_readMark_28 ?_
    obtain ⟨σ_3, h_2, hf⟩ := bp_e hf
    refine k_callV (As := []) (rest := []) C w (c_Reader_step (q := q) h_2) cv_Reader_step k606 (xr_4 C w) (by decide) hl.1 rfl (Nat.le_of_ble_eq_true rfl) d_Parser_readMark_31 (fun H locs w => ?_)
    show WK p l e s m _ below meth c 3 g (wX g (qt q)) A (some (.int r)) σ2 H locs (F0 m 34 ls [])
    refine lv_aload_n hx hb d_Parser_readMark_34 rfl (lv_at hl 1 rfl) ?_
    obtain ⟨r_5, σ_6, h_4, hf⟩ := bd_e hf
    refine k_callV (As := []) (rest := []) C w (c_Parser_passName (q := q) h_4) cv_Parser_passName k607 (xr_3 C w) (by decide) hl.1 rfl (Nat.le_of_ble_eq_true rfl) d_Parser_readMark_35 (fun H locs w => ?_)
    show WK p l e s m _ below meth c 3 g (wX g (qt q)) A (some (.int r)) σ2 H locs (F0 m 38 ls [.int r_5])
    refine lv_istore_n (lv' := [(2, .int r_5), (1, .int x_1), (0, .ref (qt q 3))]) hx hb d_Parser_readMark_38 rfl hl (by decide) rfl (fun ls hl => ?_)
    refine lv_iload_n hx hb d_Parser_readMark_39 rfl (lv_at hl 0 rfl) ?_
    refine lv_iconst (v := (-1)) hx hb d_Parser_readMark_40 (by decide) ?_
    refine lv_icmp_eq (tgt := 52) hx hb d_Parser_readMark_41 (by decide) (fun cd => ?_) (fun cd => ?_)
    · have hf := it_e cd hf
      refine lv_iconst (v := 0) hx hb d_Parser_readMark_52 (by decide) ?_
      obtain ⟨rfl, rfl⟩ := some2_e hf
      exact k_zret C w (by decide) d_Parser_readMark_53
    · have hf := if_e cd hf
      refine lv_aload_n hx hb d_Parser_readMark_44 rfl (lv_at hl 2 rfl) ?_
      refine lv_iconst (v := 1) hx hb d_Parser_readMark_45 (by decide) ?_
      obtain ⟨r_8, σ_9, h_7, hf⟩ := bd_e hf
      refine k_callV (As := [.int 1]) (rest := []) C w (c_Parser_passWord (q := q) h_7) cv_Parser_passWord k624 (xr_3 C w) (by decide) hl.1 rfl (Nat.le_of_ble_eq_true rfl) d_Parser_readMark_46 (fun H locs w => ?_)
      show WK p l e s m _ below meth c 3 g (wX g (qt q)) A (some (.int r)) σ2 H locs (F0 m 49 ls [.int r_8])
      refine lv_if_ne (tgt := 54) hx hb d_Parser_readMark_49 (by decide) (fun cd => ?_) (fun cd => ?_)
      · have hf := if_e cd hf
        refine lv_aload_n hx hb d_Parser_readMark_54 rfl (lv_at hl 2 rfl) ?_
        refine lv_iconst (v := 1) hx hb d_Parser_readMark_55 (by decide) ?_
        refine lv_bipush (v := 99) hx hb d_Parser_readMark_56 (by decide) ?_
        obtain ⟨r_11, σ_12, h_10, hf⟩ := bd_e hf
        refine k_callV (As := [.int 1, .int 99]) (rest := []) C w (c_Parser_passNumber (q := q) h_10) cv_Parser_passNumber k628 (xr_3 C w) (by decide) hl.1 rfl (Nat.le_of_ble_eq_true rfl) d_Parser_readMark_58 (fun H locs w => ?_)
        show WK p l e s m _ below meth c 3 g (wX g (qt q)) A (some (.int r)) σ2 H locs (F0 m 61 ls [.int r_11])
        refine lv_istore_n (lv' := [(3, .int r_11), (2, .int r_5), (1, .int x_1), (0, .ref (qt q 3))]) hx hb d_Parser_readMark_61 rfl hl (by decide) rfl (fun ls hl => ?_)
        refine lv_iload_n hx hb d_Parser_readMark_62 rfl (lv_at hl 0 rfl) ?_
        refine lv_iconst (v := (-1)) hx hb d_Parser_readMark_63 (by decide) ?_
        refine lv_icmp_ne (tgt := 69) hx hb d_Parser_readMark_64 (by decide) (fun cd => ?_) (fun cd => ?_)
        · have hf := if_e cd hf
          refine lv_aload_n hx hb d_Parser_readMark_69 rfl (lv_at hl 3 rfl) ?_
          refine xg_3_draft C w k314 d_Parser_readMark_70 ?_
          refine xg_6_markName C w k251 d_Parser_readMark_73 ?_
          refine lv_iload_n hx hb d_Parser_readMark_76 rfl (lv_at hl 2 rfl) ?_
          refine lv_iload_n hx hb d_Parser_readMark_77 rfl (lv_at hl 1 rfl) ?_
          obtain ⟨g_13, hf⟩ := gd_e hf
          refine xs_7 C w g_13 d_Parser_readMark_78 (fun σ_14 H locs eσ_14 w => ?_)
          have hf := lt_e eσ_14 hf
          refine lv_aload_n hx hb d_Parser_readMark_79 rfl (lv_at hl 3 rfl) ?_
          refine xg_3_draft C w k314 d_Parser_readMark_80 ?_
          refine xg_6_markHeight C w k254 d_Parser_readMark_83 ?_
          refine lv_iload_n hx hb d_Parser_readMark_86 rfl (lv_at hl 2 rfl) ?_
          refine lv_iload_n hx hb d_Parser_readMark_87 rfl (lv_at hl 0 rfl) ?_
          obtain ⟨g_15, hf⟩ := gd_e hf
          refine xs_8 C w g_15 d_Parser_readMark_88 (fun σ_16 H locs eσ_16 w => ?_)
          have hf := lt_e eσ_16 hf
          refine lv_aload_n hx hb d_Parser_readMark_89 rfl (lv_at hl 3 rfl) ?_
          refine xg_3_draft C w k314 d_Parser_readMark_90 ?_
          refine lv_dup hx hb d_Parser_readMark_93 rfl ?_
          refine xg_6_marks C w k274 d_Parser_readMark_94 ?_
          refine lv_iconst (v := 1) hx hb d_Parser_readMark_97 (by decide) ?_
          refine lv_iadd hx hb d_Parser_readMark_98 ?_
          refine xp_6_marks C w k274 d_Parser_readMark_99 (fun σ_17 H locs eσ_17 w => ?_)
          have hf := lt_e eσ_17 hf
          refine lv_iconst (v := 1) hx hb d_Parser_readMark_102 (by decide) ?_
          obtain ⟨rfl, rfl⟩ := some2_e hf
          exact k_zret C w (by decide) d_Parser_readMark_103
        · have hf := it_e cd hf
          refine lv_iconst (v := 0) hx hb d_Parser_readMark_67 (by decide) ?_
          obtain ⟨rfl, rfl⟩ := some2_e hf
          exact k_zret C w (by decide) d_Parser_readMark_68
      · have hf := it_e cd hf
        refine lv_iconst (v := 0) hx hb d_Parser_readMark_52 (by decide) ?_
        obtain ⟨rfl, rfl⟩ := some2_e hf
        exact k_zret C w (by decide) d_Parser_readMark_53
  · have hf := if_e cd hf
    refine lv_aload_n hx hb d_Parser_readMark_14 rfl (lv_at hl 1 rfl) ?_
    refine lv_iconst (v := 5) hx hb d_Parser_readMark_15 (by decide) ?_
    refine lv_aload_n hx hb d_Parser_readMark_16 rfl (lv_at hl 1 rfl) ?_
    refine xg_3_reader C w k313 d_Parser_readMark_17 ?_
    refine xg_4_start C w k210 d_Parser_readMark_20 ?_
    obtain ⟨r_19, σ_20, h_18, hf⟩ := bd_e hf
    refine k_callV (As := [.int 5, .int (sI σ 9)]) (rest := []) C w (c_Parser_tell (q := qt q) h_18) cv_Parser_tell k590 (xr_3 C w) (by decide) hl.1 rfl (Nat.le_of_ble_eq_true rfl) d_Parser_readMark_23 (fun H locs w => ?_)
    show WK p l e s m _ below meth c 3 g (wX g (qt q)) A (some (.int r)) σ2 H locs (F0 m 26 ls [.int r_19])
    obtain ⟨g_21, hf⟩ := gd_e hf
    obtain ⟨rfl, rfl⟩ := some2_e hf
    exact k_zret C w g_21 d_Parser_readMark_26
