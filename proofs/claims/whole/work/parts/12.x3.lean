variable {p : Program} {l : Launch} {e : Env} {s : State} {m : MethodId} {av : Array Value} {below : List Frame} {meth : Method} {c : Code} {g : GX} {q : Nat → Nat} {A : Nat → Prop}
theorem d_Parser_readStatement_0 : decode prog_5_method_9_code 0 = .ok (.aload_n 0, 1) := by decide +kernel
theorem d_Parser_readStatement_1 : decode prog_5_method_9_code 1 = .ok (.getfield 12, 3) := by decide +kernel
theorem d_Parser_readStatement_4 : decode prog_5_method_9_code 4 = .ok (.iconst 0, 1) := by decide +kernel
theorem d_Parser_readStatement_5 : decode prog_5_method_9_code 5 = .ok (.invokevirtual 69, 3) := by decide +kernel
theorem d_Parser_readStatement_8 : decode prog_5_method_9_code 8 = .ok (.ifCond .eq 8, 3) := by decide +kernel
theorem d_Parser_readStatement_11 : decode prog_5_method_9_code 11 = .ok (.aload_n 0, 1) := by decide +kernel
theorem d_Parser_readStatement_12 : decode prog_5_method_9_code 12 = .ok (.invokevirtual 87, 3) := by decide +kernel
theorem d_Parser_readStatement_15 : decode prog_5_method_9_code 15 = .ok (.ireturn, 1) := by decide +kernel
theorem d_Parser_readStatement_16 : decode prog_5_method_9_code 16 = .ok (.aload_n 0, 1) := by decide +kernel
theorem d_Parser_readStatement_17 : decode prog_5_method_9_code 17 = .ok (.getfield 12, 3) := by decide +kernel
theorem d_Parser_readStatement_20 : decode prog_5_method_9_code 20 = .ok (.iconst 2, 1) := by decide +kernel
theorem d_Parser_readStatement_21 : decode prog_5_method_9_code 21 = .ok (.invokevirtual 69, 3) := by decide +kernel
theorem d_Parser_readStatement_24 : decode prog_5_method_9_code 24 = .ok (.ifCond .eq 8, 3) := by decide +kernel
theorem d_Parser_readStatement_27 : decode prog_5_method_9_code 27 = .ok (.aload_n 0, 1) := by decide +kernel
theorem d_Parser_readStatement_28 : decode prog_5_method_9_code 28 = .ok (.invokevirtual 90, 3) := by decide +kernel
theorem d_Parser_readStatement_31 : decode prog_5_method_9_code 31 = .ok (.ireturn, 1) := by decide +kernel
theorem d_Parser_readStatement_32 : decode prog_5_method_9_code 32 = .ok (.aload_n 0, 1) := by decide +kernel
theorem d_Parser_readStatement_33 : decode prog_5_method_9_code 33 = .ok (.getfield 12, 3) := by decide +kernel
theorem d_Parser_readStatement_36 : decode prog_5_method_9_code 36 = .ok (.bipush 9, 2) := by decide +kernel
theorem d_Parser_readStatement_38 : decode prog_5_method_9_code 38 = .ok (.invokevirtual 69, 3) := by decide +kernel
theorem d_Parser_readStatement_41 : decode prog_5_method_9_code 41 = .ok (.ifCond .eq 31, 3) := by decide +kernel
theorem d_Parser_readStatement_44 : decode prog_5_method_9_code 44 = .ok (.aload_n 0, 1) := by decide +kernel
theorem d_Parser_readStatement_45 : decode prog_5_method_9_code 45 = .ok (.invokevirtual 93, 3) := by decide +kernel
theorem d_Parser_readStatement_48 : decode prog_5_method_9_code 48 = .ok (.ifCond .eq 22, 3) := by decide +kernel
theorem d_Parser_readStatement_51 : decode prog_5_method_9_code 51 = .ok (.aload_n 0, 1) := by decide +kernel
theorem d_Parser_readStatement_52 : decode prog_5_method_9_code 52 = .ok (.iconst 0, 1) := by decide +kernel
theorem d_Parser_readStatement_53 : decode prog_5_method_9_code 53 = .ok (.invokevirtual 96, 3) := by decide +kernel
theorem d_Parser_readStatement_56 : decode prog_5_method_9_code 56 = .ok (.ifCond .eq 14, 3) := by decide +kernel
theorem d_Parser_readStatement_59 : decode prog_5_method_9_code 59 = .ok (.aload_n 0, 1) := by decide +kernel
theorem d_Parser_readStatement_60 : decode prog_5_method_9_code 60 = .ok (.invokevirtual 99, 3) := by decide +kernel
theorem d_Parser_readStatement_63 : decode prog_5_method_9_code 63 = .ok (.ifCond .eq 7, 3) := by decide +kernel
theorem d_Parser_readStatement_66 : decode prog_5_method_9_code 66 = .ok (.iconst 1, 1) := by decide +kernel
theorem d_Parser_readStatement_67 : decode prog_5_method_9_code 67 = .ok (.goto 4, 3) := by decide +kernel
theorem d_Parser_readStatement_70 : decode prog_5_method_9_code 70 = .ok (.iconst 0, 1) := by decide +kernel
theorem d_Parser_readStatement_71 : decode prog_5_method_9_code 71 = .ok (.ireturn, 1) := by decide +kernel
theorem d_Parser_readStatement_72 : decode prog_5_method_9_code 72 = .ok (.aload_n 0, 1) := by decide +kernel
theorem d_Parser_readStatement_73 : decode prog_5_method_9_code 73 = .ok (.getfield 12, 3) := by decide +kernel
theorem d_Parser_readStatement_76 : decode prog_5_method_9_code 76 = .ok (.bipush 17, 2) := by decide +kernel
theorem d_Parser_readStatement_78 : decode prog_5_method_9_code 78 = .ok (.invokevirtual 69, 3) := by decide +kernel
theorem d_Parser_readStatement_81 : decode prog_5_method_9_code 81 = .ok (.ifCond .eq 43, 3) := by decide +kernel
theorem d_Parser_readStatement_84 : decode prog_5_method_9_code 84 = .ok (.aload_n 0, 1) := by decide +kernel
theorem d_Parser_readStatement_85 : decode prog_5_method_9_code 85 = .ok (.getfield 12, 3) := by decide +kernel
theorem d_Parser_readStatement_88 : decode prog_5_method_9_code 88 = .ok (.invokevirtual 66, 3) := by decide +kernel
theorem d_Parser_readStatement_91 : decode prog_5_method_9_code 91 = .ok (.aload_n 0, 1) := by decide +kernel
theorem d_Parser_readStatement_92 : decode prog_5_method_9_code 92 = .ok (.bipush 6, 2) := by decide +kernel
theorem d_Parser_readStatement_94 : decode prog_5_method_9_code 94 = .ok (.invokevirtual 102, 3) := by decide +kernel
theorem d_Parser_readStatement_97 : decode prog_5_method_9_code 97 = .ok (.ifCond .eq 25, 3) := by decide +kernel
theorem d_Parser_readStatement_100 : decode prog_5_method_9_code 100 = .ok (.aload_n 0, 1) := by decide +kernel
theorem d_Parser_readStatement_101 : decode prog_5_method_9_code 101 = .ok (.bipush 7, 2) := by decide +kernel
theorem d_Parser_readStatement_103 : decode prog_5_method_9_code 103 = .ok (.invokevirtual 102, 3) := by decide +kernel
theorem d_Parser_readStatement_106 : decode prog_5_method_9_code 106 = .ok (.ifCond .eq 16, 3) := by decide +kernel
theorem d_Parser_readStatement_109 : decode prog_5_method_9_code 109 = .ok (.aload_n 0, 1) := by decide +kernel
theorem d_Parser_readStatement_110 : decode prog_5_method_9_code 110 = .ok (.bipush 8, 2) := by decide +kernel
theorem d_Parser_readStatement_112 : decode prog_5_method_9_code 112 = .ok (.invokevirtual 102, 3) := by decide +kernel
theorem d_Parser_readStatement_115 : decode prog_5_method_9_code 115 = .ok (.ifCond .eq 7, 3) := by decide +kernel
theorem d_Parser_readStatement_118 : decode prog_5_method_9_code 118 = .ok (.iconst 1, 1) := by decide +kernel
theorem d_Parser_readStatement_119 : decode prog_5_method_9_code 119 = .ok (.goto 4, 3) := by decide +kernel
theorem d_Parser_readStatement_122 : decode prog_5_method_9_code 122 = .ok (.iconst 0, 1) := by decide +kernel
theorem d_Parser_readStatement_123 : decode prog_5_method_9_code 123 = .ok (.ireturn, 1) := by decide +kernel
theorem d_Parser_readStatement_124 : decode prog_5_method_9_code 124 = .ok (.iconst 0, 1) := by decide +kernel
theorem d_Parser_readStatement_125 : decode prog_5_method_9_code 125 = .ok (.istore_n 1, 1) := by decide +kernel
theorem d_Parser_readStatement_126 : decode prog_5_method_9_code 126 = .ok (.iload_n 1, 1) := by decide +kernel
theorem d_Parser_readStatement_127 : decode prog_5_method_9_code 127 = .ok (.getstatic 105, 3) := by decide +kernel
theorem d_Parser_readStatement_130 : decode prog_5_method_9_code 130 = .ok (.arraylength, 1) := by decide +kernel
theorem d_Parser_readStatement_131 : decode prog_5_method_9_code 131 = .ok (.if_icmp .ge 37, 3) := by decide +kernel
theorem d_Parser_readStatement_134 : decode prog_5_method_9_code 134 = .ok (.aload_n 0, 1) := by decide +kernel
theorem d_Parser_readStatement_135 : decode prog_5_method_9_code 135 = .ok (.getfield 12, 3) := by decide +kernel
theorem d_Parser_readStatement_138 : decode prog_5_method_9_code 138 = .ok (.getstatic 105, 3) := by decide +kernel
theorem d_Parser_readStatement_141 : decode prog_5_method_9_code 141 = .ok (.iload_n 1, 1) := by decide +kernel
theorem d_Parser_readStatement_142 : decode prog_5_method_9_code 142 = .ok (.iaload, 1) := by decide +kernel
theorem d_Parser_readStatement_143 : decode prog_5_method_9_code 143 = .ok (.invokevirtual 69, 3) := by decide +kernel
theorem d_Parser_readStatement_146 : decode prog_5_method_9_code 146 = .ok (.ifCond .eq 16, 3) := by decide +kernel
theorem d_Parser_readStatement_149 : decode prog_5_method_9_code 149 = .ok (.aload_n 0, 1) := by decide +kernel
theorem d_Parser_readStatement_150 : decode prog_5_method_9_code 150 = .ok (.getfield 12, 3) := by decide +kernel
theorem d_Parser_readStatement_153 : decode prog_5_method_9_code 153 = .ok (.invokevirtual 66, 3) := by decide +kernel
theorem d_Parser_readStatement_156 : decode prog_5_method_9_code 156 = .ok (.aload_n 0, 1) := by decide +kernel
theorem d_Parser_readStatement_157 : decode prog_5_method_9_code 157 = .ok (.iload_n 1, 1) := by decide +kernel
theorem d_Parser_readStatement_158 : decode prog_5_method_9_code 158 = .ok (.invokevirtual 102, 3) := by decide +kernel
theorem d_Parser_readStatement_161 : decode prog_5_method_9_code 161 = .ok (.ireturn, 1) := by decide +kernel
theorem d_Parser_readStatement_162 : decode prog_5_method_9_code 162 = .ok (.iinc 1 1, 3) := by decide +kernel
theorem d_Parser_readStatement_165 : decode prog_5_method_9_code 165 = .ok (.goto (-39), 3) := by decide +kernel
theorem d_Parser_readStatement_168 : decode prog_5_method_9_code 168 = .ok (.aload_n 0, 1) := by decide +kernel
theorem d_Parser_readStatement_169 : decode prog_5_method_9_code 169 = .ok (.invokevirtual 63, 3) := by decide +kernel
theorem d_Parser_readStatement_172 : decode prog_5_method_9_code 172 = .ok (.ireturn, 1) := by decide +kernel
theorem d_Parser_parse_0 : decode prog_5_method_2_code 0 = .ok (.aload_n 0, 1) := by decide +kernel
theorem d_Parser_parse_1 : decode prog_5_method_2_code 1 = .ok (.iconst 0, 1) := by decide +kernel
theorem d_Parser_parse_2 : decode prog_5_method_2_code 2 = .ok (.putfield 29, 3) := by decide +kernel
theorem d_Parser_parse_5 : decode prog_5_method_2_code 5 = .ok (.aload_n 0, 1) := by decide +kernel
theorem d_Parser_parse_6 : decode prog_5_method_2_code 6 = .ok (.iconst (-1), 1) := by decide +kernel
theorem d_Parser_parse_7 : decode prog_5_method_2_code 7 = .ok (.putfield 25, 3) := by decide +kernel
theorem d_Parser_parse_10 : decode prog_5_method_2_code 10 = .ok (.aload_n 0, 1) := by decide +kernel
theorem d_Parser_parse_11 : decode prog_5_method_2_code 11 = .ok (.getfield 21, 3) := by decide +kernel
theorem d_Parser_parse_14 : decode prog_5_method_2_code 14 = .ok (.invokevirtual 32, 3) := by decide +kernel
theorem d_Parser_parse_17 : decode prog_5_method_2_code 17 = .ok (.aload_n 0, 1) := by decide +kernel
theorem d_Parser_parse_18 : decode prog_5_method_2_code 18 = .ok (.getfield 12, 3) := by decide +kernel
theorem d_Parser_parse_21 : decode prog_5_method_2_code 21 = .ok (.aload_n 1, 1) := by decide +kernel
theorem d_Parser_parse_22 : decode prog_5_method_2_code 22 = .ok (.iload_n 2, 1) := by decide +kernel
theorem d_Parser_parse_23 : decode prog_5_method_2_code 23 = .ok (.invokevirtual 35, 3) := by decide +kernel
theorem d_Parser_parse_26 : decode prog_5_method_2_code 26 = .ok (.iconst 0, 1) := by decide +kernel
theorem d_Parser_parse_27 : decode prog_5_method_2_code 27 = .ok (.istore_n 3, 1) := by decide +kernel
theorem d_Parser_parse_28 : decode prog_5_method_2_code 28 = .ok (.iload_n 3, 1) := by decide +kernel
theorem d_Parser_parse_29 : decode prog_5_method_2_code 29 = .ok (.bipush 70, 2) := by decide +kernel
theorem d_Parser_parse_31 : decode prog_5_method_2_code 31 = .ok (.if_icmp .gt 66, 3) := by decide +kernel
theorem d_Parser_parse_34 : decode prog_5_method_2_code 34 = .ok (.aload_n 0, 1) := by decide +kernel
theorem d_Parser_parse_35 : decode prog_5_method_2_code 35 = .ok (.getfield 12, 3) := by decide +kernel
theorem d_Parser_parse_38 : decode prog_5_method_2_code 38 = .ok (.getfield 39, 3) := by decide +kernel
theorem d_Parser_parse_41 : decode prog_5_method_2_code 41 = .ok (.ifCond .ne 13, 3) := by decide +kernel
theorem d_Parser_parse_44 : decode prog_5_method_2_code 44 = .ok (.aload_n 0, 1) := by decide +kernel
theorem d_Parser_parse_45 : decode prog_5_method_2_code 45 = .ok (.getfield 21, 3) := by decide +kernel
theorem d_Parser_parse_48 : decode prog_5_method_2_code 48 = .ok (.iload_n 3, 1) := by decide +kernel
theorem d_Parser_parse_49 : decode prog_5_method_2_code 49 = .ok (.putfield 42, 3) := by decide +kernel
theorem d_Parser_parse_52 : decode prog_5_method_2_code 52 = .ok (.iconst 1, 1) := by decide +kernel
theorem d_Parser_parse_53 : decode prog_5_method_2_code 53 = .ok (.ireturn, 1) := by decide +kernel
theorem d_Parser_parse_54 : decode prog_5_method_2_code 54 = .ok (.iload_n 3, 1) := by decide +kernel
theorem d_Parser_parse_55 : decode prog_5_method_2_code 55 = .ok (.bipush 70, 2) := by decide +kernel
theorem d_Parser_parse_57 : decode prog_5_method_2_code 57 = .ok (.if_icmp .ne 16, 3) := by decide +kernel
theorem d_Parser_parse_60 : decode prog_5_method_2_code 60 = .ok (.aload_n 0, 1) := by decide +kernel
theorem d_Parser_parse_61 : decode prog_5_method_2_code 61 = .ok (.iconst 5, 1) := by decide +kernel
theorem d_Parser_parse_62 : decode prog_5_method_2_code 62 = .ok (.aload_n 0, 1) := by decide +kernel
theorem d_Parser_parse_63 : decode prog_5_method_2_code 63 = .ok (.getfield 12, 3) := by decide +kernel
theorem d_Parser_parse_66 : decode prog_5_method_2_code 66 = .ok (.getfield 45, 3) := by decide +kernel
theorem d_Parser_parse_69 : decode prog_5_method_2_code 69 = .ok (.invokevirtual 48, 3) := by decide +kernel
theorem d_Parser_parse_72 : decode prog_5_method_2_code 72 = .ok (.ireturn, 1) := by decide +kernel
theorem d_Parser_parse_73 : decode prog_5_method_2_code 73 = .ok (.aload_n 0, 1) := by decide +kernel
theorem d_Parser_parse_74 : decode prog_5_method_2_code 74 = .ok (.invokevirtual 52, 3) := by decide +kernel
theorem d_Parser_parse_77 : decode prog_5_method_2_code 77 = .ok (.ifCond .eq 12, 3) := by decide +kernel
theorem d_Parser_parse_80 : decode prog_5_method_2_code 80 = .ok (.aload_n 0, 1) := by decide +kernel
theorem d_Parser_parse_81 : decode prog_5_method_2_code 81 = .ok (.bipush 59, 2) := by decide +kernel
theorem d_Parser_parse_83 : decode prog_5_method_2_code 83 = .ok (.invokevirtual 56, 3) := by decide +kernel
theorem d_Parser_parse_86 : decode prog_5_method_2_code 86 = .ok (.ifCond .ne 5, 3) := by decide +kernel
theorem d_Parser_parse_89 : decode prog_5_method_2_code 89 = .ok (.iconst 0, 1) := by decide +kernel
theorem d_Parser_parse_90 : decode prog_5_method_2_code 90 = .ok (.ireturn, 1) := by decide +kernel
theorem d_Parser_parse_91 : decode prog_5_method_2_code 91 = .ok (.iinc 3 1, 3) := by decide +kernel
theorem d_Parser_parse_94 : decode prog_5_method_2_code 94 = .ok (.goto (-66), 3) := by decide +kernel
theorem d_Parser_parse_97 : decode prog_5_method_2_code 97 = .ok (.iconst 0, 1) := by decide +kernel
theorem d_Parser_parse_98 : decode prog_5_method_2_code 98 = .ok (.ireturn, 1) := by decide +kernel
theorem d_Book_open_0 : decode prog_2_method_2_code 0 = .ok (.aload_n 0, 1) := by decide +kernel
theorem d_Book_open_1 : decode prog_2_method_2_code 1 = .ok (.iconst 0, 1) := by decide +kernel
theorem d_Book_open_2 : decode prog_2_method_2_code 2 = .ok (.putfield 40, 3) := by decide +kernel
theorem d_Book_open_5 : decode prog_2_method_2_code 5 = .ok (.aload_n 0, 1) := by decide +kernel
theorem d_Book_open_6 : decode prog_2_method_2_code 6 = .ok (.iconst 0, 1) := by decide +kernel
theorem d_Book_open_7 : decode prog_2_method_2_code 7 = .ok (.putfield 43, 3) := by decide +kernel
theorem d_Book_open_10 : decode prog_2_method_2_code 10 = .ok (.aload_n 0, 1) := by decide +kernel
theorem d_Book_open_11 : decode prog_2_method_2_code 11 = .ok (.iconst 1, 1) := by decide +kernel
theorem d_Book_open_12 : decode prog_2_method_2_code 12 = .ok (.aload_n 1, 1) := by decide +kernel
theorem d_Book_open_13 : decode prog_2_method_2_code 13 = .ok (.getfield 46, 3) := by decide +kernel
theorem d_Book_open_16 : decode prog_2_method_2_code 16 = .ok (.ishl, 1) := by decide +kernel
theorem d_Book_open_17 : decode prog_2_method_2_code 17 = .ok (.iconst 1, 1) := by decide +kernel
theorem d_Book_open_18 : decode prog_2_method_2_code 18 = .ok (.isub, 1) := by decide +kernel
theorem d_Book_open_19 : decode prog_2_method_2_code 19 = .ok (.putfield 51, 3) := by decide +kernel
theorem d_Book_open_22 : decode prog_2_method_2_code 22 = .ok (.aload_n 1, 1) := by decide +kernel
theorem d_Book_open_23 : decode prog_2_method_2_code 23 = .ok (.getfield 54, 3) := by decide +kernel
theorem d_Book_open_26 : decode prog_2_method_2_code 26 = .ok (.iconst 0, 1) := by decide +kernel
theorem d_Book_open_27 : decode prog_2_method_2_code 27 = .ok (.aload_n 0, 1) := by decide +kernel
theorem d_Book_open_28 : decode prog_2_method_2_code 28 = .ok (.getfield 11, 3) := by decide +kernel
theorem d_Book_open_31 : decode prog_2_method_2_code 31 = .ok (.iconst 0, 1) := by decide +kernel
theorem d_Book_open_32 : decode prog_2_method_2_code 32 = .ok (.iconst 3, 1) := by decide +kernel
theorem d_Book_open_33 : decode prog_2_method_2_code 33 = .ok (.invokestatic 34, 3) := by decide +kernel
theorem d_Book_open_36 : decode prog_2_method_2_code 36 = .ok (.aload_n 0, 1) := by decide +kernel
theorem d_Book_open_37 : decode prog_2_method_2_code 37 = .ok (.iconst 0, 1) := by decide +kernel
theorem d_Book_open_38 : decode prog_2_method_2_code 38 = .ok (.putfield 57, 3) := by decide +kernel
theorem d_Book_open_41 : decode prog_2_method_2_code 41 = .ok (.aload_n 0, 1) := by decide +kernel
theorem d_Book_open_42 : decode prog_2_method_2_code 42 = .ok (.iconst 0, 1) := by decide +kernel
theorem d_Book_open_43 : decode prog_2_method_2_code 43 = .ok (.putfield 60, 3) := by decide +kernel
theorem d_Book_open_46 : decode prog_2_method_2_code 46 = .ok (.return_, 1) := by decide +kernel
theorem d_BH_fault_0 : decode prog_1_method_5_code 0 = .ok (.iload_n 1, 1) := by decide +kernel
theorem d_BH_fault_1 : decode prog_1_method_5_code 1 = .ok (.ifCond .ne 11, 3) := by decide +kernel
theorem d_BH_fault_4 : decode prog_1_method_5_code 4 = .ok (.aload_n 0, 1) := by decide +kernel
theorem d_BH_fault_5 : decode prog_1_method_5_code 5 = .ok (.getfield 19, 3) := by decide +kernel
theorem d_BH_fault_8 : decode prog_1_method_5_code 8 = .ok (.getfield 96, 3) := by decide +kernel
theorem d_BH_fault_11 : decode prog_1_method_5_code 11 = .ok (.ireturn, 1) := by decide +kernel
theorem d_BH_fault_12 : decode prog_1_method_5_code 12 = .ok (.iload_n 1, 1) := by decide +kernel
theorem d_BH_fault_13 : decode prog_1_method_5_code 13 = .ok (.iconst 1, 1) := by decide +kernel
theorem d_BH_fault_14 : decode prog_1_method_5_code 14 = .ok (.if_icmp .ne 13, 3) := by decide +kernel
theorem d_BH_fault_17 : decode prog_1_method_5_code 17 = .ok (.aload_n 0, 1) := by decide +kernel
theorem d_BH_fault_18 : decode prog_1_method_5_code 18 = .ok (.getfield 19, 3) := by decide +kernel
theorem d_BH_fault_21 : decode prog_1_method_5_code 21 = .ok (.getfield 99, 3) := by decide +kernel
theorem d_BH_fault_24 : decode prog_1_method_5_code 24 = .ok (.goto 4, 3) := by decide +kernel
theorem d_BH_fault_27 : decode prog_1_method_5_code 27 = .ok (.iconst (-1), 1) := by decide +kernel
theorem d_BH_fault_28 : decode prog_1_method_5_code 28 = .ok (.ireturn, 1) := by decide +kernel
theorem d_Book_toldBlows_0 : decode prog_2_method_10_code 0 = .ok (.bipush 60, 2) := by decide +kernel
theorem d_Book_toldBlows_2 : decode prog_2_method_10_code 2 = .ok (.aload_n 0, 1) := by decide +kernel
theorem d_Book_toldBlows_3 : decode prog_2_method_10_code 3 = .ok (.getfield 60, 3) := by decide +kernel
theorem d_Book_toldBlows_6 : decode prog_2_method_10_code 6 = .ok (.invokestatic 73, 3) := by decide +kernel
theorem d_Book_toldBlows_9 : decode prog_2_method_10_code 9 = .ok (.ireturn, 1) := by decide +kernel
theorem d_BH_has_0 : decode prog_1_method_6_code 0 = .ok (.iload_n 1, 1) := by decide +kernel
theorem d_BH_has_1 : decode prog_1_method_6_code 1 = .ok (.tableswitch 195 0 13 #[71, 79, 87, 95, 103, 113, 123, 133, 143, 153, 163, 171, 179, 187], 71) := by decide +kernel
theorem d_BH_has_72 : decode prog_1_method_6_code 72 = .ok (.aload_n 0, 1) := by decide +kernel
theorem d_BH_has_73 : decode prog_1_method_6_code 73 = .ok (.getfield 54, 3) := by decide +kernel
theorem d_BH_has_76 : decode prog_1_method_6_code 76 = .ok (.getfield 102, 3) := by decide +kernel
theorem d_BH_has_79 : decode prog_1_method_6_code 79 = .ok (.ireturn, 1) := by decide +kernel
theorem d_BH_has_80 : decode prog_1_method_6_code 80 = .ok (.aload_n 0, 1) := by decide +kernel
theorem d_BH_has_81 : decode prog_1_method_6_code 81 = .ok (.getfield 54, 3) := by decide +kernel
theorem d_BH_has_84 : decode prog_1_method_6_code 84 = .ok (.getfield 105, 3) := by decide +kernel
theorem d_BH_has_87 : decode prog_1_method_6_code 87 = .ok (.ireturn, 1) := by decide +kernel
theorem d_BH_has_88 : decode prog_1_method_6_code 88 = .ok (.aload_n 0, 1) := by decide +kernel
theorem d_BH_has_89 : decode prog_1_method_6_code 89 = .ok (.getfield 54, 3) := by decide +kernel
theorem d_BH_has_92 : decode prog_1_method_6_code 92 = .ok (.getfield 108, 3) := by decide +kernel
theorem d_BH_has_95 : decode prog_1_method_6_code 95 = .ok (.ireturn, 1) := by decide +kernel
theorem d_BH_has_96 : decode prog_1_method_6_code 96 = .ok (.aload_n 0, 1) := by decide +kernel
theorem d_BH_has_97 : decode prog_1_method_6_code 97 = .ok (.getfield 26, 3) := by decide +kernel
theorem d_BH_has_100 : decode prog_1_method_6_code 100 = .ok (.getfield 111, 3) := by decide +kernel
theorem d_BH_has_103 : decode prog_1_method_6_code 103 = .ok (.ireturn, 1) := by decide +kernel
theorem d_BH_has_104 : decode prog_1_method_6_code 104 = .ok (.aload_n 0, 1) := by decide +kernel
theorem d_BH_has_105 : decode prog_1_method_6_code 105 = .ok (.getfield 26, 3) := by decide +kernel
theorem d_BH_has_108 : decode prog_1_method_6_code 108 = .ok (.getfield 114, 3) := by decide +kernel
theorem d_BH_has_111 : decode prog_1_method_6_code 111 = .ok (.iconst 0, 1) := by decide +kernel
theorem d_BH_has_112 : decode prog_1_method_6_code 112 = .ok (.iaload, 1) := by decide +kernel
theorem d_BH_has_113 : decode prog_1_method_6_code 113 = .ok (.ireturn, 1) := by decide +kernel
theorem d_BH_has_114 : decode prog_1_method_6_code 114 = .ok (.aload_n 0, 1) := by decide +kernel
theorem d_BH_has_115 : decode prog_1_method_6_code 115 = .ok (.getfield 26, 3) := by decide +kernel
theorem d_BH_has_118 : decode prog_1_method_6_code 118 = .ok (.getfield 114, 3) := by decide +kernel
theorem d_BH_has_121 : decode prog_1_method_6_code 121 = .ok (.iconst 2, 1) := by decide +kernel
theorem d_BH_has_122 : decode prog_1_method_6_code 122 = .ok (.iaload, 1) := by decide +kernel
theorem d_BH_has_123 : decode prog_1_method_6_code 123 = .ok (.ireturn, 1) := by decide +kernel
theorem d_BH_has_124 : decode prog_1_method_6_code 124 = .ok (.aload_n 0, 1) := by decide +kernel
theorem d_BH_has_125 : decode prog_1_method_6_code 125 = .ok (.getfield 54, 3) := by decide +kernel
theorem d_BH_has_128 : decode prog_1_method_6_code 128 = .ok (.getfield 117, 3) := by decide +kernel
theorem d_BH_has_131 : decode prog_1_method_6_code 131 = .ok (.iconst 3, 1) := by decide +kernel
theorem d_BH_has_132 : decode prog_1_method_6_code 132 = .ok (.iaload, 1) := by decide +kernel
theorem d_BH_has_133 : decode prog_1_method_6_code 133 = .ok (.ireturn, 1) := by decide +kernel
theorem d_BH_has_134 : decode prog_1_method_6_code 134 = .ok (.aload_n 0, 1) := by decide +kernel
theorem d_BH_has_135 : decode prog_1_method_6_code 135 = .ok (.getfield 26, 3) := by decide +kernel
theorem d_BH_has_138 : decode prog_1_method_6_code 138 = .ok (.getfield 114, 3) := by decide +kernel
theorem d_BH_has_141 : decode prog_1_method_6_code 141 = .ok (.iconst 1, 1) := by decide +kernel
theorem d_BH_has_142 : decode prog_1_method_6_code 142 = .ok (.iaload, 1) := by decide +kernel
theorem d_BH_has_143 : decode prog_1_method_6_code 143 = .ok (.ireturn, 1) := by decide +kernel
theorem d_BH_has_144 : decode prog_1_method_6_code 144 = .ok (.aload_n 0, 1) := by decide +kernel
theorem d_BH_has_145 : decode prog_1_method_6_code 145 = .ok (.getfield 54, 3) := by decide +kernel
theorem d_BH_has_148 : decode prog_1_method_6_code 148 = .ok (.getfield 117, 3) := by decide +kernel
theorem d_BH_has_151 : decode prog_1_method_6_code 151 = .ok (.iconst 4, 1) := by decide +kernel
theorem d_BH_has_152 : decode prog_1_method_6_code 152 = .ok (.iaload, 1) := by decide +kernel
theorem d_BH_has_153 : decode prog_1_method_6_code 153 = .ok (.ireturn, 1) := by decide +kernel
theorem d_BH_has_154 : decode prog_1_method_6_code 154 = .ok (.aload_n 0, 1) := by decide +kernel
theorem d_BH_has_155 : decode prog_1_method_6_code 155 = .ok (.getfield 54, 3) := by decide +kernel
theorem d_BH_has_158 : decode prog_1_method_6_code 158 = .ok (.getfield 117, 3) := by decide +kernel
theorem d_BH_has_161 : decode prog_1_method_6_code 161 = .ok (.iconst 5, 1) := by decide +kernel
theorem d_BH_has_162 : decode prog_1_method_6_code 162 = .ok (.iaload, 1) := by decide +kernel
theorem d_BH_has_163 : decode prog_1_method_6_code 163 = .ok (.ireturn, 1) := by decide +kernel
theorem d_BH_has_164 : decode prog_1_method_6_code 164 = .ok (.aload_n 0, 1) := by decide +kernel
theorem d_BH_has_165 : decode prog_1_method_6_code 165 = .ok (.getfield 26, 3) := by decide +kernel
theorem d_BH_has_168 : decode prog_1_method_6_code 168 = .ok (.getfield 120, 3) := by decide +kernel
theorem d_BH_has_171 : decode prog_1_method_6_code 171 = .ok (.ireturn, 1) := by decide +kernel
theorem d_BH_has_172 : decode prog_1_method_6_code 172 = .ok (.aload_n 0, 1) := by decide +kernel
theorem d_BH_has_173 : decode prog_1_method_6_code 173 = .ok (.getfield 26, 3) := by decide +kernel
theorem d_BH_has_176 : decode prog_1_method_6_code 176 = .ok (.getfield 123, 3) := by decide +kernel
theorem d_BH_has_179 : decode prog_1_method_6_code 179 = .ok (.ireturn, 1) := by decide +kernel
theorem d_BH_has_180 : decode prog_1_method_6_code 180 = .ok (.aload_n 0, 1) := by decide +kernel
theorem d_BH_has_181 : decode prog_1_method_6_code 181 = .ok (.getfield 26, 3) := by decide +kernel
theorem d_BH_has_184 : decode prog_1_method_6_code 184 = .ok (.invokevirtual 126, 3) := by decide +kernel
theorem d_BH_has_187 : decode prog_1_method_6_code 187 = .ok (.ireturn, 1) := by decide +kernel
theorem d_BH_has_188 : decode prog_1_method_6_code 188 = .ok (.aload_n 0, 1) := by decide +kernel
theorem d_BH_has_189 : decode prog_1_method_6_code 189 = .ok (.getfield 26, 3) := by decide +kernel
theorem d_BH_has_192 : decode prog_1_method_6_code 192 = .ok (.getfield 130, 3) := by decide +kernel
theorem d_BH_has_195 : decode prog_1_method_6_code 195 = .ok (.ireturn, 1) := by decide +kernel
theorem d_BH_has_196 : decode prog_1_method_6_code 196 = .ok (.iconst (-1), 1) := by decide +kernel
theorem d_BH_has_197 : decode prog_1_method_6_code 197 = .ok (.ireturn, 1) := by decide +kernel
theorem d_BH_isTrier_0 : decode prog_1_method_36_code 0 = .ok (.iload_n 1, 1) := by decide +kernel
theorem d_BH_isTrier_1 : decode prog_1_method_36_code 1 = .ok (.ifCond .lt 18, 3) := by decide +kernel
theorem d_BH_isTrier_4 : decode prog_1_method_36_code 4 = .ok (.iload_n 1, 1) := by decide +kernel
theorem d_BH_isTrier_5 : decode prog_1_method_36_code 5 = .ok (.aload_n 0, 1) := by decide +kernel
theorem d_BH_isTrier_6 : decode prog_1_method_36_code 6 = .ok (.getfield 54, 3) := by decide +kernel
theorem d_BH_isTrier_9 : decode prog_1_method_36_code 9 = .ok (.getfield 105, 3) := by decide +kernel
theorem d_BH_isTrier_12 : decode prog_1_method_36_code 12 = .ok (.if_icmp .ge 7, 3) := by decide +kernel
theorem d_BH_isTrier_15 : decode prog_1_method_36_code 15 = .ok (.iconst 1, 1) := by decide +kernel
theorem d_BH_isTrier_16 : decode prog_1_method_36_code 16 = .ok (.goto 4, 3) := by decide +kernel
theorem d_BH_isTrier_19 : decode prog_1_method_36_code 19 = .ok (.iconst 0, 1) := by decide +kernel
theorem d_BH_isTrier_20 : decode prog_1_method_36_code 20 = .ok (.ireturn, 1) := by decide +kernel
theorem d_BH_letterOf_0 : decode prog_1_method_48_code 0 = .ok (.iload_n 0, 1) := by decide +kernel
theorem d_BH_letterOf_1 : decode prog_1_method_48_code 1 = .ok (.istore_n 2, 1) := by decide +kernel
theorem d_BH_letterOf_2 : decode prog_1_method_48_code 2 = .ok (.iconst 5, 1) := by decide +kernel
theorem d_BH_letterOf_3 : decode prog_1_method_48_code 3 = .ok (.istore_n 3, 1) := by decide +kernel
theorem d_BH_letterOf_4 : decode prog_1_method_48_code 4 = .ok (.iload_n 3, 1) := by decide +kernel
theorem d_BH_letterOf_5 : decode prog_1_method_48_code 5 = .ok (.iload_n 1, 1) := by decide +kernel
theorem d_BH_letterOf_6 : decode prog_1_method_48_code 6 = .ok (.if_icmp .le 14, 3) := by decide +kernel
theorem d_BH_letterOf_9 : decode prog_1_method_48_code 9 = .ok (.iload_n 2, 1) := by decide +kernel
theorem d_BH_letterOf_10 : decode prog_1_method_48_code 10 = .ok (.bipush 27, 2) := by decide +kernel
theorem d_BH_letterOf_12 : decode prog_1_method_48_code 12 = .ok (.idiv, 1) := by decide +kernel
theorem d_BH_letterOf_13 : decode prog_1_method_48_code 13 = .ok (.istore_n 2, 1) := by decide +kernel
theorem d_BH_letterOf_14 : decode prog_1_method_48_code 14 = .ok (.iinc 3 (-1), 3) := by decide +kernel
theorem d_BH_letterOf_17 : decode prog_1_method_48_code 17 = .ok (.goto (-13), 3) := by decide +kernel
theorem d_BH_letterOf_20 : decode prog_1_method_48_code 20 = .ok (.iload_n 2, 1) := by decide +kernel
theorem d_BH_letterOf_21 : decode prog_1_method_48_code 21 = .ok (.bipush 27, 2) := by decide +kernel
theorem d_BH_letterOf_23 : decode prog_1_method_48_code 23 = .ok (.irem, 1) := by decide +kernel
theorem d_BH_letterOf_24 : decode prog_1_method_48_code 24 = .ok (.ireturn, 1) := by decide +kernel
theorem d_BH_isMark_0 : decode prog_1_method_35_code 0 = .ok (.iload_n 1, 1) := by decide +kernel
theorem d_BH_isMark_1 : decode prog_1_method_35_code 1 = .ok (.ifCond .lt 18, 3) := by decide +kernel
theorem d_BH_isMark_4 : decode prog_1_method_35_code 4 = .ok (.iload_n 1, 1) := by decide +kernel
theorem d_BH_isMark_5 : decode prog_1_method_35_code 5 = .ok (.aload_n 0, 1) := by decide +kernel
theorem d_BH_isMark_6 : decode prog_1_method_35_code 6 = .ok (.getfield 54, 3) := by decide +kernel
theorem d_BH_isMark_9 : decode prog_1_method_35_code 9 = .ok (.getfield 102, 3) := by decide +kernel
theorem d_BH_isMark_12 : decode prog_1_method_35_code 12 = .ok (.if_icmp .ge 7, 3) := by decide +kernel
theorem d_BH_isMark_15 : decode prog_1_method_35_code 15 = .ok (.iconst 1, 1) := by decide +kernel
theorem d_BH_isMark_16 : decode prog_1_method_35_code 16 = .ok (.goto 4, 3) := by decide +kernel
theorem d_BH_isMark_19 : decode prog_1_method_35_code 19 = .ok (.iconst 0, 1) := by decide +kernel
theorem d_BH_isMark_20 : decode prog_1_method_35_code 20 = .ok (.ireturn, 1) := by decide +kernel
theorem d_BH_letter_0 : decode prog_1_method_7_code 0 = .ok (.iload_n 3, 1) := by decide +kernel
theorem d_BH_letter_1 : decode prog_1_method_7_code 1 = .ok (.ifCond .lt 9, 3) := by decide +kernel
theorem d_BH_letter_4 : decode prog_1_method_7_code 4 = .ok (.iload_n 3, 1) := by decide +kernel
theorem d_BH_letter_5 : decode prog_1_method_7_code 5 = .ok (.bipush 6, 2) := by decide +kernel
theorem d_BH_letter_7 : decode prog_1_method_7_code 7 = .ok (.if_icmp .lt 5, 3) := by decide +kernel
theorem d_BH_letter_10 : decode prog_1_method_7_code 10 = .ok (.iconst (-1), 1) := by decide +kernel
theorem d_BH_letter_11 : decode prog_1_method_7_code 11 = .ok (.ireturn, 1) := by decide +kernel
theorem d_BH_letter_12 : decode prog_1_method_7_code 12 = .ok (.iload_n 1, 1) := by decide +kernel
theorem d_BH_letter_13 : decode prog_1_method_7_code 13 = .ok (.ifCond .ne 25, 3) := by decide +kernel
theorem d_BH_letter_16 : decode prog_1_method_7_code 16 = .ok (.aload_n 0, 1) := by decide +kernel
theorem d_BH_letter_17 : decode prog_1_method_7_code 17 = .ok (.iload_n 2, 1) := by decide +kernel
theorem d_BH_letter_18 : decode prog_1_method_7_code 18 = .ok (.invokevirtual 133, 3) := by decide +kernel
theorem d_BH_letter_21 : decode prog_1_method_7_code 21 = .ok (.ifCond .eq 17, 3) := by decide +kernel
theorem d_BH_letter_24 : decode prog_1_method_7_code 24 = .ok (.aload_n 0, 1) := by decide +kernel
theorem d_BH_letter_25 : decode prog_1_method_7_code 25 = .ok (.getfield 54, 3) := by decide +kernel
theorem d_BH_letter_28 : decode prog_1_method_7_code 28 = .ok (.getfield 137, 3) := by decide +kernel
theorem d_BH_letter_31 : decode prog_1_method_7_code 31 = .ok (.iload_n 2, 1) := by decide +kernel
theorem d_BH_letter_32 : decode prog_1_method_7_code 32 = .ok (.iaload, 1) := by decide +kernel
theorem d_BH_letter_33 : decode prog_1_method_7_code 33 = .ok (.iload_n 3, 1) := by decide +kernel
theorem d_BH_letter_34 : decode prog_1_method_7_code 34 = .ok (.invokestatic 140, 3) := by decide +kernel
theorem d_BH_letter_37 : decode prog_1_method_7_code 37 = .ok (.ireturn, 1) := by decide +kernel
theorem d_BH_letter_38 : decode prog_1_method_7_code 38 = .ok (.iload_n 1, 1) := by decide +kernel
theorem d_BH_letter_39 : decode prog_1_method_7_code 39 = .ok (.iconst 1, 1) := by decide +kernel
theorem d_BH_letter_40 : decode prog_1_method_7_code 40 = .ok (.if_icmp .ne 25, 3) := by decide +kernel
theorem d_BH_letter_43 : decode prog_1_method_7_code 43 = .ok (.aload_n 0, 1) := by decide +kernel
theorem d_BH_letter_44 : decode prog_1_method_7_code 44 = .ok (.iload_n 2, 1) := by decide +kernel
theorem d_BH_letter_45 : decode prog_1_method_7_code 45 = .ok (.invokevirtual 144, 3) := by decide +kernel
theorem d_BH_letter_48 : decode prog_1_method_7_code 48 = .ok (.ifCond .eq 17, 3) := by decide +kernel
theorem d_BH_letter_51 : decode prog_1_method_7_code 51 = .ok (.aload_n 0, 1) := by decide +kernel
theorem d_BH_letter_52 : decode prog_1_method_7_code 52 = .ok (.getfield 54, 3) := by decide +kernel
theorem d_BH_letter_55 : decode prog_1_method_7_code 55 = .ok (.getfield 147, 3) := by decide +kernel
theorem d_BH_letter_58 : decode prog_1_method_7_code 58 = .ok (.iload_n 2, 1) := by decide +kernel
theorem d_BH_letter_59 : decode prog_1_method_7_code 59 = .ok (.iaload, 1) := by decide +kernel
theorem d_BH_letter_60 : decode prog_1_method_7_code 60 = .ok (.iload_n 3, 1) := by decide +kernel
theorem d_BH_letter_61 : decode prog_1_method_7_code 61 = .ok (.invokestatic 140, 3) := by decide +kernel
theorem d_BH_letter_64 : decode prog_1_method_7_code 64 = .ok (.ireturn, 1) := by decide +kernel
theorem d_BH_letter_65 : decode prog_1_method_7_code 65 = .ok (.iconst (-1), 1) := by decide +kernel
theorem d_BH_letter_66 : decode prog_1_method_7_code 66 = .ok (.ireturn, 1) := by decide +kernel
theorem d_Fair_trait_0 : decode prog_3_method_3_code 0 = .ok (.iload_n 1, 1) := by decide +kernel
theorem d_Fair_trait_1 : decode prog_3_method_3_code 1 = .ok (.bipush 6, 2) := by decide +kernel
theorem d_Fair_trait_3 : decode prog_3_method_3_code 3 = .ok (.imul, 1) := by decide +kernel
theorem d_Fair_trait_4 : decode prog_3_method_3_code 4 = .ok (.iload_n 2, 1) := by decide +kernel
theorem d_Fair_trait_5 : decode prog_3_method_3_code 5 = .ok (.iadd, 1) := by decide +kernel
theorem d_Fair_trait_6 : decode prog_3_method_3_code 6 = .ok (.istore_n 3, 1) := by decide +kernel
theorem d_Fair_trait_7 : decode prog_3_method_3_code 7 = .ok (.iload_n 3, 1) := by decide +kernel
theorem d_Fair_trait_8 : decode prog_3_method_3_code 8 = .ok (.ifCond .lt 12, 3) := by decide +kernel
theorem d_Fair_trait_11 : decode prog_3_method_3_code 11 = .ok (.iload_n 3, 1) := by decide +kernel
theorem d_Fair_trait_12 : decode prog_3_method_3_code 12 = .ok (.aload_n 0, 1) := by decide +kernel
theorem d_Fair_trait_13 : decode prog_3_method_3_code 13 = .ok (.getfield 21, 3) := by decide +kernel
theorem d_Fair_trait_16 : decode prog_3_method_3_code 16 = .ok (.arraylength, 1) := by decide +kernel
theorem d_Fair_trait_17 : decode prog_3_method_3_code 17 = .ok (.if_icmp .lt 7, 3) := by decide +kernel
theorem d_Fair_trait_20 : decode prog_3_method_3_code 20 = .ok (.iconst 0, 1) := by decide +kernel
theorem d_Fair_trait_21 : decode prog_3_method_3_code 21 = .ok (.goto 9, 3) := by decide +kernel
theorem d_Fair_trait_24 : decode prog_3_method_3_code 24 = .ok (.aload_n 0, 1) := by decide +kernel
theorem d_Fair_trait_25 : decode prog_3_method_3_code 25 = .ok (.getfield 21, 3) := by decide +kernel
theorem d_Fair_trait_28 : decode prog_3_method_3_code 28 = .ok (.iload_n 3, 1) := by decide +kernel
theorem d_Fair_trait_29 : decode prog_3_method_3_code 29 = .ok (.iaload, 1) := by decide +kernel
theorem d_Fair_trait_30 : decode prog_3_method_3_code 30 = .ok (.ireturn, 1) := by decide +kernel
theorem d_BH_trier_0 : decode prog_1_method_8_code 0 = .ok (.aload_n 0, 1) := by decide +kernel
theorem d_BH_trier_1 : decode prog_1_method_8_code 1 = .ok (.iload_n 1, 1) := by decide +kernel
theorem d_BH_trier_2 : decode prog_1_method_8_code 2 = .ok (.invokevirtual 144, 3) := by decide +kernel
theorem d_BH_trier_5 : decode prog_1_method_8_code 5 = .ok (.ifCond .eq 13, 3) := by decide +kernel
theorem d_BH_trier_8 : decode prog_1_method_8_code 8 = .ok (.iload_n 2, 1) := by decide +kernel
theorem d_BH_trier_9 : decode prog_1_method_8_code 9 = .ok (.ifCond .lt 9, 3) := by decide +kernel
theorem d_BH_trier_12 : decode prog_1_method_8_code 12 = .ok (.iload_n 2, 1) := by decide +kernel
theorem d_BH_trier_13 : decode prog_1_method_8_code 13 = .ok (.bipush 6, 2) := by decide +kernel
theorem d_BH_trier_15 : decode prog_1_method_8_code 15 = .ok (.if_icmp .lt 5, 3) := by decide +kernel
theorem d_BH_trier_18 : decode prog_1_method_8_code 18 = .ok (.iconst (-1), 1) := by decide +kernel
theorem d_BH_trier_19 : decode prog_1_method_8_code 19 = .ok (.ireturn, 1) := by decide +kernel
theorem d_BH_trier_20 : decode prog_1_method_8_code 20 = .ok (.aload_n 0, 1) := by decide +kernel
theorem d_BH_trier_21 : decode prog_1_method_8_code 21 = .ok (.getfield 54, 3) := by decide +kernel
theorem d_BH_trier_24 : decode prog_1_method_8_code 24 = .ok (.iload_n 1, 1) := by decide +kernel
theorem d_BH_trier_25 : decode prog_1_method_8_code 25 = .ok (.iload_n 2, 1) := by decide +kernel
theorem d_BH_trier_26 : decode prog_1_method_8_code 26 = .ok (.invokevirtual 150, 3) := by decide +kernel
theorem d_BH_trier_29 : decode prog_1_method_8_code 29 = .ok (.ireturn, 1) := by decide +kernel
theorem d_BH_mark_0 : decode prog_1_method_9_code 0 = .ok (.aload_n 0, 1) := by decide +kernel
theorem d_BH_mark_1 : decode prog_1_method_9_code 1 = .ok (.iload_n 1, 1) := by decide +kernel
theorem d_BH_mark_2 : decode prog_1_method_9_code 2 = .ok (.invokevirtual 133, 3) := by decide +kernel
theorem d_BH_mark_5 : decode prog_1_method_9_code 5 = .ok (.ifCond .eq 15, 3) := by decide +kernel
theorem d_BH_mark_8 : decode prog_1_method_9_code 8 = .ok (.aload_n 0, 1) := by decide +kernel
theorem d_BH_mark_9 : decode prog_1_method_9_code 9 = .ok (.getfield 54, 3) := by decide +kernel
theorem d_BH_mark_12 : decode prog_1_method_9_code 12 = .ok (.getfield 153, 3) := by decide +kernel
theorem d_BH_mark_15 : decode prog_1_method_9_code 15 = .ok (.iload_n 1, 1) := by decide +kernel
theorem d_BH_mark_16 : decode prog_1_method_9_code 16 = .ok (.iaload, 1) := by decide +kernel
theorem d_BH_mark_17 : decode prog_1_method_9_code 17 = .ok (.goto 4, 3) := by decide +kernel
theorem d_BH_mark_20 : decode prog_1_method_9_code 20 = .ok (.iconst (-1), 1) := by decide +kernel
theorem d_BH_mark_21 : decode prog_1_method_9_code 21 = .ok (.ireturn, 1) := by decide +kernel
theorem d_Fair_markOf_0 : decode prog_3_method_5_code 0 = .ok (.iconst (-1), 1) := by decide +kernel
theorem d_Fair_markOf_1 : decode prog_3_method_5_code 1 = .ok (.istore_n 2, 1) := by decide +kernel
theorem d_Fair_markOf_2 : decode prog_3_method_5_code 2 = .ok (.iconst 0, 1) := by decide +kernel
theorem d_Fair_markOf_3 : decode prog_3_method_5_code 3 = .ok (.istore_n 3, 1) := by decide +kernel
theorem d_Fair_markOf_4 : decode prog_3_method_5_code 4 = .ok (.iload_n 3, 1) := by decide +kernel
theorem d_Fair_markOf_5 : decode prog_3_method_5_code 5 = .ok (.aload_n 0, 1) := by decide +kernel
theorem d_Fair_markOf_6 : decode prog_3_method_5_code 6 = .ok (.getfield 49, 3) := by decide +kernel
theorem d_Fair_markOf_9 : decode prog_3_method_5_code 9 = .ok (.if_icmp .ge 41, 3) := by decide +kernel
theorem d_Fair_markOf_12 : decode prog_3_method_5_code 12 = .ok (.aload_n 0, 1) := by decide +kernel
theorem d_Fair_markOf_13 : decode prog_3_method_5_code 13 = .ok (.getfield 15, 3) := by decide +kernel
theorem d_Fair_markOf_16 : decode prog_3_method_5_code 16 = .ok (.iload_n 3, 1) := by decide +kernel
theorem d_Fair_markOf_17 : decode prog_3_method_5_code 17 = .ok (.iaload, 1) := by decide +kernel
theorem d_Fair_markOf_18 : decode prog_3_method_5_code 18 = .ok (.iload_n 1, 1) := by decide +kernel
theorem d_Fair_markOf_19 : decode prog_3_method_5_code 19 = .ok (.if_icmp .gt 25, 3) := by decide +kernel
theorem d_Fair_markOf_22 : decode prog_3_method_5_code 22 = .ok (.iload_n 2, 1) := by decide +kernel
theorem d_Fair_markOf_23 : decode prog_3_method_5_code 23 = .ok (.iconst (-1), 1) := by decide +kernel
theorem d_Fair_markOf_24 : decode prog_3_method_5_code 24 = .ok (.if_icmp .eq 18, 3) := by decide +kernel
theorem d_Fair_markOf_27 : decode prog_3_method_5_code 27 = .ok (.aload_n 0, 1) := by decide +kernel
theorem d_Fair_markOf_28 : decode prog_3_method_5_code 28 = .ok (.getfield 15, 3) := by decide +kernel
theorem d_Fair_markOf_31 : decode prog_3_method_5_code 31 = .ok (.iload_n 3, 1) := by decide +kernel
theorem d_Fair_markOf_32 : decode prog_3_method_5_code 32 = .ok (.iaload, 1) := by decide +kernel
theorem d_Fair_markOf_33 : decode prog_3_method_5_code 33 = .ok (.aload_n 0, 1) := by decide +kernel
theorem d_Fair_markOf_34 : decode prog_3_method_5_code 34 = .ok (.getfield 15, 3) := by decide +kernel
theorem d_Fair_markOf_37 : decode prog_3_method_5_code 37 = .ok (.iload_n 2, 1) := by decide +kernel
theorem d_Fair_markOf_38 : decode prog_3_method_5_code 38 = .ok (.iaload, 1) := by decide +kernel
theorem d_Fair_markOf_39 : decode prog_3_method_5_code 39 = .ok (.if_icmp .le 5, 3) := by decide +kernel
theorem d_Fair_markOf_42 : decode prog_3_method_5_code 42 = .ok (.iload_n 3, 1) := by decide +kernel
theorem d_Fair_markOf_43 : decode prog_3_method_5_code 43 = .ok (.istore_n 2, 1) := by decide +kernel
theorem d_Fair_markOf_44 : decode prog_3_method_5_code 44 = .ok (.iinc 3 1, 3) := by decide +kernel
theorem d_Fair_markOf_47 : decode prog_3_method_5_code 47 = .ok (.goto (-43), 3) := by decide +kernel
theorem d_Fair_markOf_50 : decode prog_3_method_5_code 50 = .ok (.iload_n 2, 1) := by decide +kernel
theorem d_Fair_markOf_51 : decode prog_3_method_5_code 51 = .ok (.ireturn, 1) := by decide +kernel
theorem d_BH_past_0 : decode prog_1_method_10_code 0 = .ok (.iload_n 1, 1) := by decide +kernel
theorem d_BH_past_1 : decode prog_1_method_10_code 1 = .ok (.ifCond .lt 9, 3) := by decide +kernel
theorem d_BH_past_4 : decode prog_1_method_10_code 4 = .ok (.iload_n 1, 1) := by decide +kernel
theorem d_BH_past_5 : decode prog_1_method_10_code 5 = .ok (.bipush 99, 2) := by decide +kernel
theorem d_BH_past_7 : decode prog_1_method_10_code 7 = .ok (.if_icmp .le 7, 3) := by decide +kernel
theorem d_BH_past_10 : decode prog_1_method_10_code 10 = .ok (.iconst (-1), 1) := by decide +kernel
theorem d_BH_past_11 : decode prog_1_method_10_code 11 = .ok (.goto 11, 3) := by decide +kernel
theorem d_BH_past_14 : decode prog_1_method_10_code 14 = .ok (.aload_n 0, 1) := by decide +kernel
theorem d_BH_past_15 : decode prog_1_method_10_code 15 = .ok (.getfield 54, 3) := by decide +kernel
theorem d_BH_past_18 : decode prog_1_method_10_code 18 = .ok (.iload_n 1, 1) := by decide +kernel
theorem d_BH_past_19 : decode prog_1_method_10_code 19 = .ok (.invokevirtual 156, 3) := by decide +kernel
theorem d_BH_past_22 : decode prog_1_method_10_code 22 = .ok (.ireturn, 1) := by decide +kernel
theorem d_BH_isWithin_0 : decode prog_1_method_38_code 0 = .ok (.iload_n 0, 1) := by decide +kernel
theorem d_BH_isWithin_1 : decode prog_1_method_38_code 1 = .ok (.ifCond .lt 12, 3) := by decide +kernel
theorem d_BH_isWithin_4 : decode prog_1_method_38_code 4 = .ok (.iload_n 0, 1) := by decide +kernel
theorem d_BH_isWithin_5 : decode prog_1_method_38_code 5 = .ok (.iload_n 1, 1) := by decide +kernel
theorem d_BH_isWithin_6 : decode prog_1_method_38_code 6 = .ok (.if_icmp .gt 7, 3) := by decide +kernel
theorem d_BH_isWithin_9 : decode prog_1_method_38_code 9 = .ok (.iconst 1, 1) := by decide +kernel
theorem d_BH_isWithin_10 : decode prog_1_method_38_code 10 = .ok (.goto 4, 3) := by decide +kernel
theorem d_BH_isWithin_13 : decode prog_1_method_38_code 13 = .ok (.iconst 0, 1) := by decide +kernel
theorem d_BH_isWithin_14 : decode prog_1_method_38_code 14 = .ok (.ireturn, 1) := by decide +kernel
theorem d_BH_isOff_0 : decode prog_1_method_37_code 0 = .ok (.iload_n 0, 1) := by decide +kernel
theorem d_BH_isOff_1 : decode prog_1_method_37_code 1 = .ok (.bipush 9, 2) := by decide +kernel
theorem d_BH_isOff_3 : decode prog_1_method_37_code 3 = .ok (.invokestatic 175, 3) := by decide +kernel
theorem d_BH_isOff_6 : decode prog_1_method_37_code 6 = .ok (.ireturn, 1) := by decide +kernel
theorem d_Turn_load_0 : decode prog_10_method_2_code 0 = .ok (.aload_n 0, 1) := by decide +kernel
theorem d_Turn_load_1 : decode prog_10_method_2_code 1 = .ok (.aload_n 1, 1) := by decide +kernel
theorem d_Turn_load_2 : decode prog_10_method_2_code 2 = .ok (.iload_n 2, 1) := by decide +kernel
theorem d_Turn_load_3 : decode prog_10_method_2_code 3 = .ok (.iconst 0, 1) := by decide +kernel
theorem d_Turn_load_4 : decode prog_10_method_2_code 4 = .ok (.invokevirtual 15, 3) := by decide +kernel
theorem d_Turn_load_7 : decode prog_10_method_2_code 7 = .ok (.putfield 21, 3) := by decide +kernel
theorem d_Turn_load_10 : decode prog_10_method_2_code 10 = .ok (.aload_n 0, 1) := by decide +kernel
theorem d_Turn_load_11 : decode prog_10_method_2_code 11 = .ok (.aload_n 1, 1) := by decide +kernel
theorem d_Turn_load_12 : decode prog_10_method_2_code 12 = .ok (.iload_n 2, 1) := by decide +kernel
theorem d_Turn_load_13 : decode prog_10_method_2_code 13 = .ok (.iconst 1, 1) := by decide +kernel
theorem d_Turn_load_14 : decode prog_10_method_2_code 14 = .ok (.invokevirtual 15, 3) := by decide +kernel
theorem d_Turn_load_17 : decode prog_10_method_2_code 17 = .ok (.putfield 25, 3) := by decide +kernel
theorem d_Turn_load_20 : decode prog_10_method_2_code 20 = .ok (.aload_n 0, 1) := by decide +kernel
theorem d_Turn_load_21 : decode prog_10_method_2_code 21 = .ok (.aload_n 1, 1) := by decide +kernel
theorem d_Turn_load_22 : decode prog_10_method_2_code 22 = .ok (.iload_n 2, 1) := by decide +kernel
theorem d_Turn_load_23 : decode prog_10_method_2_code 23 = .ok (.iconst 2, 1) := by decide +kernel
theorem d_Turn_load_24 : decode prog_10_method_2_code 24 = .ok (.invokevirtual 15, 3) := by decide +kernel
theorem d_Turn_load_27 : decode prog_10_method_2_code 27 = .ok (.putfield 28, 3) := by decide +kernel
theorem d_Turn_load_30 : decode prog_10_method_2_code 30 = .ok (.aload_n 0, 1) := by decide +kernel
theorem d_Turn_load_31 : decode prog_10_method_2_code 31 = .ok (.aload_n 1, 1) := by decide +kernel
theorem d_Turn_load_32 : decode prog_10_method_2_code 32 = .ok (.iload_n 2, 1) := by decide +kernel
theorem d_Turn_load_33 : decode prog_10_method_2_code 33 = .ok (.iconst 3, 1) := by decide +kernel
theorem d_Turn_load_34 : decode prog_10_method_2_code 34 = .ok (.invokevirtual 15, 3) := by decide +kernel
theorem d_Turn_load_37 : decode prog_10_method_2_code 37 = .ok (.putfield 31, 3) := by decide +kernel
theorem d_Turn_load_40 : decode prog_10_method_2_code 40 = .ok (.aload_n 0, 1) := by decide +kernel
theorem d_Turn_load_41 : decode prog_10_method_2_code 41 = .ok (.aload_n 1, 1) := by decide +kernel
theorem d_Turn_load_42 : decode prog_10_method_2_code 42 = .ok (.iload_n 2, 1) := by decide +kernel
theorem d_Turn_load_43 : decode prog_10_method_2_code 43 = .ok (.iconst 4, 1) := by decide +kernel
theorem d_Turn_load_44 : decode prog_10_method_2_code 44 = .ok (.invokevirtual 15, 3) := by decide +kernel
theorem d_Turn_load_47 : decode prog_10_method_2_code 47 = .ok (.putfield 34, 3) := by decide +kernel
theorem d_Turn_load_50 : decode prog_10_method_2_code 50 = .ok (.aload_n 0, 1) := by decide +kernel
theorem d_Turn_load_51 : decode prog_10_method_2_code 51 = .ok (.aload_n 1, 1) := by decide +kernel
theorem d_Turn_load_52 : decode prog_10_method_2_code 52 = .ok (.iload_n 2, 1) := by decide +kernel
theorem d_Turn_load_53 : decode prog_10_method_2_code 53 = .ok (.iconst 5, 1) := by decide +kernel
theorem d_Turn_load_54 : decode prog_10_method_2_code 54 = .ok (.invokevirtual 15, 3) := by decide +kernel
theorem d_Turn_load_57 : decode prog_10_method_2_code 57 = .ok (.putfield 37, 3) := by decide +kernel
theorem d_Turn_load_60 : decode prog_10_method_2_code 60 = .ok (.aload_n 0, 1) := by decide +kernel
theorem d_Turn_load_61 : decode prog_10_method_2_code 61 = .ok (.aload_n 3, 1) := by decide +kernel
theorem d_Turn_load_62 : decode prog_10_method_2_code 62 = .ok (.iconst 0, 1) := by decide +kernel
theorem d_Turn_load_63 : decode prog_10_method_2_code 63 = .ok (.iaload, 1) := by decide +kernel
theorem d_Turn_load_64 : decode prog_10_method_2_code 64 = .ok (.putfield 40, 3) := by decide +kernel
theorem d_Turn_load_67 : decode prog_10_method_2_code 67 = .ok (.aload_n 0, 1) := by decide +kernel
theorem d_Turn_load_68 : decode prog_10_method_2_code 68 = .ok (.aload_n 3, 1) := by decide +kernel
theorem d_Turn_load_69 : decode prog_10_method_2_code 69 = .ok (.iconst 1, 1) := by decide +kernel
theorem d_Turn_load_70 : decode prog_10_method_2_code 70 = .ok (.iaload, 1) := by decide +kernel
theorem d_Turn_load_71 : decode prog_10_method_2_code 71 = .ok (.putfield 43, 3) := by decide +kernel
theorem d_Turn_load_74 : decode prog_10_method_2_code 74 = .ok (.aload_n 0, 1) := by decide +kernel
theorem d_Turn_load_75 : decode prog_10_method_2_code 75 = .ok (.aload_n 3, 1) := by decide +kernel
theorem d_Turn_load_76 : decode prog_10_method_2_code 76 = .ok (.iconst 2, 1) := by decide +kernel
theorem d_Turn_load_77 : decode prog_10_method_2_code 77 = .ok (.iaload, 1) := by decide +kernel
theorem d_Turn_load_78 : decode prog_10_method_2_code 78 = .ok (.putfield 46, 3) := by decide +kernel
theorem d_Turn_load_81 : decode prog_10_method_2_code 81 = .ok (.aload_n 0, 1) := by decide +kernel
theorem d_Turn_load_82 : decode prog_10_method_2_code 82 = .ok (.aload_n 1, 1) := by decide +kernel
theorem d_Turn_load_83 : decode prog_10_method_2_code 83 = .ok (.getfield 49, 3) := by decide +kernel
theorem d_Turn_load_86 : decode prog_10_method_2_code 86 = .ok (.iconst 3, 1) := by decide +kernel
theorem d_Turn_load_87 : decode prog_10_method_2_code 87 = .ok (.iaload, 1) := by decide +kernel
theorem d_Turn_load_88 : decode prog_10_method_2_code 88 = .ok (.putfield 52, 3) := by decide +kernel
theorem d_Turn_load_91 : decode prog_10_method_2_code 91 = .ok (.aload_n 0, 1) := by decide +kernel
theorem d_Turn_load_92 : decode prog_10_method_2_code 92 = .ok (.aload_n 1, 1) := by decide +kernel
theorem d_Turn_load_93 : decode prog_10_method_2_code 93 = .ok (.getfield 49, 3) := by decide +kernel
theorem d_Turn_load_96 : decode prog_10_method_2_code 96 = .ok (.iconst 5, 1) := by decide +kernel
theorem d_Turn_load_97 : decode prog_10_method_2_code 97 = .ok (.iaload, 1) := by decide +kernel
theorem d_Turn_load_98 : decode prog_10_method_2_code 98 = .ok (.putfield 55, 3) := by decide +kernel
theorem d_Turn_load_101 : decode prog_10_method_2_code 101 = .ok (.aload_n 0, 1) := by decide +kernel
theorem d_Turn_load_102 : decode prog_10_method_2_code 102 = .ok (.aload_n 1, 1) := by decide +kernel
theorem d_Turn_load_103 : decode prog_10_method_2_code 103 = .ok (.getfield 49, 3) := by decide +kernel
theorem d_Turn_load_106 : decode prog_10_method_2_code 106 = .ok (.iconst 4, 1) := by decide +kernel
theorem d_Turn_load_107 : decode prog_10_method_2_code 107 = .ok (.iaload, 1) := by decide +kernel
theorem d_Turn_load_108 : decode prog_10_method_2_code 108 = .ok (.putfield 58, 3) := by decide +kernel
theorem d_Turn_load_111 : decode prog_10_method_2_code 111 = .ok (.aload_n 1, 1) := by decide +kernel
theorem d_Turn_load_112 : decode prog_10_method_2_code 112 = .ok (.getfield 49, 3) := by decide +kernel
theorem d_Turn_load_115 : decode prog_10_method_2_code 115 = .ok (.bipush 6, 2) := by decide +kernel
theorem d_Turn_load_117 : decode prog_10_method_2_code 117 = .ok (.aload_n 0, 1) := by decide +kernel
theorem d_Turn_load_118 : decode prog_10_method_2_code 118 = .ok (.getfield 9, 3) := by decide +kernel
theorem d_Turn_load_121 : decode prog_10_method_2_code 121 = .ok (.iconst 0, 1) := by decide +kernel
theorem d_Turn_load_122 : decode prog_10_method_2_code 122 = .ok (.aload_n 0, 1) := by decide +kernel
theorem d_Turn_load_123 : decode prog_10_method_2_code 123 = .ok (.getfield 9, 3) := by decide +kernel
theorem d_Turn_load_126 : decode prog_10_method_2_code 126 = .ok (.arraylength, 1) := by decide +kernel
theorem d_Turn_load_127 : decode prog_10_method_2_code 127 = .ok (.invokestatic 61, 3) := by decide +kernel
theorem d_Turn_load_130 : decode prog_10_method_2_code 130 = .ok (.return_, 1) := by decide +kernel
theorem d_BH_rise_0 : decode prog_1_method_39_code 0 = .ok (.iload_n 0, 1) := by decide +kernel
theorem d_BH_rise_1 : decode prog_1_method_39_code 1 = .ok (.bipush 100, 2) := by decide +kernel
theorem d_BH_rise_3 : decode prog_1_method_39_code 3 = .ok (.bipush 10, 2) := by decide +kernel
theorem d_BH_rise_5 : decode prog_1_method_39_code 5 = .ok (.iload_n 1, 1) := by decide +kernel
theorem d_BH_rise_6 : decode prog_1_method_39_code 6 = .ok (.imul, 1) := by decide +kernel
theorem d_BH_rise_7 : decode prog_1_method_39_code 7 = .ok (.isub, 1) := by decide +kernel
theorem d_BH_rise_8 : decode prog_1_method_39_code 8 = .ok (.imul, 1) := by decide +kernel
theorem d_BH_rise_9 : decode prog_1_method_39_code 9 = .ok (.bipush 100, 2) := by decide +kernel
theorem d_BH_rise_11 : decode prog_1_method_39_code 11 = .ok (.idiv, 1) := by decide +kernel
theorem d_BH_rise_12 : decode prog_1_method_39_code 12 = .ok (.istore_n 3, 1) := by decide +kernel
theorem d_BH_rise_13 : decode prog_1_method_39_code 13 = .ok (.iload_n 3, 1) := by decide +kernel
theorem d_BH_rise_14 : decode prog_1_method_39_code 14 = .ok (.bipush 100, 2) := by decide +kernel
theorem d_BH_rise_16 : decode prog_1_method_39_code 16 = .ok (.iload_n 2, 1) := by decide +kernel
theorem d_BH_rise_17 : decode prog_1_method_39_code 17 = .ok (.isub, 1) := by decide +kernel
theorem d_BH_rise_18 : decode prog_1_method_39_code 18 = .ok (.imul, 1) := by decide +kernel
theorem d_BH_rise_19 : decode prog_1_method_39_code 19 = .ok (.bipush 100, 2) := by decide +kernel
theorem d_BH_rise_21 : decode prog_1_method_39_code 21 = .ok (.idiv, 1) := by decide +kernel
theorem d_BH_rise_22 : decode prog_1_method_39_code 22 = .ok (.ireturn, 1) := by decide +kernel
theorem d_Turn_height_0 : decode prog_10_method_5_code 0 = .ok (.iconst 1, 1) := by decide +kernel
theorem d_Turn_height_1 : decode prog_10_method_5_code 1 = .ok (.aload_n 0, 1) := by decide +kernel
theorem d_Turn_height_2 : decode prog_10_method_5_code 2 = .ok (.getfield 21, 3) := by decide +kernel
theorem d_Turn_height_5 : decode prog_10_method_5_code 5 = .ok (.iload_n 1, 1) := by decide +kernel
theorem d_Turn_height_6 : decode prog_10_method_5_code 6 = .ok (.aload_n 0, 1) := by decide +kernel
theorem d_Turn_height_7 : decode prog_10_method_5_code 7 = .ok (.getfield 28, 3) := by decide +kernel
theorem d_Turn_height_10 : decode prog_10_method_5_code 10 = .ok (.imul, 1) := by decide +kernel
theorem d_Turn_height_11 : decode prog_10_method_5_code 11 = .ok (.isub, 1) := by decide +kernel
theorem d_Turn_height_12 : decode prog_10_method_5_code 12 = .ok (.invokestatic 75, 3) := by decide +kernel
theorem d_Turn_height_15 : decode prog_10_method_5_code 15 = .ok (.istore 4, 2) := by decide +kernel
theorem d_Turn_height_17 : decode prog_10_method_5_code 17 = .ok (.aload_n 0, 1) := by decide +kernel
theorem d_Turn_height_18 : decode prog_10_method_5_code 18 = .ok (.getfield 40, 3) := by decide +kernel
theorem d_Turn_height_21 : decode prog_10_method_5_code 21 = .ok (.iload 4, 2) := by decide +kernel
theorem d_Turn_height_23 : decode prog_10_method_5_code 23 = .ok (.iload_n 2, 1) := by decide +kernel
theorem d_Turn_height_24 : decode prog_10_method_5_code 24 = .ok (.iload_n 3, 1) := by decide +kernel
theorem d_Turn_height_25 : decode prog_10_method_5_code 25 = .ok (.ifCond .eq 10, 3) := by decide +kernel
theorem d_Turn_height_28 : decode prog_10_method_5_code 28 = .ok (.aload_n 0, 1) := by decide +kernel
theorem d_Turn_height_29 : decode prog_10_method_5_code 29 = .ok (.getfield 43, 3) := by decide +kernel
theorem d_Turn_height_32 : decode prog_10_method_5_code 32 = .ok (.goto 4, 3) := by decide +kernel
theorem d_Turn_height_35 : decode prog_10_method_5_code 35 = .ok (.iconst 0, 1) := by decide +kernel
theorem d_Turn_height_36 : decode prog_10_method_5_code 36 = .ok (.invokestatic 80, 3) := by decide +kernel
theorem d_Turn_height_39 : decode prog_10_method_5_code 39 = .ok (.invokestatic 84, 3) := by decide +kernel
theorem d_Turn_height_42 : decode prog_10_method_5_code 42 = .ok (.ireturn, 1) := by decide +kernel
theorem d_BH_high_0 : decode prog_1_method_11_code 0 = .ok (.aload_n 0, 1) := by decide +kernel
theorem d_BH_high_1 : decode prog_1_method_11_code 1 = .ok (.iload_n 1, 1) := by decide +kernel
theorem d_BH_high_2 : decode prog_1_method_11_code 2 = .ok (.invokevirtual 144, 3) := by decide +kernel
theorem d_BH_high_5 : decode prog_1_method_11_code 5 = .ok (.ifCond .eq 19, 3) := by decide +kernel
theorem d_BH_high_8 : decode prog_1_method_11_code 8 = .ok (.iload_n 2, 1) := by decide +kernel
theorem d_BH_high_9 : decode prog_1_method_11_code 9 = .ok (.ifCond .lt 15, 3) := by decide +kernel
theorem d_BH_high_12 : decode prog_1_method_11_code 12 = .ok (.iload_n 2, 1) := by decide +kernel
theorem d_BH_high_13 : decode prog_1_method_11_code 13 = .ok (.iconst 4, 1) := by decide +kernel
theorem d_BH_high_14 : decode prog_1_method_11_code 14 = .ok (.if_icmp .ge 10, 3) := by decide +kernel
theorem d_BH_high_17 : decode prog_1_method_11_code 17 = .ok (.iload_n 3, 1) := by decide +kernel
theorem d_BH_high_18 : decode prog_1_method_11_code 18 = .ok (.invokestatic 160, 3) := by decide +kernel
theorem d_BH_high_21 : decode prog_1_method_11_code 21 = .ok (.ifCond .ne 5, 3) := by decide +kernel
theorem d_BH_high_24 : decode prog_1_method_11_code 24 = .ok (.iconst (-1), 1) := by decide +kernel
theorem d_BH_high_25 : decode prog_1_method_11_code 25 = .ok (.ireturn, 1) := by decide +kernel
theorem d_BH_high_26 : decode prog_1_method_11_code 26 = .ok (.aload_n 0, 1) := by decide +kernel
theorem d_BH_high_27 : decode prog_1_method_11_code 27 = .ok (.getfield 40, 3) := by decide +kernel
theorem d_BH_high_30 : decode prog_1_method_11_code 30 = .ok (.aload_n 0, 1) := by decide +kernel
theorem d_BH_high_31 : decode prog_1_method_11_code 31 = .ok (.getfield 54, 3) := by decide +kernel
theorem d_BH_high_34 : decode prog_1_method_11_code 34 = .ok (.iload_n 1, 1) := by decide +kernel
theorem d_BH_high_35 : decode prog_1_method_11_code 35 = .ok (.aload_n 0, 1) := by decide +kernel
theorem d_BH_high_36 : decode prog_1_method_11_code 36 = .ok (.getfield 26, 3) := by decide +kernel
theorem d_BH_high_39 : decode prog_1_method_11_code 39 = .ok (.getfield 114, 3) := by decide +kernel
theorem d_BH_high_42 : decode prog_1_method_11_code 42 = .ok (.invokevirtual 163, 3) := by decide +kernel
theorem d_BH_high_45 : decode prog_1_method_11_code 45 = .ok (.aload_n 0, 1) := by decide +kernel
theorem d_BH_high_46 : decode prog_1_method_11_code 46 = .ok (.getfield 40, 3) := by decide +kernel
theorem d_BH_high_49 : decode prog_1_method_11_code 49 = .ok (.iload_n 2, 1) := by decide +kernel
theorem d_BH_high_50 : decode prog_1_method_11_code 50 = .ok (.iload_n 3, 1) := by decide +kernel
theorem d_BH_high_51 : decode prog_1_method_11_code 51 = .ok (.iload 4, 2) := by decide +kernel
theorem d_BH_high_53 : decode prog_1_method_11_code 53 = .ok (.invokevirtual 167, 3) := by decide +kernel
theorem d_BH_high_56 : decode prog_1_method_11_code 56 = .ok (.ireturn, 1) := by decide +kernel
theorem d_BH_wouldRing_0 : decode prog_1_method_40_code 0 = .ok (.iload_n 1, 1) := by decide +kernel
theorem d_BH_wouldRing_1 : decode prog_1_method_40_code 1 = .ok (.iload_n 2, 1) := by decide +kernel
theorem d_BH_wouldRing_2 : decode prog_1_method_40_code 2 = .ok (.iload_n 3, 1) := by decide +kernel
theorem d_BH_wouldRing_3 : decode prog_1_method_40_code 3 = .ok (.ifCond .eq 15, 3) := by decide +kernel
theorem d_BH_wouldRing_6 : decode prog_1_method_40_code 6 = .ok (.aload_n 0, 1) := by decide +kernel
theorem d_BH_wouldRing_7 : decode prog_1_method_40_code 7 = .ok (.getfield 26, 3) := by decide +kernel
theorem d_BH_wouldRing_10 : decode prog_1_method_40_code 10 = .ok (.getfield 114, 3) := by decide +kernel
theorem d_BH_wouldRing_13 : decode prog_1_method_40_code 13 = .ok (.iconst 1, 1) := by decide +kernel
theorem d_BH_wouldRing_14 : decode prog_1_method_40_code 14 = .ok (.iaload, 1) := by decide +kernel
theorem d_BH_wouldRing_15 : decode prog_1_method_40_code 15 = .ok (.goto 4, 3) := by decide +kernel
theorem d_BH_wouldRing_18 : decode prog_1_method_40_code 18 = .ok (.iconst 0, 1) := by decide +kernel
theorem d_BH_wouldRing_19 : decode prog_1_method_40_code 19 = .ok (.invokestatic 284, 3) := by decide +kernel
theorem d_BH_wouldRing_22 : decode prog_1_method_40_code 22 = .ok (.aload_n 0, 1) := by decide +kernel
theorem d_BH_wouldRing_23 : decode prog_1_method_40_code 23 = .ok (.getfield 26, 3) := by decide +kernel
theorem d_BH_wouldRing_26 : decode prog_1_method_40_code 26 = .ok (.getfield 114, 3) := by decide +kernel
theorem d_BH_wouldRing_29 : decode prog_1_method_40_code 29 = .ok (.iconst 0, 1) := by decide +kernel
theorem d_BH_wouldRing_30 : decode prog_1_method_40_code 30 = .ok (.iaload, 1) := by decide +kernel
theorem d_BH_wouldRing_31 : decode prog_1_method_40_code 31 = .ok (.if_icmp .lt 7, 3) := by decide +kernel
theorem d_BH_wouldRing_34 : decode prog_1_method_40_code 34 = .ok (.iconst 1, 1) := by decide +kernel
theorem d_BH_wouldRing_35 : decode prog_1_method_40_code 35 = .ok (.goto 4, 3) := by decide +kernel
theorem d_BH_wouldRing_38 : decode prog_1_method_40_code 38 = .ok (.iconst 0, 1) := by decide +kernel
theorem d_BH_wouldRing_39 : decode prog_1_method_40_code 39 = .ok (.ireturn, 1) := by decide +kernel
theorem d_BH_hard_0 : decode prog_1_method_12_code 0 = .ok (.iload_n 1, 1) := by decide +kernel
theorem d_BH_hard_1 : decode prog_1_method_12_code 1 = .ok (.invokestatic 160, 3) := by decide +kernel
theorem d_BH_hard_4 : decode prog_1_method_12_code 4 = .ok (.ifCond .ne 5, 3) := by decide +kernel
theorem d_BH_hard_7 : decode prog_1_method_12_code 7 = .ok (.iconst (-1), 1) := by decide +kernel
theorem d_BH_hard_8 : decode prog_1_method_12_code 8 = .ok (.ireturn, 1) := by decide +kernel
theorem d_BH_hard_9 : decode prog_1_method_12_code 9 = .ok (.iconst 1, 1) := by decide +kernel
theorem d_BH_hard_10 : decode prog_1_method_12_code 10 = .ok (.istore_n 3, 1) := by decide +kernel
theorem d_BH_hard_11 : decode prog_1_method_12_code 11 = .ok (.iload_n 3, 1) := by decide +kernel
theorem d_BH_hard_12 : decode prog_1_method_12_code 12 = .ok (.bipush 99, 2) := by decide +kernel
theorem d_BH_hard_14 : decode prog_1_method_12_code 14 = .ok (.if_icmp .gt 21, 3) := by decide +kernel
theorem d_BH_hard_17 : decode prog_1_method_12_code 17 = .ok (.aload_n 0, 1) := by decide +kernel
theorem d_BH_hard_18 : decode prog_1_method_12_code 18 = .ok (.iload_n 3, 1) := by decide +kernel
theorem d_BH_hard_19 : decode prog_1_method_12_code 19 = .ok (.iload_n 1, 1) := by decide +kernel
theorem d_BH_hard_20 : decode prog_1_method_12_code 20 = .ok (.iload_n 2, 1) := by decide +kernel
theorem d_BH_hard_21 : decode prog_1_method_12_code 21 = .ok (.invokevirtual 171, 3) := by decide +kernel
theorem d_BH_hard_24 : decode prog_1_method_12_code 24 = .ok (.ifCond .eq 5, 3) := by decide +kernel
theorem d_BH_hard_27 : decode prog_1_method_12_code 27 = .ok (.iload_n 3, 1) := by decide +kernel
theorem d_BH_hard_28 : decode prog_1_method_12_code 28 = .ok (.ireturn, 1) := by decide +kernel
theorem d_BH_hard_29 : decode prog_1_method_12_code 29 = .ok (.iinc 3 1, 3) := by decide +kernel
theorem d_BH_hard_32 : decode prog_1_method_12_code 32 = .ok (.goto (-21), 3) := by decide +kernel
theorem d_BH_hard_35 : decode prog_1_method_12_code 35 = .ok (.iconst (-1), 1) := by decide +kernel
theorem d_BH_hard_36 : decode prog_1_method_12_code 36 = .ok (.ireturn, 1) := by decide +kernel
theorem d_BH_wide_0 : decode prog_1_method_13_code 0 = .ok (.iload_n 1, 1) := by decide +kernel
theorem d_BH_wide_1 : decode prog_1_method_13_code 1 = .ok (.iconst 1, 1) := by decide +kernel
theorem d_BH_wide_2 : decode prog_1_method_13_code 2 = .ok (.if_icmp .lt 9, 3) := by decide +kernel
theorem d_BH_wide_5 : decode prog_1_method_13_code 5 = .ok (.iload_n 1, 1) := by decide +kernel
theorem d_BH_wide_6 : decode prog_1_method_13_code 6 = .ok (.bipush 99, 2) := by decide +kernel
theorem d_BH_wide_8 : decode prog_1_method_13_code 8 = .ok (.if_icmp .le 5, 3) := by decide +kernel
theorem d_BH_wide_11 : decode prog_1_method_13_code 11 = .ok (.iconst (-1), 1) := by decide +kernel
theorem d_BH_wide_12 : decode prog_1_method_13_code 12 = .ok (.ireturn, 1) := by decide +kernel
theorem d_BH_wide_13 : decode prog_1_method_13_code 13 = .ok (.bipush 9, 2) := by decide +kernel
theorem d_BH_wide_15 : decode prog_1_method_13_code 15 = .ok (.istore_n 3, 1) := by decide +kernel
theorem d_BH_wide_16 : decode prog_1_method_13_code 16 = .ok (.iload_n 3, 1) := by decide +kernel
theorem d_BH_wide_17 : decode prog_1_method_13_code 17 = .ok (.ifCond .lt 21, 3) := by decide +kernel
theorem d_BH_wide_20 : decode prog_1_method_13_code 20 = .ok (.aload_n 0, 1) := by decide +kernel
theorem d_BH_wide_21 : decode prog_1_method_13_code 21 = .ok (.iload_n 1, 1) := by decide +kernel
theorem d_BH_wide_22 : decode prog_1_method_13_code 22 = .ok (.iload_n 3, 1) := by decide +kernel
theorem d_BH_wide_23 : decode prog_1_method_13_code 23 = .ok (.iload_n 2, 1) := by decide +kernel
theorem d_BH_wide_24 : decode prog_1_method_13_code 24 = .ok (.invokevirtual 171, 3) := by decide +kernel
theorem d_BH_wide_27 : decode prog_1_method_13_code 27 = .ok (.ifCond .eq 5, 3) := by decide +kernel
theorem d_BH_wide_30 : decode prog_1_method_13_code 30 = .ok (.iload_n 3, 1) := by decide +kernel
theorem d_BH_wide_31 : decode prog_1_method_13_code 31 = .ok (.ireturn, 1) := by decide +kernel
theorem d_BH_wide_32 : decode prog_1_method_13_code 32 = .ok (.iinc 3 (-1), 3) := by decide +kernel
theorem d_BH_wide_35 : decode prog_1_method_13_code 35 = .ok (.goto (-19), 3) := by decide +kernel
theorem d_BH_wide_38 : decode prog_1_method_13_code 38 = .ok (.iconst (-1), 1) := by decide +kernel
theorem d_BH_wide_39 : decode prog_1_method_13_code 39 = .ok (.ireturn, 1) := by decide +kernel
theorem d_Showman_look_0 : decode prog_7_method_2_code 0 = .ok (.aload_n 0, 1) := by decide +kernel
theorem d_Showman_look_1 : decode prog_7_method_2_code 1 = .ok (.getfield 7, 3) := by decide +kernel
theorem d_Showman_look_4 : decode prog_7_method_2_code 4 = .ok (.iconst 0, 1) := by decide +kernel
theorem d_Showman_look_5 : decode prog_7_method_2_code 5 = .ok (.iload_n 1, 1) := by decide +kernel
theorem d_Showman_look_6 : decode prog_7_method_2_code 6 = .ok (.iastore, 1) := by decide +kernel
theorem d_Showman_look_7 : decode prog_7_method_2_code 7 = .ok (.aload_n 0, 1) := by decide +kernel
theorem d_Showman_look_8 : decode prog_7_method_2_code 8 = .ok (.getfield 7, 3) := by decide +kernel
theorem d_Showman_look_11 : decode prog_7_method_2_code 11 = .ok (.iconst 1, 1) := by decide +kernel
theorem d_Showman_look_12 : decode prog_7_method_2_code 12 = .ok (.iload_n 2, 1) := by decide +kernel
theorem d_Showman_look_13 : decode prog_7_method_2_code 13 = .ok (.iastore, 1) := by decide +kernel
theorem d_Showman_look_14 : decode prog_7_method_2_code 14 = .ok (.aload_n 0, 1) := by decide +kernel
theorem d_Showman_look_15 : decode prog_7_method_2_code 15 = .ok (.getfield 7, 3) := by decide +kernel
theorem d_Showman_look_18 : decode prog_7_method_2_code 18 = .ok (.iconst 2, 1) := by decide +kernel
theorem d_Showman_look_19 : decode prog_7_method_2_code 19 = .ok (.iload_n 3, 1) := by decide +kernel
theorem d_Showman_look_20 : decode prog_7_method_2_code 20 = .ok (.iastore, 1) := by decide +kernel
theorem d_Showman_look_21 : decode prog_7_method_2_code 21 = .ok (.aload_n 0, 1) := by decide +kernel
theorem d_Showman_look_22 : decode prog_7_method_2_code 22 = .ok (.getfield 7, 3) := by decide +kernel
theorem d_Showman_look_25 : decode prog_7_method_2_code 25 = .ok (.iconst 4, 1) := by decide +kernel
theorem d_Showman_look_26 : decode prog_7_method_2_code 26 = .ok (.iload 4, 2) := by decide +kernel
theorem d_Showman_look_28 : decode prog_7_method_2_code 28 = .ok (.iastore, 1) := by decide +kernel
theorem d_Showman_look_29 : decode prog_7_method_2_code 29 = .ok (.return_, 1) := by decide +kernel
theorem d_Showman_lookAt_0 : decode prog_7_method_3_code 0 = .ok (.aload_n 0, 1) := by decide +kernel
theorem d_Showman_lookAt_1 : decode prog_7_method_3_code 1 = .ok (.getfield 7, 3) := by decide +kernel
theorem d_Showman_lookAt_4 : decode prog_7_method_3_code 4 = .ok (.iconst 3, 1) := by decide +kernel
theorem d_Showman_lookAt_5 : decode prog_7_method_3_code 5 = .ok (.iload_n 1, 1) := by decide +kernel
theorem d_Showman_lookAt_6 : decode prog_7_method_3_code 6 = .ok (.iastore, 1) := by decide +kernel
theorem d_Showman_lookAt_7 : decode prog_7_method_3_code 7 = .ok (.aload_n 0, 1) := by decide +kernel
theorem d_Showman_lookAt_8 : decode prog_7_method_3_code 8 = .ok (.getfield 7, 3) := by decide +kernel
theorem d_Showman_lookAt_11 : decode prog_7_method_3_code 11 = .ok (.iconst 5, 1) := by decide +kernel
theorem d_Showman_lookAt_12 : decode prog_7_method_3_code 12 = .ok (.iload_n 2, 1) := by decide +kernel
theorem d_Showman_lookAt_13 : decode prog_7_method_3_code 13 = .ok (.iastore, 1) := by decide +kernel
theorem d_Showman_lookAt_14 : decode prog_7_method_3_code 14 = .ok (.return_, 1) := by decide +kernel
theorem d_Showman_reckon_0 : decode prog_7_method_8_code 0 = .ok (.iload_n 0, 1) := by decide +kernel
theorem d_Showman_reckon_1 : decode prog_7_method_8_code 1 = .ok (.sipush 10016, 3) := by decide +kernel
theorem d_Showman_reckon_4 : decode prog_7_method_8_code 4 = .ok (.if_icmp .ne 9, 3) := by decide +kernel
theorem d_Showman_reckon_7 : decode prog_7_method_8_code 7 = .ok (.lload_n 1, 1) := by decide +kernel
theorem d_Showman_reckon_8 : decode prog_7_method_8_code 8 = .ok (.lload_n 3, 1) := by decide +kernel
theorem d_Showman_reckon_9 : decode prog_7_method_8_code 9 = .ok (.ladd, 1) := by decide +kernel
theorem d_Showman_reckon_10 : decode prog_7_method_8_code 10 = .ok (.goto 19, 3) := by decide +kernel
theorem d_Showman_reckon_13 : decode prog_7_method_8_code 13 = .ok (.iload_n 0, 1) := by decide +kernel
theorem d_Showman_reckon_14 : decode prog_7_method_8_code 14 = .ok (.sipush 10017, 3) := by decide +kernel
theorem d_Showman_reckon_17 : decode prog_7_method_8_code 17 = .ok (.if_icmp .ne 9, 3) := by decide +kernel
theorem d_Showman_reckon_20 : decode prog_7_method_8_code 20 = .ok (.lload_n 1, 1) := by decide +kernel
theorem d_Showman_reckon_21 : decode prog_7_method_8_code 21 = .ok (.lload_n 3, 1) := by decide +kernel
theorem d_Showman_reckon_22 : decode prog_7_method_8_code 22 = .ok (.lsub, 1) := by decide +kernel
theorem d_Showman_reckon_23 : decode prog_7_method_8_code 23 = .ok (.goto 6, 3) := by decide +kernel
theorem d_Showman_reckon_26 : decode prog_7_method_8_code 26 = .ok (.lload_n 1, 1) := by decide +kernel
theorem d_Showman_reckon_27 : decode prog_7_method_8_code 27 = .ok (.lload_n 3, 1) := by decide +kernel
theorem d_Showman_reckon_28 : decode prog_7_method_8_code 28 = .ok (.lmul, 1) := by decide +kernel
theorem d_Showman_reckon_29 : decode prog_7_method_8_code 29 = .ok (.lstore 5, 2) := by decide +kernel
theorem d_Showman_reckon_31 : decode prog_7_method_8_code 31 = .ok (.lload 5, 2) := by decide +kernel
theorem d_Showman_reckon_33 : decode prog_7_method_8_code 33 = .ok (.ldc2_w 58, 3) := by decide +kernel
theorem d_Showman_reckon_36 : decode prog_7_method_8_code 36 = .ok (.lcmp, 1) := by decide +kernel
theorem d_Showman_reckon_37 : decode prog_7_method_8_code 37 = .ok (.ifCond .le 9, 3) := by decide +kernel
theorem d_Showman_reckon_40 : decode prog_7_method_8_code 40 = .ok (.ldc2_w 58, 3) := by decide +kernel
theorem d_Showman_reckon_43 : decode prog_7_method_8_code 43 = .ok (.goto 20, 3) := by decide +kernel
theorem d_Showman_reckon_46 : decode prog_7_method_8_code 46 = .ok (.lload 5, 2) := by decide +kernel
theorem d_Showman_reckon_48 : decode prog_7_method_8_code 48 = .ok (.ldc2_w 60, 3) := by decide +kernel
theorem d_Showman_reckon_51 : decode prog_7_method_8_code 51 = .ok (.lcmp, 1) := by decide +kernel
theorem d_Showman_reckon_52 : decode prog_7_method_8_code 52 = .ok (.ifCond .ge 9, 3) := by decide +kernel
theorem d_Showman_reckon_55 : decode prog_7_method_8_code 55 = .ok (.ldc2_w 60, 3) := by decide +kernel
theorem d_Showman_reckon_58 : decode prog_7_method_8_code 58 = .ok (.goto 5, 3) := by decide +kernel
theorem d_Showman_reckon_61 : decode prog_7_method_8_code 61 = .ok (.lload 5, 2) := by decide +kernel
theorem d_Showman_reckon_63 : decode prog_7_method_8_code 63 = .ok (.l2i, 1) := by decide +kernel
theorem d_Showman_reckon_64 : decode prog_7_method_8_code 64 = .ok (.ireturn, 1) := by decide +kernel
theorem d_Math_floorDiv_0 : decode prog_14_method_47_code 0 = .ok (.iload_n 0, 1) := by decide +kernel
theorem d_Math_floorDiv_1 : decode prog_14_method_47_code 1 = .ok (.iload_n 1, 1) := by decide +kernel
theorem d_Math_floorDiv_2 : decode prog_14_method_47_code 2 = .ok (.idiv, 1) := by decide +kernel
theorem d_Math_floorDiv_3 : decode prog_14_method_47_code 3 = .ok (.istore_n 2, 1) := by decide +kernel
theorem d_Math_floorDiv_4 : decode prog_14_method_47_code 4 = .ok (.iload_n 0, 1) := by decide +kernel
theorem d_Math_floorDiv_5 : decode prog_14_method_47_code 5 = .ok (.iload_n 1, 1) := by decide +kernel
theorem d_Math_floorDiv_6 : decode prog_14_method_47_code 6 = .ok (.ixor, 1) := by decide +kernel
theorem d_Math_floorDiv_7 : decode prog_14_method_47_code 7 = .ok (.ifCond .ge 14, 3) := by decide +kernel
theorem d_Math_floorDiv_10 : decode prog_14_method_47_code 10 = .ok (.iload_n 2, 1) := by decide +kernel
theorem d_Math_floorDiv_11 : decode prog_14_method_47_code 11 = .ok (.iload_n 1, 1) := by decide +kernel
theorem d_Math_floorDiv_12 : decode prog_14_method_47_code 12 = .ok (.imul, 1) := by decide +kernel
theorem d_Math_floorDiv_13 : decode prog_14_method_47_code 13 = .ok (.iload_n 0, 1) := by decide +kernel
theorem d_Math_floorDiv_14 : decode prog_14_method_47_code 14 = .ok (.if_icmp .eq 7, 3) := by decide +kernel
theorem d_Math_floorDiv_17 : decode prog_14_method_47_code 17 = .ok (.iload_n 2, 1) := by decide +kernel
theorem d_Math_floorDiv_18 : decode prog_14_method_47_code 18 = .ok (.iconst 1, 1) := by decide +kernel
theorem d_Math_floorDiv_19 : decode prog_14_method_47_code 19 = .ok (.isub, 1) := by decide +kernel
theorem d_Math_floorDiv_20 : decode prog_14_method_47_code 20 = .ok (.ireturn, 1) := by decide +kernel
theorem d_Math_floorDiv_21 : decode prog_14_method_47_code 21 = .ok (.iload_n 2, 1) := by decide +kernel
theorem d_Math_floorDiv_22 : decode prog_14_method_47_code 22 = .ok (.ireturn, 1) := by decide +kernel
def f_Parser_readStatement_126b (k126 : Int32 → St → Option (Int32 × St)) (x1 : Int32) (σ : St) : Option (Int32 × St) :=
  if 6 ≤ x1 then
    bd (f_Parser_tellWrong σ) fun r_2 σ_3 =>
    gd (isB r_2) <|
    some (r_2, σ_3)
  else
    gd (inB x1 6) <|
    bp (f_Reader_isWord (stV 5 x1) σ) fun r_7 =>
    if r_7 = 0 then
      lt ((x1 + 1)) fun x_8 =>
      k126 x_8 σ
    else
      bp (f_Reader_step σ) fun σ_10 =>
      bd (f_Parser_readSetting x1 σ_10) fun r_12 σ_13 =>
      gd (isB r_12) <|
      some (r_12, σ_13)
def f_Parser_readStatement_126 : Nat → Int32 → St → Option (Int32 × St)
  | 0 => fun _ _ => none
  | n + 1 => f_Parser_readStatement_126b   (f_Parser_readStatement_126   n)
def f_Parser_readStatement (σ : St) : Option (Int32 × St) :=
  bp (f_Reader_isWord 0 σ) fun r_2 =>
  if r_2 = 0 then
    bp (f_Reader_isWord 2 σ) fun r_4 =>
    if r_4 = 0 then
      bp (f_Reader_isWord 9 σ) fun r_6 =>
      if r_6 = 0 then
        bp (f_Reader_isWord 17 σ) fun r_8 =>
        if r_8 = 0 then
          f_Parser_readStatement_126 FU 0 σ
        else
          bp (f_Reader_step σ) fun σ_10 =>
          bd (f_Parser_readSetting 6 σ_10) fun r_12 σ_13 =>
          if r_12 = 0 then
            some (0, σ_13)
          else
            bd (f_Parser_readSetting 7 σ_13) fun r_15 σ_16 =>
            if r_15 = 0 then
              some (0, σ_16)
            else
              bd (f_Parser_readSetting 8 σ_16) fun r_18 σ_19 =>
              if r_18 = 0 then
                some (0, σ_19)
              else
                some (1, σ_19)
      else
        bd (f_Parser_beginRule σ) fun r_21 σ_22 =>
        if r_21 = 0 then
          some (0, σ_22)
        else
          bd (f_Parser_readTest (f_Parser_readFact 8) 0 σ_22) fun r_24 σ_25 =>
          if r_24 = 0 then
            some (0, σ_25)
          else
            bd (f_Parser_endRule σ_25) fun r_27 σ_28 =>
            if r_27 = 0 then
              some (0, σ_28)
            else
              some (1, σ_28)
    else
      bd (f_Parser_readTrier σ) fun r_30 σ_31 =>
      gd (isB r_30) <|
      some (r_30, σ_31)
  else
    bd (f_Parser_readMark σ) fun r_34 σ_35 =>
    gd (isB r_34) <|
    some (r_34, σ_35)
set_option maxHeartbeats 4000000 in
set_option maxRecDepth 20000 in
theorem t_Parser_readStatement_126b {r : Int32} {σ2 : St} (C : Cx g A p s m av meth c prog_5_method_9_code 2 "BellHammer$Parser" (some .boolean)) {k126 : Int32 → St → Option (Int32 × St)} (hk126 : ∀ (x1 : Int32) (σ : St) (H : Heap) (locs : List Loc) (ls : Array Slot), k126 x1 σ = some (r, σ2) → Wd g (wX g (qt q)) A s σ H locs → lv_has ls 2 [(0, .ref (qt q 3)), (1, .int x1)] → WK p l e s m av below meth c 79 g (wX g (qt q)) A (some (.int r)) σ2 H locs (F0 m 126 ls []))  {x1 : Int32} {σ : St} {H : Heap} {locs : List Loc} {ls : Array Slot} (hf : f_Parser_readStatement_126b  k126 x1 σ = some (r, σ2)) (w : Wd g (wX g (qt q)) A s σ H locs) (hl : lv_has ls 2 [(0, .ref (qt q 3)), (1, .int x1)]) : WK p l e s m av below meth c 79 g (wX g (qt q)) A (some (.int r)) σ2 H locs (F0 m 126 ls []) := by
  obtain ⟨hx, hb, hml, hown, hts, hK, hA, hZ, hlocks, hr, hN⟩ := id C
  unfold f_Parser_readStatement_126b at hf
  refine lv_iload_n hx hb d_Parser_readStatement_126 rfl (lv_at hl 1 rfl) ?_
  refine r_gets C w 5 rfl k706 d_Parser_readStatement_127 ?_
  refine r_slen C w 5 rfl (v := 6) rfl d_Parser_readStatement_130 ?_
  refine lv_icmp_ge (tgt := 168) hx hb d_Parser_readStatement_131 (by decide) (fun cd => ?_) (fun cd => ?_)
  · have hf := it_e cd hf
    refine lv_aload_n hx hb d_Parser_readStatement_168 rfl (lv_at hl 0 rfl) ?_
    obtain ⟨r_2, σ_3, h_1, hf⟩ := bd_e hf
    refine k_callV (As := []) (rest := []) C w (c_Parser_tellWrong (q := qt q) h_1) cv_Parser_tellWrong k616 (xr_3 C w) (by decide) hl.1 rfl (Nat.le_of_ble_eq_true rfl) d_Parser_readStatement_169 (fun H locs w => ?_)
    show WK p l e s m av below meth c 79 g (wX g (qt q)) A (some (.int r)) σ2 H locs (F0 m 172 ls [.int r_2])
    obtain ⟨g_4, hf⟩ := gd_e hf
    obtain ⟨rfl, rfl⟩ := some2_e hf
    exact k_zret C w g_4 d_Parser_readStatement_172
  · have hf := if_e cd hf
    refine lv_aload_n hx hb d_Parser_readStatement_134 rfl (lv_at hl 0 rfl) ?_
    refine xg_3_reader C w k313 d_Parser_readStatement_135 ?_
    refine r_gets C w 5 rfl k706 d_Parser_readStatement_138 ?_
    refine lv_iload_n hx hb d_Parser_readStatement_141 rfl (lv_at hl 1 rfl) ?_
    obtain ⟨g_5, hf⟩ := gd_e hf
    refine r_sld C w 5 rfl g_5 d_Parser_readStatement_142 ?_
    obtain ⟨r_7, h_6, hf⟩ := bp_e hf
    refine k_callV (As := [.int (stV 5 x1)]) (rest := []) C w (c_Reader_isWord (q := qt q) h_6) cv_Reader_isWord k598 (xr_4 C w) (by decide) hl.1 rfl (Nat.le_of_ble_eq_true rfl) d_Parser_readStatement_143 (fun H locs w => ?_)
    show WK p l e s m av below meth c 79 g (wX g (qt q)) A (some (.int r)) σ2 H locs (F0 m 146 ls [.int r_7])
    refine lv_if_eq (tgt := 162) hx hb d_Parser_readStatement_146 (by decide) (fun cd => ?_) (fun cd => ?_)
    · have hf := it_e cd hf
      obtain ⟨x_8, ex_8⟩ : ∃ y : Int32, y = (x1 + 1) := ⟨_, rfl⟩
      have hf := lt_e ex_8 hf
      refine lv_iinc (v := x_8) (lv' := [(1, .int x_8), (0, .ref (qt q 3))]) hx hb d_Parser_readStatement_162 hl (k := 1) rfl (by rw [ex_8]; rfl) (by decide) rfl (fun ls hl => ?_)
      refine lv_goto (tgt := 126) hx hb d_Parser_readStatement_165 (by decide) ?_
      exact hk126 x_8 σ _ _ _ hf w (lv_sub hl [1, 0] rfl)
    · have hf := if_e cd hf
      refine lv_aload_n hx hb d_Parser_readStatement_149 rfl (lv_at hl 0 rfl) ?_
      refine xg_3_reader C w k313 d_Parser_readStatement_150 ?_
      obtain ⟨σ_10, h_9, hf⟩ := bp_e hf
      refine k_callV (As := []) (rest := []) C w (c_Reader_step (q := q) h_9) cv_Reader_step k606 (xr_4 C w) (by decide) hl.1 rfl (Nat.le_of_ble_eq_true rfl) d_Parser_readStatement_153 (fun H locs w => ?_)
      show WK p l e s m av below meth c 79 g (wX g (qt q)) A (some (.int r)) σ2 H locs (F0 m 156 ls [])
      refine lv_aload_n hx hb d_Parser_readStatement_156 rfl (lv_at hl 0 rfl) ?_
      refine lv_iload_n hx hb d_Parser_readStatement_157 rfl (lv_at hl 1 rfl) ?_
      obtain ⟨r_12, σ_13, h_11, hf⟩ := bd_e hf
      refine k_callV (As := [.int x1]) (rest := []) C w (c_Parser_readSetting (q := q) h_11) cv_Parser_readSetting k698 (xr_3 C w) (by decide) hl.1 rfl (Nat.le_of_ble_eq_true rfl) d_Parser_readStatement_158 (fun H locs w => ?_)
      show WK p l e s m av below meth c 79 g (wX g (qt q)) A (some (.int r)) σ2 H locs (F0 m 161 ls [.int r_12])
      obtain ⟨g_14, hf⟩ := gd_e hf
      obtain ⟨rfl, rfl⟩ := some2_e hf
      exact k_zret C w g_14 d_Parser_readStatement_161
set_option maxHeartbeats 4000000 in
set_option maxRecDepth 20000 in
theorem t_Parser_readStatement_126 {r : Int32} {σ2 : St} (C : Cx g A p s m av meth c prog_5_method_9_code 2 "BellHammer$Parser" (some .boolean))  : ∀ (n : Nat) (x1 : Int32) (σ : St) (H : Heap) (locs : List Loc) (ls : Array Slot), f_Parser_readStatement_126   n x1 σ = some (r, σ2) → Wd g (wX g (qt q)) A s σ H locs → lv_has ls 2 [(0, .ref (qt q 3)), (1, .int x1)] → WK p l e s m av below meth c 79 g (wX g (qt q)) A (some (.int r)) σ2 H locs (F0 m 126 ls []) := by
  intro n
  induction n with
  | zero => intro x1 σ H locs ls hf; exact absurd hf (by intro z; cases z)
  | succ n ih => intro x1 σ H locs ls hf w hl; exact t_Parser_readStatement_126b C  ih hf w hl
set_option maxHeartbeats 4000000 in
set_option maxRecDepth 20000 in
theorem c_Parser_readStatement {l : Launch} {g : GX} {q : Nat → Nat}  {σ : St} {r : Int32} {σ2 : St} (hf : f_Parser_readStatement   σ = some (r, σ2)) : KK l y_Parser_readStatement prog_5_method_9_code 2 (some .boolean) 79 g (wX g (qt q)) σ [.ref (qt q 3)] (some (.int r)) (wX g (qt q)) σ2 := by
  refine KK_of (plainFor_of_name (by decide)) (Nat.le_of_ble_eq_true rfl) (fun p e s m below meth c A ls C w hl => ?_)
  have hl : lv_has ls 2 [(0, .ref (qt q 3))] := hl
  obtain ⟨hx, hb, hml, hown, hts, hK, hA, hZ, hlocks, hr, hN⟩ := id C
  unfold f_Parser_readStatement at hf
  refine lv_aload_n hx hb d_Parser_readStatement_0 rfl (lv_at hl 0 rfl) ?_
  refine xg_3_reader C w k313 d_Parser_readStatement_1 ?_
  refine lv_iconst (v := 0) hx hb d_Parser_readStatement_4 (by decide) ?_
  obtain ⟨r_2, h_1, hf⟩ := bp_e hf
  refine k_callV (As := [.int 0]) (rest := []) C w (c_Reader_isWord (q := qt q) h_1) cv_Reader_isWord k598 (xr_4 C w) (by decide) hl.1 rfl (Nat.le_of_ble_eq_true rfl) d_Parser_readStatement_5 (fun H locs w => ?_)
  show WK p l e s m _ below meth c 79 g (wX g (qt q)) A (some (.int r)) σ2 H locs (F0 m 8 ls [.int r_2])
  refine lv_if_eq (tgt := 16) hx hb d_Parser_readStatement_8 (by decide) (fun cd => ?_) (fun cd => ?_)
  · have hf := it_e cd hf
    refine lv_aload_n hx hb d_Parser_readStatement_16 rfl (lv_at hl 0 rfl) ?_
    refine xg_3_reader C w k313 d_Parser_readStatement_17 ?_
    refine lv_iconst (v := 2) hx hb d_Parser_readStatement_20 (by decide) ?_
    obtain ⟨r_4, h_3, hf⟩ := bp_e hf
    refine k_callV (As := [.int 2]) (rest := []) C w (c_Reader_isWord (q := qt q) h_3) cv_Reader_isWord k598 (xr_4 C w) (by decide) hl.1 rfl (Nat.le_of_ble_eq_true rfl) d_Parser_readStatement_21 (fun H locs w => ?_)
    show WK p l e s m _ below meth c 79 g (wX g (qt q)) A (some (.int r)) σ2 H locs (F0 m 24 ls [.int r_4])
    refine lv_if_eq (tgt := 32) hx hb d_Parser_readStatement_24 (by decide) (fun cd => ?_) (fun cd => ?_)
    · have hf := it_e cd hf
      refine lv_aload_n hx hb d_Parser_readStatement_32 rfl (lv_at hl 0 rfl) ?_
      refine xg_3_reader C w k313 d_Parser_readStatement_33 ?_
      refine lv_bipush (v := 9) hx hb d_Parser_readStatement_36 (by decide) ?_
      obtain ⟨r_6, h_5, hf⟩ := bp_e hf
      refine k_callV (As := [.int 9]) (rest := []) C w (c_Reader_isWord (q := qt q) h_5) cv_Reader_isWord k598 (xr_4 C w) (by decide) hl.1 rfl (Nat.le_of_ble_eq_true rfl) d_Parser_readStatement_38 (fun H locs w => ?_)
      show WK p l e s m _ below meth c 79 g (wX g (qt q)) A (some (.int r)) σ2 H locs (F0 m 41 ls [.int r_6])
      refine lv_if_eq (tgt := 72) hx hb d_Parser_readStatement_41 (by decide) (fun cd => ?_) (fun cd => ?_)
      · have hf := it_e cd hf
        refine lv_aload_n hx hb d_Parser_readStatement_72 rfl (lv_at hl 0 rfl) ?_
        refine xg_3_reader C w k313 d_Parser_readStatement_73 ?_
        refine lv_bipush (v := 17) hx hb d_Parser_readStatement_76 (by decide) ?_
        obtain ⟨r_8, h_7, hf⟩ := bp_e hf
        refine k_callV (As := [.int 17]) (rest := []) C w (c_Reader_isWord (q := qt q) h_7) cv_Reader_isWord k598 (xr_4 C w) (by decide) hl.1 rfl (Nat.le_of_ble_eq_true rfl) d_Parser_readStatement_78 (fun H locs w => ?_)
        show WK p l e s m _ below meth c 79 g (wX g (qt q)) A (some (.int r)) σ2 H locs (F0 m 81 ls [.int r_8])
        refine lv_if_eq (tgt := 124) hx hb d_Parser_readStatement_81 (by decide) (fun cd => ?_) (fun cd => ?_)
        · have hf := it_e cd hf
          refine lv_iconst (v := 0) hx hb d_Parser_readStatement_124 (by decide) ?_
          refine lv_istore_n (lv' := [(1, .int 0), (0, .ref (qt q 3))]) hx hb d_Parser_readStatement_125 rfl hl (by decide) rfl (fun ls hl => ?_)
          exact t_Parser_readStatement_126 C  FU 0 σ _ _ _ hf w (lv_sub hl [1, 0] rfl)
        · have hf := if_e cd hf
          refine lv_aload_n hx hb d_Parser_readStatement_84 rfl (lv_at hl 0 rfl) ?_
          refine xg_3_reader C w k313 d_Parser_readStatement_85 ?_
          obtain ⟨σ_10, h_9, hf⟩ := bp_e hf
          refine k_callV (As := []) (rest := []) C w (c_Reader_step (q := q) h_9) cv_Reader_step k606 (xr_4 C w) (by decide) hl.1 rfl (Nat.le_of_ble_eq_true rfl) d_Parser_readStatement_88 (fun H locs w => ?_)
          show WK p l e s m _ below meth c 79 g (wX g (qt q)) A (some (.int r)) σ2 H locs (F0 m 91 ls [])
          refine lv_aload_n hx hb d_Parser_readStatement_91 rfl (lv_at hl 0 rfl) ?_
          refine lv_bipush (v := 6) hx hb d_Parser_readStatement_92 (by decide) ?_
          obtain ⟨r_12, σ_13, h_11, hf⟩ := bd_e hf
          refine k_callV (As := [.int 6]) (rest := []) C w (c_Parser_readSetting (q := q) h_11) cv_Parser_readSetting k698 (xr_3 C w) (by decide) hl.1 rfl (Nat.le_of_ble_eq_true rfl) d_Parser_readStatement_94 (fun H locs w => ?_)
          show WK p l e s m _ below meth c 79 g (wX g (qt q)) A (some (.int r)) σ2 H locs (F0 m 97 ls [.int r_12])
          refine lv_if_eq (tgt := 122) hx hb d_Parser_readStatement_97 (by decide) (fun cd => ?_) (fun cd => ?_)
          · have hf := it_e cd hf
            refine lv_iconst (v := 0) hx hb d_Parser_readStatement_122 (by decide) ?_
            obtain ⟨rfl, rfl⟩ := some2_e hf
            exact k_zret C w (by decide) d_Parser_readStatement_123
          · have hf := if_e cd hf
            refine lv_aload_n hx hb d_Parser_readStatement_100 rfl (lv_at hl 0 rfl) ?_
            refine lv_bipush (v := 7) hx hb d_Parser_readStatement_101 (by decide) ?_
            obtain ⟨r_15, σ_16, h_14, hf⟩ := bd_e hf
            refine k_callV (As := [.int 7]) (rest := []) C w (c_Parser_readSetting (q := q) h_14) cv_Parser_readSetting k698 (xr_3 C w) (by decide) hl.1 rfl (Nat.le_of_ble_eq_true rfl) d_Parser_readStatement_103 (fun H locs w => ?_)
            show WK p l e s m _ below meth c 79 g (wX g (qt q)) A (some (.int r)) σ2 H locs (F0 m 106 ls [.int r_15])
            refine lv_if_eq (tgt := 122) hx hb d_Parser_readStatement_106 (by decide) (fun cd => ?_) (fun cd => ?_)
            · have hf := it_e cd hf
              refine lv_iconst (v := 0) hx hb d_Parser_readStatement_122 (by decide) ?_
              obtain ⟨rfl, rfl⟩ := some2_e hf
              exact k_zret C w (by decide) d_Parser_readStatement_123
            · have hf := if_e cd hf
              refine lv_aload_n hx hb d_Parser_readStatement_109 rfl (lv_at hl 0 rfl) ?_
              refine lv_bipush (v := 8) hx hb d_Parser_readStatement_110 (by decide) ?_
              obtain ⟨r_18, σ_19, h_17, hf⟩ := bd_e hf
              refine k_callV (As := [.int 8]) (rest := []) C w (c_Parser_readSetting (q := q) h_17) cv_Parser_readSetting k698 (xr_3 C w) (by decide) hl.1 rfl (Nat.le_of_ble_eq_true rfl) d_Parser_readStatement_112 (fun H locs w => ?_)
              show WK p l e s m _ below meth c 79 g (wX g (qt q)) A (some (.int r)) σ2 H locs (F0 m 115 ls [.int r_18])
              refine lv_if_eq (tgt := 122) hx hb d_Parser_readStatement_115 (by decide) (fun cd => ?_) (fun cd => ?_)
              · have hf := it_e cd hf
                refine lv_iconst (v := 0) hx hb d_Parser_readStatement_122 (by decide) ?_
                obtain ⟨rfl, rfl⟩ := some2_e hf
                exact k_zret C w (by decide) d_Parser_readStatement_123
              · have hf := if_e cd hf
                refine lv_iconst (v := 1) hx hb d_Parser_readStatement_118 (by decide) ?_
                refine lv_goto (tgt := 123) hx hb d_Parser_readStatement_119 (by decide) ?_
                obtain ⟨rfl, rfl⟩ := some2_e hf
                exact k_zret C w (by decide) d_Parser_readStatement_123
      · have hf := if_e cd hf
        refine lv_aload_n hx hb d_Parser_readStatement_44 rfl (lv_at hl 0 rfl) ?_
        obtain ⟨r_21, σ_22, h_20, hf⟩ := bd_e hf
        refine k_callV (As := []) (rest := []) C w (c_Parser_beginRule (q := q) h_20) cv_Parser_beginRule k640 (xr_3 C w) (by decide) hl.1 rfl (Nat.le_of_ble_eq_true rfl) d_Parser_readStatement_45 (fun H locs w => ?_)
        show WK p l e s m _ below meth c 79 g (wX g (qt q)) A (some (.int r)) σ2 H locs (F0 m 48 ls [.int r_21])
        refine lv_if_eq (tgt := 70) hx hb d_Parser_readStatement_48 (by decide) (fun cd => ?_) (fun cd => ?_)
        · have hf := it_e cd hf
          refine lv_iconst (v := 0) hx hb d_Parser_readStatement_70 (by decide) ?_
          obtain ⟨rfl, rfl⟩ := some2_e hf
          exact k_zret C w (by decide) d_Parser_readStatement_71
        · have hf := if_e cd hf
          refine lv_aload_n hx hb d_Parser_readStatement_51 rfl (lv_at hl 0 rfl) ?_
          refine lv_iconst (v := 0) hx hb d_Parser_readStatement_52 (by decide) ?_
          obtain ⟨r_24, σ_25, h_23, hf⟩ := bd_e hf
          refine k_callV (As := [.int 0]) (rest := []) C w (c_Parser_readTest (q := q) (nk := 44 + 4 * 8) (by decide) (c_Parser_readFact 8) h_23) cv_Parser_readTest k644 (xr_3 C w) (by decide) hl.1 rfl (Nat.le_of_ble_eq_true rfl) d_Parser_readStatement_53 (fun H locs w => ?_)
          show WK p l e s m _ below meth c 79 g (wX g (qt q)) A (some (.int r)) σ2 H locs (F0 m 56 ls [.int r_24])
          refine lv_if_eq (tgt := 70) hx hb d_Parser_readStatement_56 (by decide) (fun cd => ?_) (fun cd => ?_)
          · have hf := it_e cd hf
            refine lv_iconst (v := 0) hx hb d_Parser_readStatement_70 (by decide) ?_
            obtain ⟨rfl, rfl⟩ := some2_e hf
            exact k_zret C w (by decide) d_Parser_readStatement_71
          · have hf := if_e cd hf
            refine lv_aload_n hx hb d_Parser_readStatement_59 rfl (lv_at hl 0 rfl) ?_
            obtain ⟨r_27, σ_28, h_26, hf⟩ := bd_e hf
            refine k_callV (As := []) (rest := []) C w (c_Parser_endRule (q := qt q) h_26) cv_Parser_endRule k694 (xr_3 C w) (by decide) hl.1 rfl (Nat.le_of_ble_eq_true rfl) d_Parser_readStatement_60 (fun H locs w => ?_)
            show WK p l e s m _ below meth c 79 g (wX g (qt q)) A (some (.int r)) σ2 H locs (F0 m 63 ls [.int r_27])
            refine lv_if_eq (tgt := 70) hx hb d_Parser_readStatement_63 (by decide) (fun cd => ?_) (fun cd => ?_)
            · have hf := it_e cd hf
              refine lv_iconst (v := 0) hx hb d_Parser_readStatement_70 (by decide) ?_
              obtain ⟨rfl, rfl⟩ := some2_e hf
              exact k_zret C w (by decide) d_Parser_readStatement_71
            · have hf := if_e cd hf
              refine lv_iconst (v := 1) hx hb d_Parser_readStatement_66 (by decide) ?_
              refine lv_goto (tgt := 71) hx hb d_Parser_readStatement_67 (by decide) ?_
              obtain ⟨rfl, rfl⟩ := some2_e hf
              exact k_zret C w (by decide) d_Parser_readStatement_71
    · have hf := if_e cd hf
      refine lv_aload_n hx hb d_Parser_readStatement_27 rfl (lv_at hl 0 rfl) ?_
      obtain ⟨r_30, σ_31, h_29, hf⟩ := bd_e hf
      refine k_callV (As := []) (rest := []) C w (c_Parser_readTrier (q := q) h_29) cv_Parser_readTrier k632 (xr_3 C w) (by decide) hl.1 rfl (Nat.le_of_ble_eq_true rfl) d_Parser_readStatement_28 (fun H locs w => ?_)
      show WK p l e s m _ below meth c 79 g (wX g (qt q)) A (some (.int r)) σ2 H locs (F0 m 31 ls [.int r_30])
      obtain ⟨g_32, hf⟩ := gd_e hf
      obtain ⟨rfl, rfl⟩ := some2_e hf
      exact k_zret C w g_32 d_Parser_readStatement_31
  · have hf := if_e cd hf
    refine lv_aload_n hx hb d_Parser_readStatement_11 rfl (lv_at hl 0 rfl) ?_
    obtain ⟨r_34, σ_35, h_33, hf⟩ := bd_e hf
    refine k_callV (As := []) (rest := []) C w (c_Parser_readMark (q := q) h_33) cv_Parser_readMark k602 (xr_3 C w) (by decide) hl.1 rfl (Nat.le_of_ble_eq_true rfl) d_Parser_readStatement_12 (fun H locs w => ?_)
    show WK p l e s m _ below meth c 79 g (wX g (qt q)) A (some (.int r)) σ2 H locs (F0 m 15 ls [.int r_34])
    obtain ⟨g_36, hf⟩ := gd_e hf
    obtain ⟨rfl, rfl⟩ := some2_e hf
    exact k_zret C w g_36 d_Parser_readStatement_15
def f_Parser_parse_28b (k28 : Int32 → St → Option (Int32 × St)) (x3 : Int32) (σ : St) : Option (Int32 × St) :=
  if 70 < x3 then
    some (0, σ)
  else
    if (sI σ 8) = 0 then
      lt (uI σ 16 x3) fun σ_12 =>
      some (1, σ_12)
    else
      if x3 = 70 then
        bd (f_Parser_tell 5 (sI σ 9) σ) fun r_9 σ_10 =>
        gd (isB r_9) <|
        some (r_9, σ_10)
      else
        bd (f_Parser_readStatement σ) fun r_2 σ_3 =>
        if r_2 = 0 then
          some (0, σ_3)
        else
          bd (f_Parser_passSign 59 σ_3) fun r_5 σ_6 =>
          if r_5 = 0 then
            some (0, σ_6)
          else
            lt ((x3 + 1)) fun x_7 =>
            k28 x_7 σ_6
def f_Parser_parse_28 : Nat → Int32 → St → Option (Int32 × St)
  | 0 => fun _ _ => none
  | n + 1 => f_Parser_parse_28b   (f_Parser_parse_28   n)
def f_Parser_parse (x2 : Int32) (σ : St) : Option (Int32 × St) :=
  lt (uI σ 4 0) fun σ_1 =>
  lt (uI σ_1 5 (-1)) fun σ_2 =>
  bp (f_Fair_forget σ_2) fun σ_4 =>
  bp (f_Reader_begin x2 σ_4) fun σ_6 =>
  f_Parser_parse_28 FU 0 σ_6
set_option maxHeartbeats 4000000 in
set_option maxRecDepth 20000 in
theorem t_Parser_parse_28b {r : Int32} {σ2 : St} (C : Cx g A p s m av meth c prog_5_method_2_code 4 "BellHammer$Parser" (some .boolean)) {k28 : Int32 → St → Option (Int32 × St)} (hk28 : ∀ (x3 : Int32) (σ : St) (H : Heap) (locs : List Loc) (ls : Array Slot), k28 x3 σ = some (r, σ2) → Wd g (wX g (qt q)) A s σ H locs → lv_has ls 4 [(0, .ref (qt q 3)), (3, .int x3)] → WK p l e s m av below meth c 80 g (wX g (qt q)) A (some (.int r)) σ2 H locs (F0 m 28 ls []))  {x3 : Int32} {σ : St} {H : Heap} {locs : List Loc} {ls : Array Slot} (hf : f_Parser_parse_28b  k28 x3 σ = some (r, σ2)) (w : Wd g (wX g (qt q)) A s σ H locs) (hl : lv_has ls 4 [(0, .ref (qt q 3)), (3, .int x3)]) : WK p l e s m av below meth c 80 g (wX g (qt q)) A (some (.int r)) σ2 H locs (F0 m 28 ls []) := by
  obtain ⟨hx, hb, hml, hown, hts, hK, hA, hZ, hlocks, hr, hN⟩ := id C
  unfold f_Parser_parse_28b at hf
  refine lv_iload_n hx hb d_Parser_parse_28 rfl (lv_at hl 1 rfl) ?_
  refine lv_bipush (v := 70) hx hb d_Parser_parse_29 (by decide) ?_
  refine lv_icmp_gt (tgt := 97) hx hb d_Parser_parse_31 (by decide) (fun cd => ?_) (fun cd => ?_)
  · have hf := it_e cd hf
    refine lv_iconst (v := 0) hx hb d_Parser_parse_97 (by decide) ?_
    obtain ⟨rfl, rfl⟩ := some2_e hf
    exact k_zret C w (by decide) d_Parser_parse_98
  · have hf := if_e cd hf
    refine lv_aload_n hx hb d_Parser_parse_34 rfl (lv_at hl 0 rfl) ?_
    refine xg_3_reader C w k313 d_Parser_parse_35 ?_
    refine xg_4_kind C w k209 d_Parser_parse_38 ?_
    refine lv_if_ne (tgt := 54) hx hb d_Parser_parse_41 (by decide) (fun cd => ?_) (fun cd => ?_)
    · have hf := if_e cd hf
      refine lv_iload_n hx hb d_Parser_parse_54 rfl (lv_at hl 1 rfl) ?_
      refine lv_bipush (v := 70) hx hb d_Parser_parse_55 (by decide) ?_
      refine lv_icmp_ne (tgt := 73) hx hb d_Parser_parse_57 (by decide) (fun cd => ?_) (fun cd => ?_)
      · have hf := if_e cd hf
        refine lv_aload_n hx hb d_Parser_parse_73 rfl (lv_at hl 0 rfl) ?_
        obtain ⟨r_2, σ_3, h_1, hf⟩ := bd_e hf
        refine k_callV (As := []) (rest := []) C w (c_Parser_readStatement (q := q) h_1) cv_Parser_readStatement k594 (xr_3 C w) (by decide) hl.1 rfl (Nat.le_of_ble_eq_true rfl) d_Parser_parse_74 (fun H locs w => ?_)
        show WK p l e s m av below meth c 80 g (wX g (qt q)) A (some (.int r)) σ2 H locs (F0 m 77 ls [.int r_2])
        refine lv_if_eq (tgt := 89) hx hb d_Parser_parse_77 (by decide) (fun cd => ?_) (fun cd => ?_)
        · have hf := it_e cd hf
          refine lv_iconst (v := 0) hx hb d_Parser_parse_89 (by decide) ?_
          obtain ⟨rfl, rfl⟩ := some2_e hf
          exact k_zret C w (by decide) d_Parser_parse_90
        · have hf := if_e cd hf
          refine lv_aload_n hx hb d_Parser_parse_80 rfl (lv_at hl 0 rfl) ?_
          refine lv_bipush (v := 59) hx hb d_Parser_parse_81 (by decide) ?_
          obtain ⟨r_5, σ_6, h_4, hf⟩ := bd_e hf
          refine k_callV (As := [.int 59]) (rest := []) C w (c_Parser_passSign (q := q) h_4) cv_Parser_passSign k668 (xr_3 C w) (by decide) hl.1 rfl (Nat.le_of_ble_eq_true rfl) d_Parser_parse_83 (fun H locs w => ?_)
          show WK p l e s m av below meth c 80 g (wX g (qt q)) A (some (.int r)) σ2 H locs (F0 m 86 ls [.int r_5])
          refine lv_if_ne (tgt := 91) hx hb d_Parser_parse_86 (by decide) (fun cd => ?_) (fun cd => ?_)
          · have hf := if_e cd hf
            obtain ⟨x_7, ex_7⟩ : ∃ y : Int32, y = (x3 + 1) := ⟨_, rfl⟩
            have hf := lt_e ex_7 hf
            refine lv_iinc (v := x_7) (lv' := [(3, .int x_7), (0, .ref (qt q 3))]) hx hb d_Parser_parse_91 hl (k := 1) rfl (by rw [ex_7]; rfl) (by decide) rfl (fun ls hl => ?_)
            refine lv_goto (tgt := 28) hx hb d_Parser_parse_94 (by decide) ?_
            exact hk28 x_7 σ_6 _ _ _ hf w (lv_sub hl [1, 0] rfl)
          · have hf := it_e cd hf
            refine lv_iconst (v := 0) hx hb d_Parser_parse_89 (by decide) ?_
            obtain ⟨rfl, rfl⟩ := some2_e hf
            exact k_zret C w (by decide) d_Parser_parse_90
      · have hf := it_e cd hf
        refine lv_aload_n hx hb d_Parser_parse_60 rfl (lv_at hl 0 rfl) ?_
        refine lv_iconst (v := 5) hx hb d_Parser_parse_61 (by decide) ?_
        refine lv_aload_n hx hb d_Parser_parse_62 rfl (lv_at hl 0 rfl) ?_
        refine xg_3_reader C w k313 d_Parser_parse_63 ?_
        refine xg_4_start C w k210 d_Parser_parse_66 ?_
        obtain ⟨r_9, σ_10, h_8, hf⟩ := bd_e hf
        refine k_callV (As := [.int 5, .int (sI σ 9)]) (rest := []) C w (c_Parser_tell (q := qt q) h_8) cv_Parser_tell k590 (xr_3 C w) (by decide) hl.1 rfl (Nat.le_of_ble_eq_true rfl) d_Parser_parse_69 (fun H locs w => ?_)
        show WK p l e s m av below meth c 80 g (wX g (qt q)) A (some (.int r)) σ2 H locs (F0 m 72 ls [.int r_9])
        obtain ⟨g_11, hf⟩ := gd_e hf
        obtain ⟨rfl, rfl⟩ := some2_e hf
        exact k_zret C w g_11 d_Parser_parse_72
    · have hf := it_e cd hf
      refine lv_aload_n hx hb d_Parser_parse_44 rfl (lv_at hl 0 rfl) ?_
      refine xg_3_draft C w k314 d_Parser_parse_45 ?_
      refine lv_iload_n hx hb d_Parser_parse_48 rfl (lv_at hl 1 rfl) ?_
      refine xp_6_statements C w k286 d_Parser_parse_49 (fun σ_12 H locs eσ_12 w => ?_)
      have hf := lt_e eσ_12 hf
      refine lv_iconst (v := 1) hx hb d_Parser_parse_52 (by decide) ?_
      obtain ⟨rfl, rfl⟩ := some2_e hf
      exact k_zret C w (by decide) d_Parser_parse_53
set_option maxHeartbeats 4000000 in
set_option maxRecDepth 20000 in
theorem t_Parser_parse_28 {r : Int32} {σ2 : St} (C : Cx g A p s m av meth c prog_5_method_2_code 4 "BellHammer$Parser" (some .boolean))  : ∀ (n : Nat) (x3 : Int32) (σ : St) (H : Heap) (locs : List Loc) (ls : Array Slot), f_Parser_parse_28   n x3 σ = some (r, σ2) → Wd g (wX g (qt q)) A s σ H locs → lv_has ls 4 [(0, .ref (qt q 3)), (3, .int x3)] → WK p l e s m av below meth c 80 g (wX g (qt q)) A (some (.int r)) σ2 H locs (F0 m 28 ls []) := by
  intro n
  induction n with
  | zero => intro x3 σ H locs ls hf; exact absurd hf (by intro z; cases z)
  | succ n ih => intro x3 σ H locs ls hf w hl; exact t_Parser_parse_28b C  ih hf w hl
set_option maxHeartbeats 4000000 in
set_option maxRecDepth 20000 in
theorem c_Parser_parse {l : Launch} {g : GX} {q : Nat → Nat} {x2 : Int32}  {σ : St} {r : Int32} {σ2 : St} (hf : f_Parser_parse  x2 σ = some (r, σ2)) : KK l y_Parser_parse prog_5_method_2_code 4 (some .boolean) 80 g (wX g q) σ [.ref (q 3), .ref (q 2), .int x2] (some (.int r)) (wX g (qt q)) σ2 := by
  refine KK_of (plainFor_of_name (by decide)) (Nat.le_of_ble_eq_true rfl) (fun p e s m below meth c A ls C w hl => ?_)
  have hl : lv_has ls 4 [(0, .ref (q 3)), (1, .ref (q 2)), (2, .int x2)] := hl
  obtain ⟨hx, hb, hml, hown, hts, hK, hA, hZ, hlocks, hr, hN⟩ := id C
  unfold f_Parser_parse at hf
  refine lv_aload_n hx hb d_Parser_parse_0 rfl (lv_at hl 0 rfl) ?_
  refine lv_iconst (v := 0) hx hb d_Parser_parse_1 (by decide) ?_
  refine xp_3_fault C w k316 d_Parser_parse_2 (fun σ_1 H locs eσ_1 w => ?_)
  have hf := lt_e eσ_1 hf
  refine lv_aload_n hx hb d_Parser_parse_5 rfl (lv_at hl 0 rfl) ?_
  refine lv_iconst (v := (-1)) hx hb d_Parser_parse_6 (by decide) ?_
  refine xp_3_place C w k318 d_Parser_parse_7 (fun σ_2 H locs eσ_2 w => ?_)
  have hf := lt_e eσ_2 hf
  refine lv_aload_n hx hb d_Parser_parse_10 rfl (lv_at hl 0 rfl) ?_
  refine xg_3_draft C w k314 d_Parser_parse_11 ?_
  obtain ⟨σ_4, h_3, hf⟩ := bp_e hf
  refine k_callV (As := []) (rest := []) C w (c_Fair_forget (q := q) h_3) cv_Fair_forget k567 (xr_6 C w) (by decide) hl.1 rfl (Nat.le_of_ble_eq_true rfl) d_Parser_parse_14 (fun H locs w => ?_)
  show WK p l e s m _ below meth c 80 g (wX g (qt q)) A (some (.int r)) σ2 H locs (F0 m 17 ls [])
  refine lv_aload_n hx hb d_Parser_parse_17 rfl (lv_at hl 0 rfl) ?_
  refine xg_3_reader C w k313 d_Parser_parse_18 ?_
  refine lv_aload_n hx hb d_Parser_parse_21 rfl (lv_at hl 1 rfl) ?_
  refine lv_iload_n hx hb d_Parser_parse_22 rfl (lv_at hl 2 rfl) ?_
  obtain ⟨σ_6, h_5, hf⟩ := bp_e hf
  refine k_callV (As := [.ref (q 2), .int x2]) (rest := []) C w (c_Reader_begin (q := q) h_5) cv_Reader_begin k568 (xr_4 C w) (by decide) hl.1 rfl (Nat.le_of_ble_eq_true rfl) d_Parser_parse_23 (fun H locs w => ?_)
  have hl : lv_has ls 4 [(0, .ref (qt q 3)), (1, .ref (qt q 2)), (2, .int x2)] := hl
  show WK p l e s m _ below meth c 80 g (wX g (qt q)) A (some (.int r)) σ2 H locs (F0 m 26 ls [])
  refine lv_iconst (v := 0) hx hb d_Parser_parse_26 (by decide) ?_
  refine lv_istore_n (lv' := [(3, .int 0), (0, .ref (qt q 3)), (1, .ref (qt q 2)), (2, .int x2)]) hx hb d_Parser_parse_27 rfl hl (by decide) rfl (fun ls hl => ?_)
  exact t_Parser_parse_28 C  FU 0 σ_6 _ _ _ hf w (lv_sub hl [1, 0] rfl)
def f_Book_open (σ : St) : Option (St) :=
  lt (uI σ 17 0) fun σ_1 =>
  lt (uI σ_1 18 0) fun σ_2 =>
  lt (uI σ_2 19 ((1 <<< ((sI σ_2 55) &&& 31)) - 1)) fun σ_3 =>
  lt (uA σ_3 9 (va_cpy (sA σ_3 25) (sA σ_3 9) (0 : Int32).toNatClampNeg (0 : Int32).toNatClampNeg (3 : Int32).toNatClampNeg)) fun σ_4 =>
  lt (uI σ_4 23 0) fun σ_5 =>
  lt (uI σ_5 24 0) fun σ_6 =>
  some σ_6
set_option maxHeartbeats 4000000 in
set_option maxRecDepth 20000 in
theorem c_Book_open {l : Launch} {g : GX} {q : Nat → Nat}  {σ : St} {σ2 : St} (hf : f_Book_open   σ = some σ2) : KK l y_Book_open prog_2_method_2_code 2 none 1 g (wX g q) σ [.ref (q 14), .ref (q 34)] none (wX g q) σ2 := by
  refine KK_of (plainFor_of_name (by decide)) (Nat.le_of_ble_eq_true rfl) (fun p e s m below meth c A ls C w hl => ?_)
  have hl : lv_has ls 2 [(0, .ref (q 14)), (1, .ref (q 34))] := hl
  obtain ⟨hx, hb, hml, hown, hts, hK, hA, hZ, hlocks, hr, hN⟩ := id C
  unfold f_Book_open at hf
  refine lv_aload_n hx hb d_Book_open_0 rfl (lv_at hl 0 rfl) ?_
  refine lv_iconst (v := 0) hx hb d_Book_open_1 (by decide) ?_
  refine xp_14_nights C w k337 d_Book_open_2 (fun σ_1 H locs eσ_1 w => ?_)
  have hf := lt_e eσ_1 hf
  refine lv_aload_n hx hb d_Book_open_5 rfl (lv_at hl 0 rfl) ?_
  refine lv_iconst (v := 0) hx hb d_Book_open_6 (by decide) ?_
  refine xp_14_takings C w k339 d_Book_open_7 (fun σ_2 H locs eσ_2 w => ?_)
  have hf := lt_e eσ_2 hf
  refine lv_aload_n hx hb d_Book_open_10 rfl (lv_at hl 0 rfl) ?_
  refine lv_iconst (v := 1) hx hb d_Book_open_11 (by decide) ?_
  refine lv_aload_n hx hb d_Book_open_12 rfl (lv_at hl 1 rfl) ?_
  refine xg_34_rules C w k279 d_Book_open_13 ?_
  refine lv_ishl hx hb d_Book_open_16 ?_
  refine lv_iconst (v := 1) hx hb d_Book_open_17 (by decide) ?_
  refine lv_isub hx hb d_Book_open_18 ?_
  refine xp_14_inForce C w k341 d_Book_open_19 (fun σ_3 H locs eσ_3 w => ?_)
  have hf := lt_e eσ_3 hf
  refine lv_aload_n hx hb d_Book_open_22 rfl (lv_at hl 1 rfl) ?_
  refine xg_34_settings C w k261 d_Book_open_23 ?_
  refine lv_iconst (v := 0) hx hb d_Book_open_26 (by decide) ?_
  refine lv_aload_n hx hb d_Book_open_27 rfl (lv_at hl 0 rfl) ?_
  refine xg_14_now C w k343 d_Book_open_28 ?_
  refine lv_iconst (v := 0) hx hb d_Book_open_31 (by decide) ?_
  refine lv_iconst (v := 3) hx hb d_Book_open_32 (by decide) ?_
  refine xc_39_15 C w hl.1 (by omega) (Nat.le_of_ble_eq_true rfl) (by decide) (by decide) (by decide) (by decide) (by decide) k336 d_Book_open_33 (fun σ_4 H locs eσ_4 w => ?_)
  have hf := lt_e eσ_4 hf
  refine lv_aload_n hx hb d_Book_open_36 rfl (lv_at hl 0 rfl) ?_
  refine lv_iconst (v := 0) hx hb d_Book_open_37 (by decide) ?_
  refine xp_14_acts C w k351 d_Book_open_38 (fun σ_5 H locs eσ_5 w => ?_)
  have hf := lt_e eσ_5 hf
  refine lv_aload_n hx hb d_Book_open_41 rfl (lv_at hl 0 rfl) ?_
  refine lv_iconst (v := 0) hx hb d_Book_open_42 (by decide) ?_
  refine xp_14_keptBlows C w k357 d_Book_open_43 (fun σ_6 H locs eσ_6 w => ?_)
  have hf := lt_e eσ_6 hf
  cases some_e hf
  exact k_vret C w d_Book_open_46
def f_BH_fault (x1 : Int32) (σ : St) : Option (Int32) :=
  if x1 = 0 then
    some (sI σ 4)
  else
    if x1 = 1 then
      some (sI σ 5)
    else
      some (-1)
set_option maxHeartbeats 4000000 in
set_option maxRecDepth 20000 in
theorem c_BH_fault {l : Launch} {g : GX} {q : Nat → Nat} {x1 : Int32}  {σ : St} {r : Int32} (hf : f_BH_fault  x1 σ = some r) : KK l y_BH_fault prog_1_method_5_code 2 (some .int) 0 g (wX g q) σ [.ref (q 0), .int x1] (some (.int r)) (wX g q) σ := by
  refine KK_of (plainFor_of_name (by decide)) (Nat.le_of_ble_eq_true rfl) (fun p e s m below meth c A ls C w hl => ?_)
  have hl : lv_has ls 2 [(0, .ref (q 0)), (1, .int x1)] := hl
  obtain ⟨hx, hb, hml, hown, hts, hK, hA, hZ, hlocks, hr, hN⟩ := id C
  unfold f_BH_fault at hf
  refine lv_iload_n hx hb d_BH_fault_0 rfl (lv_at hl 1 rfl) ?_
  refine lv_if_ne (tgt := 12) hx hb d_BH_fault_1 (by decide) (fun cd => ?_) (fun cd => ?_)
  · have hf := if_e cd hf
    refine lv_iload_n hx hb d_BH_fault_12 rfl (lv_at hl 1 rfl) ?_
    refine lv_iconst (v := 1) hx hb d_BH_fault_13 (by decide) ?_
    refine lv_icmp_ne (tgt := 27) hx hb d_BH_fault_14 (by decide) (fun cd => ?_) (fun cd => ?_)
    · have hf := if_e cd hf
      refine lv_iconst (v := (-1)) hx hb d_BH_fault_27 (by decide) ?_
      cases some_e hf
      exact k_iret C w d_BH_fault_28
    · have hf := it_e cd hf
      refine lv_aload_n hx hb d_BH_fault_17 rfl (lv_at hl 0 rfl) ?_
      refine xg_0_parser C w k508 d_BH_fault_18 ?_
      refine xg_3_place C w k319 d_BH_fault_21 ?_
      refine lv_goto (tgt := 28) hx hb d_BH_fault_24 (by decide) ?_
      cases some_e hf
      exact k_iret C w d_BH_fault_28
  · have hf := it_e cd hf
    refine lv_aload_n hx hb d_BH_fault_4 rfl (lv_at hl 0 rfl) ?_
    refine xg_0_parser C w k508 d_BH_fault_5 ?_
    refine xg_3_fault C w k317 d_BH_fault_8 ?_
    cases some_e hf
    exact k_iret C w d_BH_fault_11
def f_Book_toldBlows (σ : St) : Option (Int32) :=
  some (iMin 60 (sI σ 24))
set_option maxHeartbeats 4000000 in
set_option maxRecDepth 20000 in
theorem c_Book_toldBlows {l : Launch} {g : GX} {q : Nat → Nat}  {σ : St} {r : Int32} (hf : f_Book_toldBlows   σ = some r) : KK l y_Book_toldBlows prog_2_method_10_code 1 (some .int) 1 g (wX g q) σ [.ref (q 14)] (some (.int r)) (wX g q) σ := by
  refine KK_of (plainFor_of_name (by decide)) (Nat.le_of_ble_eq_true rfl) (fun p e s m below meth c A ls C w hl => ?_)
  have hl : lv_has ls 1 [(0, .ref (q 14))] := hl
  obtain ⟨hx, hb, hml, hown, hts, hK, hA, hZ, hlocks, hr, hN⟩ := id C
  unfold f_Book_toldBlows at hf
  refine lv_bipush (v := 60) hx hb d_Book_toldBlows_0 (by decide) ?_
  refine lv_aload_n hx hb d_Book_toldBlows_2 rfl (lv_at hl 0 rfl) ?_
  refine xg_14_keptBlows C w k357 d_Book_toldBlows_3 ?_
  refine r_min C hl.1 (by omega) (Nat.le_of_ble_eq_true rfl) k724 d_Book_toldBlows_6 ?_
  cases some_e hf
  exact k_iret C w d_Book_toldBlows_9
def f_BH_has (x1 : Int32) (σ : St) : Option (Int32) :=
  if x1 = 0 then
    some (sI σ 53)
  else
    if x1 = 1 then
      some (sI σ 54)
    else
      if x1 = 2 then
        some (sI σ 55)
      else
        if x1 = 3 then
          some (sI σ 19)
        else
          if x1 = 4 then
            some (sA σ 9 (0 : Int32).toNatClampNeg)
          else
            if x1 = 5 then
              some (sA σ 9 (2 : Int32).toNatClampNeg)
            else
              if x1 = 6 then
                some (sA σ 25 (3 : Int32).toNatClampNeg)
              else
                if x1 = 7 then
                  some (sA σ 9 (1 : Int32).toNatClampNeg)
                else
                  if x1 = 8 then
                    some (sA σ 25 (4 : Int32).toNatClampNeg)
                  else
                    if x1 = 9 then
                      some (sA σ 25 (5 : Int32).toNatClampNeg)
                    else
                      if x1 = 10 then
                        some (sI σ 17)
                      else
                        if x1 = 11 then
                          some (sI σ 18)
                        else
                          if x1 = 12 then
                            bp (f_Book_toldBlows σ) fun r_2 =>
                            some r_2
                          else
                            if x1 = 13 then
                              some (sI σ 23)
                            else
                              some (-1)
set_option maxHeartbeats 4000000 in
set_option maxRecDepth 20000 in
theorem c_BH_has {l : Launch} {g : GX} {q : Nat → Nat} {x1 : Int32}  {σ : St} {r : Int32} (hf : f_BH_has  x1 σ = some r) : KK l y_BH_has prog_1_method_6_code 2 (some .int) 2 g (wX g q) σ [.ref (q 0), .int x1] (some (.int r)) (wX g q) σ := by
  refine KK_of (plainFor_of_name (by decide)) (Nat.le_of_ble_eq_true rfl) (fun p e s m below meth c A ls C w hl => ?_)
  have hl : lv_has ls 2 [(0, .ref (q 0)), (1, .int x1)] := hl
  obtain ⟨hx, hb, hml, hown, hts, hK, hA, hZ, hlocks, hr, hN⟩ := id C
  unfold f_BH_has at hf
  refine lv_iload_n hx hb d_BH_has_0 rfl (lv_at hl 1 rfl) ?_
  by_cases c0 : x1 = 0
  · have hf := it_e c0 hf
    refine lv_tableIn (tgt := 72) hx hb d_BH_has_1 (by rw [c0]; decide) (by rw [c0]; decide) (by rw [c0]; rfl) (by decide) ?_
    refine lv_aload_n hx hb d_BH_has_72 rfl (lv_at hl 0 rfl) ?_
    refine xg_0_fair C w k513 d_BH_has_73 ?_
    refine xg_34_marks C w k273 d_BH_has_76 ?_
    cases some_e hf
    exact k_iret C w d_BH_has_79
  have hf := if_e c0 hf
  have n0 := lv_neT c0 (a := 0) rfl
  by_cases c1 : x1 = 1
  · have hf := it_e c1 hf
    refine lv_tableIn (tgt := 80) hx hb d_BH_has_1 (by rw [c1]; decide) (by rw [c1]; decide) (by rw [c1]; rfl) (by decide) ?_
    refine lv_aload_n hx hb d_BH_has_80 rfl (lv_at hl 0 rfl) ?_
    refine xg_0_fair C w k513 d_BH_has_81 ?_
    refine xg_34_triers C w k276 d_BH_has_84 ?_
    cases some_e hf
    exact k_iret C w d_BH_has_87
  have hf := if_e c1 hf
  have n1 := lv_neT c1 (a := 1) rfl
  by_cases c2 : x1 = 2
  · have hf := it_e c2 hf
    refine lv_tableIn (tgt := 88) hx hb d_BH_has_1 (by rw [c2]; decide) (by rw [c2]; decide) (by rw [c2]; rfl) (by decide) ?_
    refine lv_aload_n hx hb d_BH_has_88 rfl (lv_at hl 0 rfl) ?_
    refine xg_0_fair C w k513 d_BH_has_89 ?_
    refine xg_34_rules C w k282 d_BH_has_92 ?_
    cases some_e hf
    exact k_iret C w d_BH_has_95
  have hf := if_e c2 hf
  have n2 := lv_neT c2 (a := 2) rfl
  by_cases c3 : x1 = 3
  · have hf := it_e c3 hf
    refine lv_tableIn (tgt := 96) hx hb d_BH_has_1 (by rw [c3]; decide) (by rw [c3]; decide) (by rw [c3]; rfl) (by decide) ?_
    refine lv_aload_n hx hb d_BH_has_96 rfl (lv_at hl 0 rfl) ?_
    refine xg_0_book C w k509 d_BH_has_97 ?_
    refine xg_14_inForce C w k342 d_BH_has_100 ?_
    cases some_e hf
    exact k_iret C w d_BH_has_103
  have hf := if_e c3 hf
  have n3 := lv_neT c3 (a := 3) rfl
  by_cases c4 : x1 = 4
  · have hf := it_e c4 hf
    refine lv_tableIn (tgt := 104) hx hb d_BH_has_1 (by rw [c4]; decide) (by rw [c4]; decide) (by rw [c4]; rfl) (by decide) ?_
    refine lv_aload_n hx hb d_BH_has_104 rfl (lv_at hl 0 rfl) ?_
    refine xg_0_book C w k509 d_BH_has_105 ?_
    refine xg_14_now C w k344 d_BH_has_108 ?_
    refine lv_iconst (v := 0) hx hb d_BH_has_111 (by decide) ?_
    refine xl_15 C w (by decide) d_BH_has_112 ?_
    cases some_e hf
    exact k_iret C w d_BH_has_113
  have hf := if_e c4 hf
  have n4 := lv_neT c4 (a := 4) rfl
  by_cases c5 : x1 = 5
  · have hf := it_e c5 hf
    refine lv_tableIn (tgt := 114) hx hb d_BH_has_1 (by rw [c5]; decide) (by rw [c5]; decide) (by rw [c5]; rfl) (by decide) ?_
    refine lv_aload_n hx hb d_BH_has_114 rfl (lv_at hl 0 rfl) ?_
    refine xg_0_book C w k509 d_BH_has_115 ?_
    refine xg_14_now C w k344 d_BH_has_118 ?_
    refine lv_iconst (v := 2) hx hb d_BH_has_121 (by decide) ?_
    refine xl_15 C w (by decide) d_BH_has_122 ?_
    cases some_e hf
    exact k_iret C w d_BH_has_123
  have hf := if_e c5 hf
  have n5 := lv_neT c5 (a := 5) rfl
  by_cases c6 : x1 = 6
  · have hf := it_e c6 hf
    refine lv_tableIn (tgt := 124) hx hb d_BH_has_1 (by rw [c6]; decide) (by rw [c6]; decide) (by rw [c6]; rfl) (by decide) ?_
    refine lv_aload_n hx hb d_BH_has_124 rfl (lv_at hl 0 rfl) ?_
    refine xg_0_fair C w k513 d_BH_has_125 ?_
    refine xg_34_settings C w k263 d_BH_has_128 ?_
    refine lv_iconst (v := 3) hx hb d_BH_has_131 (by decide) ?_
    refine xl_39 C w (by decide) d_BH_has_132 ?_
    cases some_e hf
    exact k_iret C w d_BH_has_133
  have hf := if_e c6 hf
  have n6 := lv_neT c6 (a := 6) rfl
  by_cases c7 : x1 = 7
  · have hf := it_e c7 hf
    refine lv_tableIn (tgt := 134) hx hb d_BH_has_1 (by rw [c7]; decide) (by rw [c7]; decide) (by rw [c7]; rfl) (by decide) ?_
    refine lv_aload_n hx hb d_BH_has_134 rfl (lv_at hl 0 rfl) ?_
    refine xg_0_book C w k509 d_BH_has_135 ?_
    refine xg_14_now C w k344 d_BH_has_138 ?_
    refine lv_iconst (v := 1) hx hb d_BH_has_141 (by decide) ?_
    refine xl_15 C w (by decide) d_BH_has_142 ?_
    cases some_e hf
    exact k_iret C w d_BH_has_143
  have hf := if_e c7 hf
  have n7 := lv_neT c7 (a := 7) rfl
  by_cases c8 : x1 = 8
  · have hf := it_e c8 hf
    refine lv_tableIn (tgt := 144) hx hb d_BH_has_1 (by rw [c8]; decide) (by rw [c8]; decide) (by rw [c8]; rfl) (by decide) ?_
    refine lv_aload_n hx hb d_BH_has_144 rfl (lv_at hl 0 rfl) ?_
    refine xg_0_fair C w k513 d_BH_has_145 ?_
    refine xg_34_settings C w k263 d_BH_has_148 ?_
    refine lv_iconst (v := 4) hx hb d_BH_has_151 (by decide) ?_
    refine xl_39 C w (by decide) d_BH_has_152 ?_
    cases some_e hf
    exact k_iret C w d_BH_has_153
  have hf := if_e c8 hf
  have n8 := lv_neT c8 (a := 8) rfl
  by_cases c9 : x1 = 9
  · have hf := it_e c9 hf
    refine lv_tableIn (tgt := 154) hx hb d_BH_has_1 (by rw [c9]; decide) (by rw [c9]; decide) (by rw [c9]; rfl) (by decide) ?_
    refine lv_aload_n hx hb d_BH_has_154 rfl (lv_at hl 0 rfl) ?_
    refine xg_0_fair C w k513 d_BH_has_155 ?_
    refine xg_34_settings C w k263 d_BH_has_158 ?_
    refine lv_iconst (v := 5) hx hb d_BH_has_161 (by decide) ?_
    refine xl_39 C w (by decide) d_BH_has_162 ?_
    cases some_e hf
    exact k_iret C w d_BH_has_163
  have hf := if_e c9 hf
  have n9 := lv_neT c9 (a := 9) rfl
  by_cases c10 : x1 = 10
  · have hf := it_e c10 hf
    refine lv_tableIn (tgt := 164) hx hb d_BH_has_1 (by rw [c10]; decide) (by rw [c10]; decide) (by rw [c10]; rfl) (by decide) ?_
    refine lv_aload_n hx hb d_BH_has_164 rfl (lv_at hl 0 rfl) ?_
    refine xg_0_book C w k509 d_BH_has_165 ?_
    refine xg_14_nights C w k338 d_BH_has_168 ?_
    cases some_e hf
    exact k_iret C w d_BH_has_171
  have hf := if_e c10 hf
  have n10 := lv_neT c10 (a := 10) rfl
  by_cases c11 : x1 = 11
  · have hf := it_e c11 hf
    refine lv_tableIn (tgt := 172) hx hb d_BH_has_1 (by rw [c11]; decide) (by rw [c11]; decide) (by rw [c11]; rfl) (by decide) ?_
    refine lv_aload_n hx hb d_BH_has_172 rfl (lv_at hl 0 rfl) ?_
    refine xg_0_book C w k509 d_BH_has_173 ?_
    refine xg_14_takings C w k340 d_BH_has_176 ?_
    cases some_e hf
    exact k_iret C w d_BH_has_179
  have hf := if_e c11 hf
  have n11 := lv_neT c11 (a := 11) rfl
  by_cases c12 : x1 = 12
  · have hf := it_e c12 hf
    refine lv_tableIn (tgt := 180) hx hb d_BH_has_1 (by rw [c12]; decide) (by rw [c12]; decide) (by rw [c12]; rfl) (by decide) ?_
    refine lv_aload_n hx hb d_BH_has_180 rfl (lv_at hl 0 rfl) ?_
    refine xg_0_book C w k509 d_BH_has_181 ?_
    obtain ⟨r_2, h_1, hf⟩ := bp_e hf
    refine k_callV (As := []) (rest := []) C w (c_Book_toldBlows (q := q) h_1) cv_Book_toldBlows k720 (xr_14 C w) (by decide) hl.1 rfl (Nat.le_of_ble_eq_true rfl) d_BH_has_184 (fun H locs w => ?_)
    show WK p l e s m _ below meth c 2 g (wX g q) A (some (.int r)) σ H locs (F0 m 187 ls [.int r_2])
    cases some_e hf
    exact k_iret C w d_BH_has_187
  have hf := if_e c12 hf
  have n12 := lv_neT c12 (a := 12) rfl
  by_cases c13 : x1 = 13
  · have hf := it_e c13 hf
    refine lv_tableIn (tgt := 188) hx hb d_BH_has_1 (by rw [c13]; decide) (by rw [c13]; decide) (by rw [c13]; rfl) (by decide) ?_
    refine lv_aload_n hx hb d_BH_has_188 rfl (lv_at hl 0 rfl) ?_
    refine xg_0_book C w k509 d_BH_has_189 ?_
    refine xg_14_acts C w k352 d_BH_has_192 ?_
    cases some_e hf
    exact k_iret C w d_BH_has_195
  have hf := if_e c13 hf
  have n13 := lv_neT c13 (a := 13) rfl
  refine lv_tableOut (tgt := 196) hx hb d_BH_has_1 (by omega) (by decide) ?_
  refine lv_iconst (v := (-1)) hx hb d_BH_has_196 (by decide) ?_
  cases some_e hf
  exact k_iret C w d_BH_has_197
def f_BH_isTrier (x1 : Int32) (σ : St) : Option (Int32) :=
  if x1 < 0 then
    some 0
  else
    if (sI σ 54) ≤ x1 then
      some 0
    else
      some 1
set_option maxHeartbeats 4000000 in
set_option maxRecDepth 20000 in
theorem c_BH_isTrier {l : Launch} {g : GX} {q : Nat → Nat} {x1 : Int32}  {σ : St} {r : Int32} (hf : f_BH_isTrier  x1 σ = some r) : KK l y_BH_isTrier prog_1_method_36_code 2 (some .boolean) 0 g (wX g q) σ [.ref (q 0), .int x1] (some (.int r)) (wX g q) σ := by
  refine KK_of (plainFor_of_name (by decide)) (Nat.le_of_ble_eq_true rfl) (fun p e s m below meth c A ls C w hl => ?_)
  have hl : lv_has ls 2 [(0, .ref (q 0)), (1, .int x1)] := hl
  obtain ⟨hx, hb, hml, hown, hts, hK, hA, hZ, hlocks, hr, hN⟩ := id C
  unfold f_BH_isTrier at hf
  refine lv_iload_n hx hb d_BH_isTrier_0 rfl (lv_at hl 1 rfl) ?_
  refine lv_if_lt (tgt := 19) hx hb d_BH_isTrier_1 (by decide) (fun cd => ?_) (fun cd => ?_)
  · have hf := it_e cd hf
    refine lv_iconst (v := 0) hx hb d_BH_isTrier_19 (by decide) ?_
    cases some_e hf
    exact k_zret C w (by decide) d_BH_isTrier_20
  · have hf := if_e cd hf
    refine lv_iload_n hx hb d_BH_isTrier_4 rfl (lv_at hl 1 rfl) ?_
    refine lv_aload_n hx hb d_BH_isTrier_5 rfl (lv_at hl 0 rfl) ?_
    refine xg_0_fair C w k513 d_BH_isTrier_6 ?_
    refine xg_34_triers C w k276 d_BH_isTrier_9 ?_
    refine lv_icmp_ge (tgt := 19) hx hb d_BH_isTrier_12 (by decide) (fun cd => ?_) (fun cd => ?_)
    · have hf := it_e cd hf
      refine lv_iconst (v := 0) hx hb d_BH_isTrier_19 (by decide) ?_
      cases some_e hf
      exact k_zret C w (by decide) d_BH_isTrier_20
    · have hf := if_e cd hf
      refine lv_iconst (v := 1) hx hb d_BH_isTrier_15 (by decide) ?_
      refine lv_goto (tgt := 20) hx hb d_BH_isTrier_16 (by decide) ?_
      cases some_e hf
      exact k_zret C w (by decide) d_BH_isTrier_20
def f_BH_letterOf_4b (k4 : Int32 → Int32 → Int32 → St → Option (Int32)) (x1 : Int32) (x2 : Int32) (x3 : Int32) (σ : St) : Option (Int32) :=
  if x3 ≤ x1 then
    some (iR x2 27)
  else
    lt ((x2 / 27)) fun x_1 =>
    lt ((x3 + (-1))) fun x_2 =>
    k4 x1 x_1 x_2 σ
def f_BH_letterOf_4 : Nat → Int32 → Int32 → Int32 → St → Option (Int32)
  | 0 => fun _ _ _ _ => none
  | n + 1 => f_BH_letterOf_4b   (f_BH_letterOf_4   n)
def f_BH_letterOf (x0 : Int32) (x1 : Int32) (σ : St) : Option (Int32) :=
  f_BH_letterOf_4 FU x1 x0 5 σ
set_option maxHeartbeats 4000000 in
set_option maxRecDepth 20000 in
theorem t_BH_letterOf_4b {r : Int32} {σ : St} (C : Cx g A p s m av meth c prog_1_method_48_code 4 "BellHammer" (some .int)) {k4 : Int32 → Int32 → Int32 → St → Option (Int32)} (hk4 : ∀ (x1 : Int32) (x2 : Int32) (x3 : Int32) (H : Heap) (locs : List Loc) (ls : Array Slot), k4 x1 x2 x3 σ = some r → Wd g (wX g q) A s σ H locs → lv_has ls 4 [(1, .int x1), (2, .int x2), (3, .int x3)] → WK p l e s m av below meth c 0 g (wX g q) A (some (.int r)) σ H locs (F0 m 4 ls []))  {x1 : Int32} {x2 : Int32} {x3 : Int32} {H : Heap} {locs : List Loc} {ls : Array Slot} (hf : f_BH_letterOf_4b  k4 x1 x2 x3 σ = some r) (w : Wd g (wX g q) A s σ H locs) (hl : lv_has ls 4 [(1, .int x1), (2, .int x2), (3, .int x3)]) : WK p l e s m av below meth c 0 g (wX g q) A (some (.int r)) σ H locs (F0 m 4 ls []) := by
  obtain ⟨hx, hb, hml, hown, hts, hK, hA, hZ, hlocks, hr, hN⟩ := id C
  unfold f_BH_letterOf_4b at hf
  refine lv_iload_n hx hb d_BH_letterOf_4 rfl (lv_at hl 2 rfl) ?_
  refine lv_iload_n hx hb d_BH_letterOf_5 rfl (lv_at hl 0 rfl) ?_
  refine lv_icmp_le (tgt := 20) hx hb d_BH_letterOf_6 (by decide) (fun cd => ?_) (fun cd => ?_)
  · have hf := it_e cd hf
    refine lv_iload_n hx hb d_BH_letterOf_20 rfl (lv_at hl 1 rfl) ?_
    refine lv_bipush (v := 27) hx hb d_BH_letterOf_21 (by decide) ?_
    refine r_irem hx hb d_BH_letterOf_23 (by decide) ?_
    cases some_e hf
    exact k_iret C w d_BH_letterOf_24
  · have hf := if_e cd hf
    refine lv_iload_n hx hb d_BH_letterOf_9 rfl (lv_at hl 1 rfl) ?_
    refine lv_bipush (v := 27) hx hb d_BH_letterOf_10 (by decide) ?_
    refine lv_idiv hx hb d_BH_letterOf_12 (by decide) ?_
    refine lv_topi (fun x_1 ex_1 => ?_)
    have hf := lt_e ex_1 hf
    refine lv_istore_n (lv' := [(2, .int x_1), (1, .int x1), (3, .int x3)]) hx hb d_BH_letterOf_13 rfl hl (by decide) rfl (fun ls hl => ?_)
    obtain ⟨x_2, ex_2⟩ : ∃ y : Int32, y = (x3 + (-1)) := ⟨_, rfl⟩
    have hf := lt_e ex_2 hf
    refine lv_iinc (v := x_2) (lv' := [(3, .int x_2), (2, .int x_1), (1, .int x1)]) hx hb d_BH_letterOf_14 hl (k := 2) rfl (by rw [ex_2]; rfl) (by decide) rfl (fun ls hl => ?_)
    refine lv_goto (tgt := 4) hx hb d_BH_letterOf_17 (by decide) ?_
    exact hk4 x1 x_1 x_2  _ _ _ hf w (lv_sub hl [2, 1, 0] rfl)
set_option maxHeartbeats 4000000 in
set_option maxRecDepth 20000 in
theorem t_BH_letterOf_4 {r : Int32} {σ : St} (C : Cx g A p s m av meth c prog_1_method_48_code 4 "BellHammer" (some .int))  : ∀ (n : Nat) (x1 : Int32) (x2 : Int32) (x3 : Int32) (H : Heap) (locs : List Loc) (ls : Array Slot), f_BH_letterOf_4   n x1 x2 x3 σ = some r → Wd g (wX g q) A s σ H locs → lv_has ls 4 [(1, .int x1), (2, .int x2), (3, .int x3)] → WK p l e s m av below meth c 0 g (wX g q) A (some (.int r)) σ H locs (F0 m 4 ls []) := by
  intro n
  induction n with
  | zero => intro x1 x2 x3 H locs ls hf; exact absurd hf (by intro z; cases z)
  | succ n ih => intro x1 x2 x3 H locs ls hf w hl; exact t_BH_letterOf_4b C  ih hf w hl
set_option maxHeartbeats 4000000 in
set_option maxRecDepth 20000 in
theorem c_BH_letterOf {l : Launch} {g : GX} {q : Nat → Nat} {x0 : Int32} {x1 : Int32}  {σ : St} {r : Int32} (hf : f_BH_letterOf  x0 x1 σ = some r) : KK l y_BH_letterOf prog_1_method_48_code 4 (some .int) 0 g (wX g q) σ [.int x0, .int x1] (some (.int r)) (wX g q) σ := by
  refine KK_of (plainFor_of_name (by decide)) (Nat.le_of_ble_eq_true rfl) (fun p e s m below meth c A ls C w hl => ?_)
  have hl : lv_has ls 4 [(0, .int x0), (1, .int x1)] := hl
  obtain ⟨hx, hb, hml, hown, hts, hK, hA, hZ, hlocks, hr, hN⟩ := id C
  unfold f_BH_letterOf at hf
  refine lv_iload_n hx hb d_BH_letterOf_0 rfl (lv_at hl 0 rfl) ?_
  refine lv_istore_n (lv' := [(2, .int x0), (0, .int x0), (1, .int x1)]) hx hb d_BH_letterOf_1 rfl hl (by decide) rfl (fun ls hl => ?_)
  refine lv_iconst (v := 5) hx hb d_BH_letterOf_2 (by decide) ?_
  refine lv_istore_n (lv' := [(3, .int 5), (2, .int x0), (0, .int x0), (1, .int x1)]) hx hb d_BH_letterOf_3 rfl hl (by decide) rfl (fun ls hl => ?_)
  exact t_BH_letterOf_4 C  FU x1 x0 5  _ _ _ hf w (lv_sub hl [3, 1, 0] rfl)
def f_BH_isMark (x1 : Int32) (σ : St) : Option (Int32) :=
  if x1 < 0 then
    some 0
  else
    if (sI σ 53) ≤ x1 then
      some 0
    else
      some 1
set_option maxHeartbeats 4000000 in
set_option maxRecDepth 20000 in
theorem c_BH_isMark {l : Launch} {g : GX} {q : Nat → Nat} {x1 : Int32}  {σ : St} {r : Int32} (hf : f_BH_isMark  x1 σ = some r) : KK l y_BH_isMark prog_1_method_35_code 2 (some .boolean) 0 g (wX g q) σ [.ref (q 0), .int x1] (some (.int r)) (wX g q) σ := by
  refine KK_of (plainFor_of_name (by decide)) (Nat.le_of_ble_eq_true rfl) (fun p e s m below meth c A ls C w hl => ?_)
  have hl : lv_has ls 2 [(0, .ref (q 0)), (1, .int x1)] := hl
  obtain ⟨hx, hb, hml, hown, hts, hK, hA, hZ, hlocks, hr, hN⟩ := id C
  unfold f_BH_isMark at hf
  refine lv_iload_n hx hb d_BH_isMark_0 rfl (lv_at hl 1 rfl) ?_
  refine lv_if_lt (tgt := 19) hx hb d_BH_isMark_1 (by decide) (fun cd => ?_) (fun cd => ?_)
  · have hf := it_e cd hf
    refine lv_iconst (v := 0) hx hb d_BH_isMark_19 (by decide) ?_
    cases some_e hf
    exact k_zret C w (by decide) d_BH_isMark_20
  · have hf := if_e cd hf
    refine lv_iload_n hx hb d_BH_isMark_4 rfl (lv_at hl 1 rfl) ?_
    refine lv_aload_n hx hb d_BH_isMark_5 rfl (lv_at hl 0 rfl) ?_
    refine xg_0_fair C w k513 d_BH_isMark_6 ?_
    refine xg_34_marks C w k273 d_BH_isMark_9 ?_
    refine lv_icmp_ge (tgt := 19) hx hb d_BH_isMark_12 (by decide) (fun cd => ?_) (fun cd => ?_)
    · have hf := it_e cd hf
      refine lv_iconst (v := 0) hx hb d_BH_isMark_19 (by decide) ?_
      cases some_e hf
      exact k_zret C w (by decide) d_BH_isMark_20
    · have hf := if_e cd hf
      refine lv_iconst (v := 1) hx hb d_BH_isMark_15 (by decide) ?_
      refine lv_goto (tgt := 20) hx hb d_BH_isMark_16 (by decide) ?_
      cases some_e hf
      exact k_zret C w (by decide) d_BH_isMark_20
def f_BH_letter_38 (x1 : Int32) (x2 : Int32) (x3 : Int32) (σ : St) : Option (Int32) :=
  if x1 = 1 then
    bp (f_BH_isTrier x2 σ) fun r_2 =>
    if r_2 = 0 then
      some (-1)
    else
      gd (inB x2 8) <|
      bp (f_BH_letterOf (sA σ 23 x2.toNatClampNeg) x3 σ) fun r_5 =>
      some r_5
  else
    some (-1)
def f_BH_letter (x1 : Int32) (x2 : Int32) (x3 : Int32) (σ : St) : Option (Int32) :=
  if x3 < 0 then
    some (-1)
  else
    if x3 < 6 then
      if x1 = 0 then
        bp (f_BH_isMark x2 σ) fun r_2 =>
        if r_2 = 0 then
          f_BH_letter_38 x1 x2 x3 σ
        else
          gd (inB x2 6) <|
          bp (f_BH_letterOf (sA σ 21 x2.toNatClampNeg) x3 σ) fun r_5 =>
          some r_5
      else
        f_BH_letter_38 x1 x2 x3 σ
    else
      some (-1)
set_option maxHeartbeats 4000000 in
set_option maxRecDepth 20000 in
theorem t_BH_letter_38 {r : Int32} {σ : St} (C : Cx g A p s m av meth c prog_1_method_7_code 4 "BellHammer" (some .int))  {x1 : Int32} {x2 : Int32} {x3 : Int32} {H : Heap} {locs : List Loc} {ls : Array Slot} (hf : f_BH_letter_38   x1 x2 x3 σ = some r) (w : Wd g (wX g q) A s σ H locs) (hl : lv_has ls 4 [(0, .ref (q 0)), (1, .int x1), (2, .int x2), (3, .int x3)]) : WK p l e s m av below meth c 1 g (wX g q) A (some (.int r)) σ H locs (F0 m 38 ls []) := by
  obtain ⟨hx, hb, hml, hown, hts, hK, hA, hZ, hlocks, hr, hN⟩ := id C
  unfold f_BH_letter_38 at hf
  refine lv_iload_n hx hb d_BH_letter_38 rfl (lv_at hl 1 rfl) ?_
  refine lv_iconst (v := 1) hx hb d_BH_letter_39 (by decide) ?_
  refine lv_icmp_ne (tgt := 65) hx hb d_BH_letter_40 (by decide) (fun cd => ?_) (fun cd => ?_)
  · have hf := if_e cd hf
    refine lv_iconst (v := (-1)) hx hb d_BH_letter_65 (by decide) ?_
    cases some_e hf
    exact k_iret C w d_BH_letter_66
  · have hf := it_e cd hf
    refine lv_aload_n hx hb d_BH_letter_43 rfl (lv_at hl 0 rfl) ?_
    refine lv_iload_n hx hb d_BH_letter_44 rfl (lv_at hl 2 rfl) ?_
    obtain ⟨r_2, h_1, hf⟩ := bp_e hf
    refine k_callV (As := [.int x2]) (rest := []) C w (c_BH_isTrier (q := q) h_1) cv_BH_isTrier k736 (xr_0 C w) (by decide) hl.1 rfl (Nat.le_of_ble_eq_true rfl) d_BH_letter_45 (fun H locs w => ?_)
    show WK p l e s m av below meth c 1 g (wX g q) A (some (.int r)) σ H locs (F0 m 48 ls [.int r_2])
    refine lv_if_eq (tgt := 65) hx hb d_BH_letter_48 (by decide) (fun cd => ?_) (fun cd => ?_)
    · have hf := it_e cd hf
      refine lv_iconst (v := (-1)) hx hb d_BH_letter_65 (by decide) ?_
      cases some_e hf
      exact k_iret C w d_BH_letter_66
    · have hf := if_e cd hf
      refine lv_aload_n hx hb d_BH_letter_51 rfl (lv_at hl 0 rfl) ?_
      refine xg_0_fair C w k513 d_BH_letter_52 ?_
      refine xg_34_trierName C w k256 d_BH_letter_55 ?_
      refine lv_iload_n hx hb d_BH_letter_58 rfl (lv_at hl 2 rfl) ?_
      obtain ⟨g_3, hf⟩ := gd_e hf
      refine xl_37 C w g_3 d_BH_letter_59 ?_
      refine lv_iload_n hx hb d_BH_letter_60 rfl (lv_at hl 3 rfl) ?_
      obtain ⟨r_5, h_4, hf⟩ := bp_e hf
      refine k_callS (As := [.int (sA σ 23 x2.toNatClampNeg), .int x3]) (rest := []) C w (c_BH_letterOf (q := q) h_4) cv_BH_letterOf k733 (by decide) hl.1 rfl (Nat.le_of_ble_eq_true rfl) d_BH_letter_61 (fun H locs w => ?_)
      show WK p l e s m av below meth c 1 g (wX g q) A (some (.int r)) σ H locs (F0 m 64 ls [.int r_5])
      cases some_e hf
      exact k_iret C w d_BH_letter_64
set_option maxHeartbeats 4000000 in
set_option maxRecDepth 20000 in
theorem c_BH_letter {l : Launch} {g : GX} {q : Nat → Nat} {x1 : Int32} {x2 : Int32} {x3 : Int32}  {σ : St} {r : Int32} (hf : f_BH_letter  x1 x2 x3 σ = some r) : KK l y_BH_letter prog_1_method_7_code 4 (some .int) 1 g (wX g q) σ [.ref (q 0), .int x1, .int x2, .int x3] (some (.int r)) (wX g q) σ := by
  refine KK_of (plainFor_of_name (by decide)) (Nat.le_of_ble_eq_true rfl) (fun p e s m below meth c A ls C w hl => ?_)
  have hl : lv_has ls 4 [(0, .ref (q 0)), (1, .int x1), (2, .int x2), (3, .int x3)] := hl
  obtain ⟨hx, hb, hml, hown, hts, hK, hA, hZ, hlocks, hr, hN⟩ := id C
  unfold f_BH_letter at hf
  refine lv_iload_n hx hb d_BH_letter_0 rfl (lv_at hl 3 rfl) ?_
  refine lv_if_lt (tgt := 10) hx hb d_BH_letter_1 (by decide) (fun cd => ?_) (fun cd => ?_)
  · have hf := it_e cd hf
    refine lv_iconst (v := (-1)) hx hb d_BH_letter_10 (by decide) ?_
    cases some_e hf
    exact k_iret C w d_BH_letter_11
  · have hf := if_e cd hf
    refine lv_iload_n hx hb d_BH_letter_4 rfl (lv_at hl 3 rfl) ?_
    refine lv_bipush (v := 6) hx hb d_BH_letter_5 (by decide) ?_
    refine lv_icmp_lt (tgt := 12) hx hb d_BH_letter_7 (by decide) (fun cd => ?_) (fun cd => ?_)
    · have hf := it_e cd hf
      refine lv_iload_n hx hb d_BH_letter_12 rfl (lv_at hl 1 rfl) ?_
      refine lv_if_ne (tgt := 38) hx hb d_BH_letter_13 (by decide) (fun cd => ?_) (fun cd => ?_)
      · have hf := if_e cd hf
        exact t_BH_letter_38 C  hf w (lv_sub hl [0, 1, 2, 3] rfl)
      · have hf := it_e cd hf
        refine lv_aload_n hx hb d_BH_letter_16 rfl (lv_at hl 0 rfl) ?_
        refine lv_iload_n hx hb d_BH_letter_17 rfl (lv_at hl 2 rfl) ?_
        obtain ⟨r_2, h_1, hf⟩ := bp_e hf
        refine k_callV (As := [.int x2]) (rest := []) C w (c_BH_isMark (q := q) h_1) cv_BH_isMark k729 (xr_0 C w) (by decide) hl.1 rfl (Nat.le_of_ble_eq_true rfl) d_BH_letter_18 (fun H locs w => ?_)
        show WK p l e s m _ below meth c 1 g (wX g q) A (some (.int r)) σ H locs (F0 m 21 ls [.int r_2])
        refine lv_if_eq (tgt := 38) hx hb d_BH_letter_21 (by decide) (fun cd => ?_) (fun cd => ?_)
        · have hf := it_e cd hf
          exact t_BH_letter_38 C  hf w (lv_sub hl [0, 1, 2, 3] rfl)
        · have hf := if_e cd hf
          refine lv_aload_n hx hb d_BH_letter_24 rfl (lv_at hl 0 rfl) ?_
          refine xg_0_fair C w k513 d_BH_letter_25 ?_
          refine xg_34_markName C w k250 d_BH_letter_28 ?_
          refine lv_iload_n hx hb d_BH_letter_31 rfl (lv_at hl 2 rfl) ?_
          obtain ⟨g_3, hf⟩ := gd_e hf
          refine xl_35 C w g_3 d_BH_letter_32 ?_
          refine lv_iload_n hx hb d_BH_letter_33 rfl (lv_at hl 3 rfl) ?_
          obtain ⟨r_5, h_4, hf⟩ := bp_e hf
          refine k_callS (As := [.int (sA σ 21 x2.toNatClampNeg), .int x3]) (rest := []) C w (c_BH_letterOf (q := q) h_4) cv_BH_letterOf k733 (by decide) hl.1 rfl (Nat.le_of_ble_eq_true rfl) d_BH_letter_34 (fun H locs w => ?_)
          show WK p l e s m _ below meth c 1 g (wX g q) A (some (.int r)) σ H locs (F0 m 37 ls [.int r_5])
          cases some_e hf
          exact k_iret C w d_BH_letter_37
    · have hf := if_e cd hf
      refine lv_iconst (v := (-1)) hx hb d_BH_letter_10 (by decide) ?_
      cases some_e hf
      exact k_iret C w d_BH_letter_11
def f_Fair_trait (x1 : Int32) (x2 : Int32) (σ : St) : Option (Int32) :=
  lt (((x1 * 6) + x2)) fun x_1 =>
  if x_1 < 0 then
    some 0
  else
    if x_1 < 48 then
      gd (inB x_1 48) <|
      some (sA σ 24 x_1.toNatClampNeg)
    else
      some 0
set_option maxHeartbeats 4000000 in
set_option maxRecDepth 20000 in
theorem c_Fair_trait {l : Launch} {g : GX} {q : Nat → Nat} {x1 : Int32} {x2 : Int32}  {σ : St} {r : Int32} (hf : f_Fair_trait  x1 x2 σ = some r) : KK l y_Fair_trait prog_3_method_3_code 4 (some .int) 0 g (wX g q) σ [.ref (q 34), .int x1, .int x2] (some (.int r)) (wX g q) σ := by
  refine KK_of (plainFor_of_name (by decide)) (Nat.le_of_ble_eq_true rfl) (fun p e s m below meth c A ls C w hl => ?_)
  have hl : lv_has ls 4 [(0, .ref (q 34)), (1, .int x1), (2, .int x2)] := hl
  obtain ⟨hx, hb, hml, hown, hts, hK, hA, hZ, hlocks, hr, hN⟩ := id C
  unfold f_Fair_trait at hf
  refine lv_iload_n hx hb d_Fair_trait_0 rfl (lv_at hl 1 rfl) ?_
  refine lv_bipush (v := 6) hx hb d_Fair_trait_1 (by decide) ?_
  refine lv_imul hx hb d_Fair_trait_3 ?_
  refine lv_iload_n hx hb d_Fair_trait_4 rfl (lv_at hl 2 rfl) ?_
  refine lv_iadd hx hb d_Fair_trait_5 ?_
  refine lv_topi (fun x_1 ex_1 => ?_)
  have hf := lt_e ex_1 hf
  refine lv_istore_n (lv' := [(3, .int x_1), (0, .ref (q 34)), (1, .int x1), (2, .int x2)]) hx hb d_Fair_trait_6 rfl hl (by decide) rfl (fun ls hl => ?_)
  refine lv_iload_n hx hb d_Fair_trait_7 rfl (lv_at hl 0 rfl) ?_
  refine lv_if_lt (tgt := 20) hx hb d_Fair_trait_8 (by decide) (fun cd => ?_) (fun cd => ?_)
  · have hf := it_e cd hf
    refine lv_iconst (v := 0) hx hb d_Fair_trait_20 (by decide) ?_
    refine lv_goto (tgt := 30) hx hb d_Fair_trait_21 (by decide) ?_
    cases some_e hf
    exact k_iret C w d_Fair_trait_30
  · have hf := if_e cd hf
    refine lv_iload_n hx hb d_Fair_trait_11 rfl (lv_at hl 0 rfl) ?_
    refine lv_aload_n hx hb d_Fair_trait_12 rfl (lv_at hl 1 rfl) ?_
    refine xg_34_traits C w k258 d_Fair_trait_13 ?_
    refine xn_38 C w d_Fair_trait_16 ?_
    refine lv_icmp_lt (tgt := 24) hx hb d_Fair_trait_17 (by decide) (fun cd => ?_) (fun cd => ?_)
    · have hf := it_e cd hf
      refine lv_aload_n hx hb d_Fair_trait_24 rfl (lv_at hl 1 rfl) ?_
      refine xg_34_traits C w k258 d_Fair_trait_25 ?_
      refine lv_iload_n hx hb d_Fair_trait_28 rfl (lv_at hl 0 rfl) ?_
      obtain ⟨g_2, hf⟩ := gd_e hf
      refine xl_38 C w g_2 d_Fair_trait_29 ?_
      cases some_e hf
      exact k_iret C w d_Fair_trait_30
    · have hf := if_e cd hf
      refine lv_iconst (v := 0) hx hb d_Fair_trait_20 (by decide) ?_
      refine lv_goto (tgt := 30) hx hb d_Fair_trait_21 (by decide) ?_
      cases some_e hf
      exact k_iret C w d_Fair_trait_30
def f_BH_trier (x1 : Int32) (x2 : Int32) (σ : St) : Option (Int32) :=
  bp (f_BH_isTrier x1 σ) fun r_2 =>
  if r_2 = 0 then
    some (-1)
  else
    if x2 < 0 then
      some (-1)
    else
      if x2 < 6 then
        bp (f_Fair_trait x1 x2 σ) fun r_4 =>
        some r_4
      else
        some (-1)
set_option maxHeartbeats 4000000 in
set_option maxRecDepth 20000 in
theorem c_BH_trier {l : Launch} {g : GX} {q : Nat → Nat} {x1 : Int32} {x2 : Int32}  {σ : St} {r : Int32} (hf : f_BH_trier  x1 x2 σ = some r) : KK l y_BH_trier prog_1_method_8_code 3 (some .int) 1 g (wX g q) σ [.ref (q 0), .int x1, .int x2] (some (.int r)) (wX g q) σ := by
  refine KK_of (plainFor_of_name (by decide)) (Nat.le_of_ble_eq_true rfl) (fun p e s m below meth c A ls C w hl => ?_)
  have hl : lv_has ls 3 [(0, .ref (q 0)), (1, .int x1), (2, .int x2)] := hl
  obtain ⟨hx, hb, hml, hown, hts, hK, hA, hZ, hlocks, hr, hN⟩ := id C
  unfold f_BH_trier at hf
  refine lv_aload_n hx hb d_BH_trier_0 rfl (lv_at hl 0 rfl) ?_
  refine lv_iload_n hx hb d_BH_trier_1 rfl (lv_at hl 1 rfl) ?_
  obtain ⟨r_2, h_1, hf⟩ := bp_e hf
  refine k_callV (As := [.int x1]) (rest := []) C w (c_BH_isTrier (q := q) h_1) cv_BH_isTrier k736 (xr_0 C w) (by decide) hl.1 rfl (Nat.le_of_ble_eq_true rfl) d_BH_trier_2 (fun H locs w => ?_)
  show WK p l e s m _ below meth c 1 g (wX g q) A (some (.int r)) σ H locs (F0 m 5 ls [.int r_2])
  refine lv_if_eq (tgt := 18) hx hb d_BH_trier_5 (by decide) (fun cd => ?_) (fun cd => ?_)
  · have hf := it_e cd hf
    refine lv_iconst (v := (-1)) hx hb d_BH_trier_18 (by decide) ?_
    cases some_e hf
    exact k_iret C w d_BH_trier_19
  · have hf := if_e cd hf
    refine lv_iload_n hx hb d_BH_trier_8 rfl (lv_at hl 2 rfl) ?_
    refine lv_if_lt (tgt := 18) hx hb d_BH_trier_9 (by decide) (fun cd => ?_) (fun cd => ?_)
    · have hf := it_e cd hf
      refine lv_iconst (v := (-1)) hx hb d_BH_trier_18 (by decide) ?_
      cases some_e hf
      exact k_iret C w d_BH_trier_19
    · have hf := if_e cd hf
      refine lv_iload_n hx hb d_BH_trier_12 rfl (lv_at hl 2 rfl) ?_
      refine lv_bipush (v := 6) hx hb d_BH_trier_13 (by decide) ?_
      refine lv_icmp_lt (tgt := 20) hx hb d_BH_trier_15 (by decide) (fun cd => ?_) (fun cd => ?_)
      · have hf := it_e cd hf
        refine lv_aload_n hx hb d_BH_trier_20 rfl (lv_at hl 0 rfl) ?_
        refine xg_0_fair C w k513 d_BH_trier_21 ?_
        refine lv_iload_n hx hb d_BH_trier_24 rfl (lv_at hl 1 rfl) ?_
        refine lv_iload_n hx hb d_BH_trier_25 rfl (lv_at hl 2 rfl) ?_
        obtain ⟨r_4, h_3, hf⟩ := bp_e hf
        refine k_callV (As := [.int x1, .int x2]) (rest := []) C w (c_Fair_trait (q := q) h_3) cv_Fair_trait k744 (xr_34 C w) (by decide) hl.1 rfl (Nat.le_of_ble_eq_true rfl) d_BH_trier_26 (fun H locs w => ?_)
        show WK p l e s m _ below meth c 1 g (wX g q) A (some (.int r)) σ H locs (F0 m 29 ls [.int r_4])
        cases some_e hf
        exact k_iret C w d_BH_trier_29
      · have hf := if_e cd hf
        refine lv_iconst (v := (-1)) hx hb d_BH_trier_18 (by decide) ?_
        cases some_e hf
        exact k_iret C w d_BH_trier_19
def f_BH_mark (x1 : Int32) (σ : St) : Option (Int32) :=
  bp (f_BH_isMark x1 σ) fun r_2 =>
  if r_2 = 0 then
    some (-1)
  else
    gd (inB x1 6) <|
    some (sA σ 22 x1.toNatClampNeg)
set_option maxHeartbeats 4000000 in
set_option maxRecDepth 20000 in
theorem c_BH_mark {l : Launch} {g : GX} {q : Nat → Nat} {x1 : Int32}  {σ : St} {r : Int32} (hf : f_BH_mark  x1 σ = some r) : KK l y_BH_mark prog_1_method_9_code 2 (some .int) 1 g (wX g q) σ [.ref (q 0), .int x1] (some (.int r)) (wX g q) σ := by
  refine KK_of (plainFor_of_name (by decide)) (Nat.le_of_ble_eq_true rfl) (fun p e s m below meth c A ls C w hl => ?_)
  have hl : lv_has ls 2 [(0, .ref (q 0)), (1, .int x1)] := hl
  obtain ⟨hx, hb, hml, hown, hts, hK, hA, hZ, hlocks, hr, hN⟩ := id C
  unfold f_BH_mark at hf
  refine lv_aload_n hx hb d_BH_mark_0 rfl (lv_at hl 0 rfl) ?_
  refine lv_iload_n hx hb d_BH_mark_1 rfl (lv_at hl 1 rfl) ?_
  obtain ⟨r_2, h_1, hf⟩ := bp_e hf
  refine k_callV (As := [.int x1]) (rest := []) C w (c_BH_isMark (q := q) h_1) cv_BH_isMark k729 (xr_0 C w) (by decide) hl.1 rfl (Nat.le_of_ble_eq_true rfl) d_BH_mark_2 (fun H locs w => ?_)
  show WK p l e s m _ below meth c 1 g (wX g q) A (some (.int r)) σ H locs (F0 m 5 ls [.int r_2])
  refine lv_if_eq (tgt := 20) hx hb d_BH_mark_5 (by decide) (fun cd => ?_) (fun cd => ?_)
  · have hf := it_e cd hf
    refine lv_iconst (v := (-1)) hx hb d_BH_mark_20 (by decide) ?_
    cases some_e hf
    exact k_iret C w d_BH_mark_21
  · have hf := if_e cd hf
    refine lv_aload_n hx hb d_BH_mark_8 rfl (lv_at hl 0 rfl) ?_
    refine xg_0_fair C w k513 d_BH_mark_9 ?_
    refine xg_34_markHeight C w k253 d_BH_mark_12 ?_
    refine lv_iload_n hx hb d_BH_mark_15 rfl (lv_at hl 1 rfl) ?_
    obtain ⟨g_3, hf⟩ := gd_e hf
    refine xl_36 C w g_3 d_BH_mark_16 ?_
    refine lv_goto (tgt := 21) hx hb d_BH_mark_17 (by decide) ?_
    cases some_e hf
    exact k_iret C w d_BH_mark_21
def f_Fair_markOf_42 (k4 : Int32 → Int32 → Int32 → St → Option (Int32)) (x1 : Int32) (x3 : Int32) (σ : St) : Option (Int32) :=
  lt ((x3 + 1)) fun x_1 =>
  k4 x1 x3 x_1 σ
def f_Fair_markOf_4b (k4 : Int32 → Int32 → Int32 → St → Option (Int32)) (x1 : Int32) (x2 : Int32) (x3 : Int32) (σ : St) : Option (Int32) :=
  if (sI σ 53) ≤ x3 then
    some x2
  else
    gd (inB x3 6) <|
    if x1 < (sA σ 22 x3.toNatClampNeg) then
      lt ((x3 + 1)) fun x_2 =>
      k4 x1 x2 x_2 σ
    else
      if x2 = (-1) then
        f_Fair_markOf_42 k4 x1 x3 σ
      else
        gd (inB x3 6) <|
        gd (inB x2 6) <|
        if (sA σ 22 x3.toNatClampNeg) ≤ (sA σ 22 x2.toNatClampNeg) then
          lt ((x3 + 1)) fun x_5 =>
          k4 x1 x2 x_5 σ
        else
          f_Fair_markOf_42 k4 x1 x3 σ
def f_Fair_markOf_4 : Nat → Int32 → Int32 → Int32 → St → Option (Int32)
  | 0 => fun _ _ _ _ => none
  | n + 1 => f_Fair_markOf_4b   (f_Fair_markOf_4   n)
def f_Fair_markOf (x1 : Int32) (σ : St) : Option (Int32) :=
  f_Fair_markOf_4 FU x1 (-1) 0 σ
set_option maxHeartbeats 4000000 in
set_option maxRecDepth 20000 in
theorem t_Fair_markOf_42 {r : Int32} {σ : St} (C : Cx g A p s m av meth c prog_3_method_5_code 4 "BellHammer$Fair" (some .int)) {k4 : Int32 → Int32 → Int32 → St → Option (Int32)} (hk4 : ∀ (x1 : Int32) (x2 : Int32) (x3 : Int32) (H : Heap) (locs : List Loc) (ls : Array Slot), k4 x1 x2 x3 σ = some r → Wd g (wX g q) A s σ H locs → lv_has ls 4 [(0, .ref (q 34)), (1, .int x1), (2, .int x2), (3, .int x3)] → WK p l e s m av below meth c 0 g (wX g q) A (some (.int r)) σ H locs (F0 m 4 ls []))  {x1 : Int32} {x3 : Int32} {H : Heap} {locs : List Loc} {ls : Array Slot} (hf : f_Fair_markOf_42  k4 x1 x3 σ = some r) (w : Wd g (wX g q) A s σ H locs) (hl : lv_has ls 4 [(0, .ref (q 34)), (1, .int x1), (3, .int x3)]) : WK p l e s m av below meth c 0 g (wX g q) A (some (.int r)) σ H locs (F0 m 42 ls []) := by
  obtain ⟨hx, hb, hml, hown, hts, hK, hA, hZ, hlocks, hr, hN⟩ := id C
  unfold f_Fair_markOf_42 at hf
  refine lv_iload_n hx hb d_Fair_markOf_42 rfl (lv_at hl 2 rfl) ?_
  refine lv_istore_n (lv' := [(2, .int x3), (0, .ref (q 34)), (1, .int x1), (3, .int x3)]) hx hb d_Fair_markOf_43 rfl hl (by decide) rfl (fun ls hl => ?_)
  obtain ⟨x_1, ex_1⟩ : ∃ y : Int32, y = (x3 + 1) := ⟨_, rfl⟩
  have hf := lt_e ex_1 hf
  refine lv_iinc (v := x_1) (lv' := [(3, .int x_1), (2, .int x3), (0, .ref (q 34)), (1, .int x1)]) hx hb d_Fair_markOf_44 hl (k := 3) rfl (by rw [ex_1]; rfl) (by decide) rfl (fun ls hl => ?_)
  refine lv_goto (tgt := 4) hx hb d_Fair_markOf_47 (by decide) ?_
  exact hk4 x1 x3 x_1  _ _ _ hf w (lv_sub hl [2, 3, 1, 0] rfl)
set_option maxHeartbeats 4000000 in
set_option maxRecDepth 20000 in
theorem t_Fair_markOf_4b {r : Int32} {σ : St} (C : Cx g A p s m av meth c prog_3_method_5_code 4 "BellHammer$Fair" (some .int)) {k4 : Int32 → Int32 → Int32 → St → Option (Int32)} (hk4 : ∀ (x1 : Int32) (x2 : Int32) (x3 : Int32) (H : Heap) (locs : List Loc) (ls : Array Slot), k4 x1 x2 x3 σ = some r → Wd g (wX g q) A s σ H locs → lv_has ls 4 [(0, .ref (q 34)), (1, .int x1), (2, .int x2), (3, .int x3)] → WK p l e s m av below meth c 0 g (wX g q) A (some (.int r)) σ H locs (F0 m 4 ls []))  {x1 : Int32} {x2 : Int32} {x3 : Int32} {H : Heap} {locs : List Loc} {ls : Array Slot} (hf : f_Fair_markOf_4b  k4 x1 x2 x3 σ = some r) (w : Wd g (wX g q) A s σ H locs) (hl : lv_has ls 4 [(0, .ref (q 34)), (1, .int x1), (2, .int x2), (3, .int x3)]) : WK p l e s m av below meth c 0 g (wX g q) A (some (.int r)) σ H locs (F0 m 4 ls []) := by
  obtain ⟨hx, hb, hml, hown, hts, hK, hA, hZ, hlocks, hr, hN⟩ := id C
  unfold f_Fair_markOf_4b at hf
  refine lv_iload_n hx hb d_Fair_markOf_4 rfl (lv_at hl 3 rfl) ?_
  refine lv_aload_n hx hb d_Fair_markOf_5 rfl (lv_at hl 0 rfl) ?_
  refine xg_34_marks C w k272 d_Fair_markOf_6 ?_
  refine lv_icmp_ge (tgt := 50) hx hb d_Fair_markOf_9 (by decide) (fun cd => ?_) (fun cd => ?_)
  · have hf := it_e cd hf
    refine lv_iload_n hx hb d_Fair_markOf_50 rfl (lv_at hl 2 rfl) ?_
    cases some_e hf
    exact k_iret C w d_Fair_markOf_51
  · have hf := if_e cd hf
    refine lv_aload_n hx hb d_Fair_markOf_12 rfl (lv_at hl 0 rfl) ?_
    refine xg_34_markHeight C w k252 d_Fair_markOf_13 ?_
    refine lv_iload_n hx hb d_Fair_markOf_16 rfl (lv_at hl 3 rfl) ?_
    obtain ⟨g_1, hf⟩ := gd_e hf
    refine xl_36 C w g_1 d_Fair_markOf_17 ?_
    refine lv_iload_n hx hb d_Fair_markOf_18 rfl (lv_at hl 1 rfl) ?_
    refine lv_icmp_gt (tgt := 44) hx hb d_Fair_markOf_19 (by decide) (fun cd => ?_) (fun cd => ?_)
    · have hf := it_e cd hf
      obtain ⟨x_2, ex_2⟩ : ∃ y : Int32, y = (x3 + 1) := ⟨_, rfl⟩
      have hf := lt_e ex_2 hf
      refine lv_iinc (v := x_2) (lv' := [(3, .int x_2), (0, .ref (q 34)), (1, .int x1), (2, .int x2)]) hx hb d_Fair_markOf_44 hl (k := 3) rfl (by rw [ex_2]; rfl) (by decide) rfl (fun ls hl => ?_)
      refine lv_goto (tgt := 4) hx hb d_Fair_markOf_47 (by decide) ?_
      exact hk4 x1 x2 x_2  _ _ _ hf w (lv_sub hl [1, 2, 3, 0] rfl)
    · have hf := if_e cd hf
      refine lv_iload_n hx hb d_Fair_markOf_22 rfl (lv_at hl 2 rfl) ?_
      refine lv_iconst (v := (-1)) hx hb d_Fair_markOf_23 (by decide) ?_
      refine lv_icmp_eq (tgt := 42) hx hb d_Fair_markOf_24 (by decide) (fun cd => ?_) (fun cd => ?_)
      · have hf := it_e cd hf
        exact t_Fair_markOf_42 C hk4 hf w (lv_sub hl [0, 1, 3] rfl)
      · have hf := if_e cd hf
        refine lv_aload_n hx hb d_Fair_markOf_27 rfl (lv_at hl 0 rfl) ?_
        refine xg_34_markHeight C w k252 d_Fair_markOf_28 ?_
        refine lv_iload_n hx hb d_Fair_markOf_31 rfl (lv_at hl 3 rfl) ?_
        obtain ⟨g_3, hf⟩ := gd_e hf
        refine xl_36 C w g_3 d_Fair_markOf_32 ?_
        refine lv_aload_n hx hb d_Fair_markOf_33 rfl (lv_at hl 0 rfl) ?_
        refine xg_34_markHeight C w k252 d_Fair_markOf_34 ?_
        refine lv_iload_n hx hb d_Fair_markOf_37 rfl (lv_at hl 2 rfl) ?_
        obtain ⟨g_4, hf⟩ := gd_e hf
        refine xl_36 C w g_4 d_Fair_markOf_38 ?_
        refine lv_icmp_le (tgt := 44) hx hb d_Fair_markOf_39 (by decide) (fun cd => ?_) (fun cd => ?_)
        · have hf := it_e cd hf
          obtain ⟨x_5, ex_5⟩ : ∃ y : Int32, y = (x3 + 1) := ⟨_, rfl⟩
          have hf := lt_e ex_5 hf
          refine lv_iinc (v := x_5) (lv' := [(3, .int x_5), (0, .ref (q 34)), (1, .int x1), (2, .int x2)]) hx hb d_Fair_markOf_44 hl (k := 3) rfl (by rw [ex_5]; rfl) (by decide) rfl (fun ls hl => ?_)
          refine lv_goto (tgt := 4) hx hb d_Fair_markOf_47 (by decide) ?_
          exact hk4 x1 x2 x_5  _ _ _ hf w (lv_sub hl [1, 2, 3, 0] rfl)
        · have hf := if_e cd hf
          exact t_Fair_markOf_42 C hk4 hf w (lv_sub hl [0, 1, 3] rfl)
set_option maxHeartbeats 4000000 in
set_option maxRecDepth 20000 in
theorem t_Fair_markOf_4 {r : Int32} {σ : St} (C : Cx g A p s m av meth c prog_3_method_5_code 4 "BellHammer$Fair" (some .int))  : ∀ (n : Nat) (x1 : Int32) (x2 : Int32) (x3 : Int32) (H : Heap) (locs : List Loc) (ls : Array Slot), f_Fair_markOf_4   n x1 x2 x3 σ = some r → Wd g (wX g q) A s σ H locs → lv_has ls 4 [(0, .ref (q 34)), (1, .int x1), (2, .int x2), (3, .int x3)] → WK p l e s m av below meth c 0 g (wX g q) A (some (.int r)) σ H locs (F0 m 4 ls []) := by
  intro n
  induction n with
  | zero => intro x1 x2 x3 H locs ls hf; exact absurd hf (by intro z; cases z)
  | succ n ih => intro x1 x2 x3 H locs ls hf w hl; exact t_Fair_markOf_4b C  ih hf w hl
set_option maxHeartbeats 4000000 in
set_option maxRecDepth 20000 in
theorem c_Fair_markOf {l : Launch} {g : GX} {q : Nat → Nat} {x1 : Int32}  {σ : St} {r : Int32} (hf : f_Fair_markOf  x1 σ = some r) : KK l y_Fair_markOf prog_3_method_5_code 4 (some .int) 0 g (wX g q) σ [.ref (q 34), .int x1] (some (.int r)) (wX g q) σ := by
  refine KK_of (plainFor_of_name (by decide)) (Nat.le_of_ble_eq_true rfl) (fun p e s m below meth c A ls C w hl => ?_)
  have hl : lv_has ls 4 [(0, .ref (q 34)), (1, .int x1)] := hl
  obtain ⟨hx, hb, hml, hown, hts, hK, hA, hZ, hlocks, hr, hN⟩ := id C
  unfold f_Fair_markOf at hf
  refine lv_iconst (v := (-1)) hx hb d_Fair_markOf_0 (by decide) ?_
  refine lv_istore_n (lv' := [(2, .int (-1)), (0, .ref (q 34)), (1, .int x1)]) hx hb d_Fair_markOf_1 rfl hl (by decide) rfl (fun ls hl => ?_)
  refine lv_iconst (v := 0) hx hb d_Fair_markOf_2 (by decide) ?_
  refine lv_istore_n (lv' := [(3, .int 0), (2, .int (-1)), (0, .ref (q 34)), (1, .int x1)]) hx hb d_Fair_markOf_3 rfl hl (by decide) rfl (fun ls hl => ?_)
  exact t_Fair_markOf_4 C  FU x1 (-1) 0  _ _ _ hf w (lv_sub hl [2, 3, 1, 0] rfl)
def f_BH_past (x1 : Int32) (σ : St) : Option (Int32) :=
  if x1 < 0 then
    some (-1)
  else
    if x1 ≤ 99 then
      bp (f_Fair_markOf x1 σ) fun r_2 =>
      some r_2
    else
      some (-1)
set_option maxHeartbeats 4000000 in
set_option maxRecDepth 20000 in
theorem c_BH_past {l : Launch} {g : GX} {q : Nat → Nat} {x1 : Int32}  {σ : St} {r : Int32} (hf : f_BH_past  x1 σ = some r) : KK l y_BH_past prog_1_method_10_code 2 (some .int) 1 g (wX g q) σ [.ref (q 0), .int x1] (some (.int r)) (wX g q) σ := by
  refine KK_of (plainFor_of_name (by decide)) (Nat.le_of_ble_eq_true rfl) (fun p e s m below meth c A ls C w hl => ?_)
  have hl : lv_has ls 2 [(0, .ref (q 0)), (1, .int x1)] := hl
  obtain ⟨hx, hb, hml, hown, hts, hK, hA, hZ, hlocks, hr, hN⟩ := id C
  unfold f_BH_past at hf
  refine lv_iload_n hx hb d_BH_past_0 rfl (lv_at hl 1 rfl) ?_
  refine lv_if_lt (tgt := 10) hx hb d_BH_past_1 (by decide) (fun cd => ?_) (fun cd => ?_)
  · have hf := it_e cd hf
    refine lv_iconst (v := (-1)) hx hb d_BH_past_10 (by decide) ?_
    refine lv_goto (tgt := 22) hx hb d_BH_past_11 (by decide) ?_
    cases some_e hf
    exact k_iret C w d_BH_past_22
  · have hf := if_e cd hf
    refine lv_iload_n hx hb d_BH_past_4 rfl (lv_at hl 1 rfl) ?_
    refine lv_bipush (v := 99) hx hb d_BH_past_5 (by decide) ?_
    refine lv_icmp_le (tgt := 14) hx hb d_BH_past_7 (by decide) (fun cd => ?_) (fun cd => ?_)
    · have hf := it_e cd hf
      refine lv_aload_n hx hb d_BH_past_14 rfl (lv_at hl 0 rfl) ?_
      refine xg_0_fair C w k513 d_BH_past_15 ?_
      refine lv_iload_n hx hb d_BH_past_18 rfl (lv_at hl 1 rfl) ?_
      obtain ⟨r_2, h_1, hf⟩ := bp_e hf
      refine k_callV (As := [.int x1]) (rest := []) C w (c_Fair_markOf (q := q) h_1) cv_Fair_markOf k756 (xr_34 C w) (by decide) hl.1 rfl (Nat.le_of_ble_eq_true rfl) d_BH_past_19 (fun H locs w => ?_)
      show WK p l e s m _ below meth c 1 g (wX g q) A (some (.int r)) σ H locs (F0 m 22 ls [.int r_2])
      cases some_e hf
      exact k_iret C w d_BH_past_22
    · have hf := if_e cd hf
      refine lv_iconst (v := (-1)) hx hb d_BH_past_10 (by decide) ?_
      refine lv_goto (tgt := 22) hx hb d_BH_past_11 (by decide) ?_
      cases some_e hf
      exact k_iret C w d_BH_past_22
def f_BH_isWithin (x0 : Int32) (x1 : Int32) (σ : St) : Option (Int32) :=
  if x0 < 0 then
    some 0
  else
    if x1 < x0 then
      some 0
    else
      some 1
set_option maxHeartbeats 4000000 in
set_option maxRecDepth 20000 in
theorem c_BH_isWithin {l : Launch} {g : GX} {q : Nat → Nat} {x0 : Int32} {x1 : Int32}  {σ : St} {r : Int32} (hf : f_BH_isWithin  x0 x1 σ = some r) : KK l y_BH_isWithin prog_1_method_38_code 2 (some .boolean) 0 g (wX g q) σ [.int x0, .int x1] (some (.int r)) (wX g q) σ := by
  refine KK_of (plainFor_of_name (by decide)) (Nat.le_of_ble_eq_true rfl) (fun p e s m below meth c A ls C w hl => ?_)
  have hl : lv_has ls 2 [(0, .int x0), (1, .int x1)] := hl
  obtain ⟨hx, hb, hml, hown, hts, hK, hA, hZ, hlocks, hr, hN⟩ := id C
  unfold f_BH_isWithin at hf
  refine lv_iload_n hx hb d_BH_isWithin_0 rfl (lv_at hl 0 rfl) ?_
  refine lv_if_lt (tgt := 13) hx hb d_BH_isWithin_1 (by decide) (fun cd => ?_) (fun cd => ?_)
  · have hf := it_e cd hf
    refine lv_iconst (v := 0) hx hb d_BH_isWithin_13 (by decide) ?_
    cases some_e hf
    exact k_zret C w (by decide) d_BH_isWithin_14
  · have hf := if_e cd hf
    refine lv_iload_n hx hb d_BH_isWithin_4 rfl (lv_at hl 0 rfl) ?_
    refine lv_iload_n hx hb d_BH_isWithin_5 rfl (lv_at hl 1 rfl) ?_
    refine lv_icmp_gt (tgt := 13) hx hb d_BH_isWithin_6 (by decide) (fun cd => ?_) (fun cd => ?_)
    · have hf := it_e cd hf
      refine lv_iconst (v := 0) hx hb d_BH_isWithin_13 (by decide) ?_
      cases some_e hf
      exact k_zret C w (by decide) d_BH_isWithin_14
    · have hf := if_e cd hf
      refine lv_iconst (v := 1) hx hb d_BH_isWithin_9 (by decide) ?_
      refine lv_goto (tgt := 14) hx hb d_BH_isWithin_10 (by decide) ?_
      cases some_e hf
      exact k_zret C w (by decide) d_BH_isWithin_14
def f_BH_isOff (x0 : Int32) (σ : St) : Option (Int32) :=
  bp (f_BH_isWithin x0 9 σ) fun r_2 =>
  gd (isB r_2) <|
  some r_2
set_option maxHeartbeats 4000000 in
set_option maxRecDepth 20000 in
theorem c_BH_isOff {l : Launch} {g : GX} {q : Nat → Nat} {x0 : Int32}  {σ : St} {r : Int32} (hf : f_BH_isOff  x0 σ = some r) : KK l y_BH_isOff prog_1_method_37_code 1 (some .boolean) 1 g (wX g q) σ [.int x0] (some (.int r)) (wX g q) σ := by
  refine KK_of (plainFor_of_name (by decide)) (Nat.le_of_ble_eq_true rfl) (fun p e s m below meth c A ls C w hl => ?_)
  have hl : lv_has ls 1 [(0, .int x0)] := hl
  obtain ⟨hx, hb, hml, hown, hts, hK, hA, hZ, hlocks, hr, hN⟩ := id C
  unfold f_BH_isOff at hf
  refine lv_iload_n hx hb d_BH_isOff_0 rfl (lv_at hl 0 rfl) ?_
  refine lv_bipush (v := 9) hx hb d_BH_isOff_1 (by decide) ?_
  obtain ⟨r_2, h_1, hf⟩ := bp_e hf
  refine k_callS (As := [.int x0, .int 9]) (rest := []) C w (c_BH_isWithin (q := q) h_1) cv_BH_isWithin k767 (by decide) hl.1 rfl (Nat.le_of_ble_eq_true rfl) d_BH_isOff_3 (fun H locs w => ?_)
  show WK p l e s m _ below meth c 1 g (wX g q) A (some (.int r)) σ H locs (F0 m 6 ls [.int r_2])
  obtain ⟨g_3, hf⟩ := gd_e hf
  cases some_e hf
  exact k_zret C w g_3 d_BH_isOff_6
def f_Turn_load (x2 : Int32) (σ : St) : Option (St) :=
  bp (f_Fair_trait x2 0 σ) fun r_2 =>
  lt (uI σ 25 r_2) fun σ_3 =>
  bp (f_Fair_trait x2 1 σ_3) fun r_5 =>
  lt (uI σ_3 26 r_5) fun σ_6 =>
  bp (f_Fair_trait x2 2 σ_6) fun r_8 =>
  lt (uI σ_6 27 r_8) fun σ_9 =>
  bp (f_Fair_trait x2 3 σ_9) fun r_11 =>
  lt (uI σ_9 28 r_11) fun σ_12 =>
  bp (f_Fair_trait x2 4 σ_12) fun r_14 =>
  lt (uI σ_12 29 r_14) fun σ_15 =>
  bp (f_Fair_trait x2 5 σ_15) fun r_17 =>
  lt (uI σ_15 30 r_17) fun σ_18 =>
  lt (uI σ_18 31 (sA σ_18 9 (0 : Int32).toNatClampNeg)) fun σ_19 =>
  lt (uI σ_19 32 (sA σ_19 9 (1 : Int32).toNatClampNeg)) fun σ_20 =>
  lt (uI σ_20 33 (sA σ_20 9 (2 : Int32).toNatClampNeg)) fun σ_21 =>
  lt (uI σ_21 34 (sA σ_21 25 (3 : Int32).toNatClampNeg)) fun σ_22 =>
  lt (uI σ_22 35 (sA σ_22 25 (5 : Int32).toNatClampNeg)) fun σ_23 =>
  lt (uI σ_23 36 (sA σ_23 25 (4 : Int32).toNatClampNeg)) fun σ_24 =>
  lt (uA σ_24 16 (va_cpy (sA σ_24 25) (sA σ_24 16) (6 : Int32).toNatClampNeg (0 : Int32).toNatClampNeg (3 : Int32).toNatClampNeg)) fun σ_25 =>
  some σ_25
set_option maxHeartbeats 4000000 in
set_option maxRecDepth 20000 in
theorem c_Turn_load {l : Launch} {g : GX} {q : Nat → Nat} {x2 : Int32}  {σ : St} {σ2 : St} (hf : f_Turn_load  x2 σ = some σ2) : KK l y_Turn_load prog_10_method_2_code 4 none 1 g (wX g q) σ [.ref (q 23), .ref (q 34), .int x2, .ref (q 15)] none (wX g q) σ2 := by
  refine KK_of (plainFor_of_name (by decide)) (Nat.le_of_ble_eq_true rfl) (fun p e s m below meth c A ls C w hl => ?_)
  have hl : lv_has ls 4 [(0, .ref (q 23)), (1, .ref (q 34)), (2, .int x2), (3, .ref (q 15))] := hl
  obtain ⟨hx, hb, hml, hown, hts, hK, hA, hZ, hlocks, hr, hN⟩ := id C
  unfold f_Turn_load at hf
  refine lv_aload_n hx hb d_Turn_load_0 rfl (lv_at hl 0 rfl) ?_
  refine lv_aload_n hx hb d_Turn_load_1 rfl (lv_at hl 1 rfl) ?_
  refine lv_iload_n hx hb d_Turn_load_2 rfl (lv_at hl 2 rfl) ?_
  refine lv_iconst (v := 0) hx hb d_Turn_load_3 (by decide) ?_
  obtain ⟨r_2, h_1, hf⟩ := bp_e hf
  refine k_callV (As := [.int x2, .int 0]) (rest := [.ref (q 23)]) C w (c_Fair_trait (q := q) h_1) cv_Fair_trait k774 (xr_34 C w) (by decide) hl.1 rfl (Nat.le_of_ble_eq_true rfl) d_Turn_load_4 (fun H locs w => ?_)
  show WK p l e s m _ below meth c 1 g (wX g q) A none σ2 H locs (F0 m 7 ls [.int r_2, .ref (q 23)])
  refine xp_23_force C w k404 d_Turn_load_7 (fun σ_3 H locs eσ_3 w => ?_)
  have hf := lt_e eσ_3 hf
  refine lv_aload_n hx hb d_Turn_load_10 rfl (lv_at hl 0 rfl) ?_
  refine lv_aload_n hx hb d_Turn_load_11 rfl (lv_at hl 1 rfl) ?_
  refine lv_iload_n hx hb d_Turn_load_12 rfl (lv_at hl 2 rfl) ?_
  refine lv_iconst (v := 1) hx hb d_Turn_load_13 (by decide) ?_
  obtain ⟨r_5, h_4, hf⟩ := bp_e hf
  refine k_callV (As := [.int x2, .int 1]) (rest := [.ref (q 23)]) C w (c_Fair_trait (q := q) h_4) cv_Fair_trait k774 (xr_34 C w) (by decide) hl.1 rfl (Nat.le_of_ble_eq_true rfl) d_Turn_load_14 (fun H locs w => ?_)
  show WK p l e s m _ below meth c 1 g (wX g q) A none σ2 H locs (F0 m 17 ls [.int r_5, .ref (q 23)])
  refine xp_23_aim C w k406 d_Turn_load_17 (fun σ_6 H locs eσ_6 w => ?_)
  have hf := lt_e eσ_6 hf
  refine lv_aload_n hx hb d_Turn_load_20 rfl (lv_at hl 0 rfl) ?_
  refine lv_aload_n hx hb d_Turn_load_21 rfl (lv_at hl 1 rfl) ?_
  refine lv_iload_n hx hb d_Turn_load_22 rfl (lv_at hl 2 rfl) ?_
  refine lv_iconst (v := 2) hx hb d_Turn_load_23 (by decide) ?_
  obtain ⟨r_8, h_7, hf⟩ := bp_e hf
  refine k_callV (As := [.int x2, .int 2]) (rest := [.ref (q 23)]) C w (c_Fair_trait (q := q) h_7) cv_Fair_trait k774 (xr_34 C w) (by decide) hl.1 rfl (Nat.le_of_ble_eq_true rfl) d_Turn_load_24 (fun H locs w => ?_)
  show WK p l e s m _ below meth c 1 g (wX g q) A none σ2 H locs (F0 m 27 ls [.int r_8, .ref (q 23)])
  refine xp_23_tires C w k409 d_Turn_load_27 (fun σ_9 H locs eσ_9 w => ?_)
  have hf := lt_e eσ_9 hf
  refine lv_aload_n hx hb d_Turn_load_30 rfl (lv_at hl 0 rfl) ?_
  refine lv_aload_n hx hb d_Turn_load_31 rfl (lv_at hl 1 rfl) ?_
  refine lv_iload_n hx hb d_Turn_load_32 rfl (lv_at hl 2 rfl) ?_
  refine lv_iconst (v := 3) hx hb d_Turn_load_33 (by decide) ?_
  obtain ⟨r_11, h_10, hf⟩ := bp_e hf
  refine k_callV (As := [.int x2, .int 3]) (rest := [.ref (q 23)]) C w (c_Fair_trait (q := q) h_10) cv_Fair_trait k774 (xr_34 C w) (by decide) hl.1 rfl (Nat.le_of_ble_eq_true rfl) d_Turn_load_34 (fun H locs w => ?_)
  show WK p l e s m _ below meth c 1 g (wX g q) A none σ2 H locs (F0 m 37 ls [.int r_11, .ref (q 23)])
  refine xp_23_coins C w k410 d_Turn_load_37 (fun σ_12 H locs eσ_12 w => ?_)
  have hf := lt_e eσ_12 hf
  refine lv_aload_n hx hb d_Turn_load_40 rfl (lv_at hl 0 rfl) ?_
  refine lv_aload_n hx hb d_Turn_load_41 rfl (lv_at hl 1 rfl) ?_
  refine lv_iload_n hx hb d_Turn_load_42 rfl (lv_at hl 2 rfl) ?_
  refine lv_iconst (v := 4) hx hb d_Turn_load_43 (by decide) ?_
  obtain ⟨r_14, h_13, hf⟩ := bp_e hf
  refine k_callV (As := [.int x2, .int 4]) (rest := [.ref (q 23)]) C w (c_Fair_trait (q := q) h_13) cv_Fair_trait k774 (xr_34 C w) (by decide) hl.1 rfl (Nat.le_of_ble_eq_true rfl) d_Turn_load_44 (fun H locs w => ?_)
  show WK p l e s m _ below meth c 1 g (wX g q) A none σ2 H locs (F0 m 47 ls [.int r_14, .ref (q 23)])
  refine xp_23_stays C w k411 d_Turn_load_47 (fun σ_15 H locs eσ_15 w => ?_)
  have hf := lt_e eσ_15 hf
  refine lv_aload_n hx hb d_Turn_load_50 rfl (lv_at hl 0 rfl) ?_
  refine lv_aload_n hx hb d_Turn_load_51 rfl (lv_at hl 1 rfl) ?_
  refine lv_iload_n hx hb d_Turn_load_52 rfl (lv_at hl 2 rfl) ?_
  refine lv_iconst (v := 5) hx hb d_Turn_load_53 (by decide) ?_
  obtain ⟨r_17, h_16, hf⟩ := bp_e hf
  refine k_callV (As := [.int x2, .int 5]) (rest := [.ref (q 23)]) C w (c_Fair_trait (q := q) h_16) cv_Fair_trait k774 (xr_34 C w) (by decide) hl.1 rfl (Nat.le_of_ble_eq_true rfl) d_Turn_load_54 (fun H locs w => ?_)
  show WK p l e s m _ below meth c 1 g (wX g q) A none σ2 H locs (F0 m 57 ls [.int r_17, .ref (q 23)])
  refine xp_23_lady C w k412 d_Turn_load_57 (fun σ_18 H locs eσ_18 w => ?_)
  have hf := lt_e eσ_18 hf
  refine lv_aload_n hx hb d_Turn_load_60 rfl (lv_at hl 0 rfl) ?_
  refine lv_aload_n hx hb d_Turn_load_61 rfl (lv_at hl 3 rfl) ?_
  refine lv_iconst (v := 0) hx hb d_Turn_load_62 (by decide) ?_
  refine xl_15 C w (by decide) d_Turn_load_63 ?_
  refine xp_23_bell C w k415 d_Turn_load_64 (fun σ_19 H locs eσ_19 w => ?_)
  have hf := lt_e eσ_19 hf
  refine lv_aload_n hx hb d_Turn_load_67 rfl (lv_at hl 0 rfl) ?_
  refine lv_aload_n hx hb d_Turn_load_68 rfl (lv_at hl 3 rfl) ?_
  refine lv_iconst (v := 1) hx hb d_Turn_load_69 (by decide) ?_
  refine xl_15 C w (by decide) d_Turn_load_70 ?_
  refine xp_23_slack C w k417 d_Turn_load_71 (fun σ_20 H locs eσ_20 w => ?_)
  have hf := lt_e eσ_20 hf
  refine lv_aload_n hx hb d_Turn_load_74 rfl (lv_at hl 0 rfl) ?_
  refine lv_aload_n hx hb d_Turn_load_75 rfl (lv_at hl 3 rfl) ?_
  refine lv_iconst (v := 2) hx hb d_Turn_load_76 (by decide) ?_
  refine xl_15 C w (by decide) d_Turn_load_77 ?_
  refine xp_23_price C w k419 d_Turn_load_78 (fun σ_21 H locs eσ_21 w => ?_)
  have hf := lt_e eσ_21 hf
  refine lv_aload_n hx hb d_Turn_load_81 rfl (lv_at hl 0 rfl) ?_
  refine lv_aload_n hx hb d_Turn_load_82 rfl (lv_at hl 1 rfl) ?_
  refine xg_34_settings C w k262 d_Turn_load_83 ?_
  refine lv_iconst (v := 3) hx hb d_Turn_load_86 (by decide) ?_
  refine xl_39 C w (by decide) d_Turn_load_87 ?_
  refine xp_23_tries C w k420 d_Turn_load_88 (fun σ_22 H locs eσ_22 w => ?_)
  have hf := lt_e eσ_22 hf
  refine lv_aload_n hx hb d_Turn_load_91 rfl (lv_at hl 0 rfl) ?_
  refine lv_aload_n hx hb d_Turn_load_92 rfl (lv_at hl 1 rfl) ?_
  refine xg_34_settings C w k262 d_Turn_load_93 ?_
  refine lv_iconst (v := 5) hx hb d_Turn_load_96 (by decide) ?_
  refine xl_39 C w (by decide) d_Turn_load_97 ?_
  refine xp_23_near C w k421 d_Turn_load_98 (fun σ_23 H locs eσ_23 w => ?_)
  have hf := lt_e eσ_23 hf
  refine lv_aload_n hx hb d_Turn_load_101 rfl (lv_at hl 0 rfl) ?_
  refine lv_aload_n hx hb d_Turn_load_102 rfl (lv_at hl 1 rfl) ?_
  refine xg_34_settings C w k262 d_Turn_load_103 ?_
  refine lv_iconst (v := 4) hx hb d_Turn_load_106 (by decide) ?_
  refine xl_39 C w (by decide) d_Turn_load_107 ?_
  refine xp_23_crowd C w k422 d_Turn_load_108 (fun σ_24 H locs eσ_24 w => ?_)
  have hf := lt_e eσ_24 hf
  refine lv_aload_n hx hb d_Turn_load_111 rfl (lv_at hl 1 rfl) ?_
  refine xg_34_settings C w k262 d_Turn_load_112 ?_
  refine lv_bipush (v := 6) hx hb d_Turn_load_115 (by decide) ?_
  refine lv_aload_n hx hb d_Turn_load_117 rfl (lv_at hl 0 rfl) ?_
  refine xg_23_comes C w k424 d_Turn_load_118 ?_
  refine lv_iconst (v := 0) hx hb d_Turn_load_121 (by decide) ?_
  refine lv_aload_n hx hb d_Turn_load_122 rfl (lv_at hl 0 rfl) ?_
  refine xg_23_comes C w k424 d_Turn_load_123 ?_
  refine xn_24 C w d_Turn_load_126 ?_
  refine xc_39_24 C w hl.1 (by omega) (Nat.le_of_ble_eq_true rfl) (by decide) (by decide) (by decide) (by decide) (by decide) k775 d_Turn_load_127 (fun σ_25 H locs eσ_25 w => ?_)
  have hf := lt_e eσ_25 hf
  cases some_e hf
  exact k_vret C w d_Turn_load_130
def f_BH_rise (x0 : Int32) (x1 : Int32) (x2 : Int32) (σ : St) : Option (Int32) :=
  lt (((x0 * (100 - (10 * x1))) / 100)) fun x_1 =>
  some ((x_1 * (100 - x2)) / 100)
set_option maxHeartbeats 4000000 in
set_option maxRecDepth 20000 in
theorem c_BH_rise {l : Launch} {g : GX} {q : Nat → Nat} {x0 : Int32} {x1 : Int32} {x2 : Int32}  {σ : St} {r : Int32} (hf : f_BH_rise  x0 x1 x2 σ = some r) : KK l y_BH_rise prog_1_method_39_code 4 (some .int) 0 g (wX g q) σ [.int x0, .int x1, .int x2] (some (.int r)) (wX g q) σ := by
  refine KK_of (plainFor_of_name (by decide)) (Nat.le_of_ble_eq_true rfl) (fun p e s m below meth c A ls C w hl => ?_)
  have hl : lv_has ls 4 [(0, .int x0), (1, .int x1), (2, .int x2)] := hl
  obtain ⟨hx, hb, hml, hown, hts, hK, hA, hZ, hlocks, hr, hN⟩ := id C
  unfold f_BH_rise at hf
  refine lv_iload_n hx hb d_BH_rise_0 rfl (lv_at hl 0 rfl) ?_
  refine lv_bipush (v := 100) hx hb d_BH_rise_1 (by decide) ?_
  refine lv_bipush (v := 10) hx hb d_BH_rise_3 (by decide) ?_
  refine lv_iload_n hx hb d_BH_rise_5 rfl (lv_at hl 1 rfl) ?_
  refine lv_imul hx hb d_BH_rise_6 ?_
  refine lv_isub hx hb d_BH_rise_7 ?_
  refine lv_imul hx hb d_BH_rise_8 ?_
  refine lv_bipush (v := 100) hx hb d_BH_rise_9 (by decide) ?_
  refine lv_idiv hx hb d_BH_rise_11 (by decide) ?_
  refine lv_topi (fun x_1 ex_1 => ?_)
  have hf := lt_e ex_1 hf
  refine lv_istore_n (lv' := [(3, .int x_1), (0, .int x0), (1, .int x1), (2, .int x2)]) hx hb d_BH_rise_12 rfl hl (by decide) rfl (fun ls hl => ?_)
  refine lv_iload_n hx hb d_BH_rise_13 rfl (lv_at hl 0 rfl) ?_
  refine lv_bipush (v := 100) hx hb d_BH_rise_14 (by decide) ?_
  refine lv_iload_n hx hb d_BH_rise_16 rfl (lv_at hl 3 rfl) ?_
  refine lv_isub hx hb d_BH_rise_17 ?_
  refine lv_imul hx hb d_BH_rise_18 ?_
  refine lv_bipush (v := 100) hx hb d_BH_rise_19 (by decide) ?_
  refine lv_idiv hx hb d_BH_rise_21 (by decide) ?_
  cases some_e hf
  exact k_iret C w d_BH_rise_22
def f_Turn_height_36 (t0 : Int32) (t1 : Int32) (t2 : Int32) (t3 : Int32) (σ : St) : Option (Int32) :=
  bp (f_BH_rise t2 t1 t0 σ) fun r_2 =>
  some (iMin t3 r_2)
def f_Turn_height (x1 : Int32) (x2 : Int32) (x3 : Int32) (σ : St) : Option (Int32) :=
  lt ((iMax 1 ((sI σ 25) - (x1 * (sI σ 27))))) fun x_1 =>
  if x3 = 0 then
    f_Turn_height_36 0 x2 x_1 (sI σ 31) σ
  else
    f_Turn_height_36 (sI σ 32) x2 x_1 (sI σ 31) σ
set_option maxHeartbeats 4000000 in
set_option maxRecDepth 20000 in
theorem t_Turn_height_36 {r : Int32} {σ : St} (C : Cx g A p s m av meth c prog_10_method_5_code 5 "BellHammer$Turn" (some .int))  {t0 : Int32} {t1 : Int32} {t2 : Int32} {t3 : Int32} {H : Heap} {locs : List Loc} {ls : Array Slot} (hf : f_Turn_height_36   t0 t1 t2 t3 σ = some r) (w : Wd g (wX g q) A s σ H locs) (hl : lv_has ls 5 []) : WK p l e s m av below meth c 1 g (wX g q) A (some (.int r)) σ H locs (F0 m 36 ls [.int t0, .int t1, .int t2, .int t3]) := by
  obtain ⟨hx, hb, hml, hown, hts, hK, hA, hZ, hlocks, hr, hN⟩ := id C
  unfold f_Turn_height_36 at hf
  obtain ⟨r_2, h_1, hf⟩ := bp_e hf
  refine k_callSN (As := [.int t2, .int t1, .int t0]) (rest := [.int t3]) C w (c_BH_rise (q := q) h_1) cv_BH_rise (List.mem_of_getElem? (l := nestM) (i := 7) rfl) (by decide) hl.1 rfl (Nat.le_of_ble_eq_true rfl) d_Turn_height_36 (fun H locs w => ?_)
  show WK p l e s m av below meth c 1 g (wX g q) A (some (.int r)) σ H locs (F0 m 39 ls [.int r_2, .int t3])
  refine r_min C hl.1 (by omega) (Nat.le_of_ble_eq_true rfl) k786 d_Turn_height_39 ?_
  cases some_e hf
  exact k_iret C w d_Turn_height_42
set_option maxHeartbeats 4000000 in
set_option maxRecDepth 20000 in
theorem c_Turn_height {l : Launch} {g : GX} {q : Nat → Nat} {x1 : Int32} {x2 : Int32} {x3 : Int32}  {σ : St} {r : Int32} (hf : f_Turn_height  x1 x2 x3 σ = some r) : KK l y_Turn_height prog_10_method_5_code 5 (some .int) 1 g (wX g q) σ [.ref (q 23), .int x1, .int x2, .int x3] (some (.int r)) (wX g q) σ := by
  refine KK_of (plainFor_of_name (by decide)) (Nat.le_of_ble_eq_true rfl) (fun p e s m below meth c A ls C w hl => ?_)
  have hl : lv_has ls 5 [(0, .ref (q 23)), (1, .int x1), (2, .int x2), (3, .int x3)] := hl
  obtain ⟨hx, hb, hml, hown, hts, hK, hA, hZ, hlocks, hr, hN⟩ := id C
  unfold f_Turn_height at hf
  refine lv_iconst (v := 1) hx hb d_Turn_height_0 (by decide) ?_
  refine lv_aload_n hx hb d_Turn_height_1 rfl (lv_at hl 0 rfl) ?_
  refine xg_23_force C w k404 d_Turn_height_2 ?_
  refine lv_iload_n hx hb d_Turn_height_5 rfl (lv_at hl 1 rfl) ?_
  refine lv_aload_n hx hb d_Turn_height_6 rfl (lv_at hl 0 rfl) ?_
  refine xg_23_tires C w k409 d_Turn_height_7 ?_
  refine lv_imul hx hb d_Turn_height_10 ?_
  refine lv_isub hx hb d_Turn_height_11 ?_
  refine r_max C hl.1 (by omega) (Nat.le_of_ble_eq_true rfl) k780 d_Turn_height_12 ?_
  refine lv_topi (fun x_1 ex_1 => ?_)
  have hf := lt_e ex_1 hf
  refine lv_istore (lv' := [(4, .int x_1), (0, .ref (q 23)), (1, .int x1), (2, .int x2), (3, .int x3)]) hx hb d_Turn_height_15 hl (by decide) rfl (fun ls hl => ?_)
  refine lv_aload_n hx hb d_Turn_height_17 rfl (lv_at hl 1 rfl) ?_
  refine xg_23_bell C w k415 d_Turn_height_18 ?_
  refine lv_iload hx hb d_Turn_height_21 (lv_at hl 0 rfl) ?_
  refine lv_iload_n hx hb d_Turn_height_23 rfl (lv_at hl 3 rfl) ?_
  refine lv_iload_n hx hb d_Turn_height_24 rfl (lv_at hl 4 rfl) ?_
  refine lv_if_eq (tgt := 35) hx hb d_Turn_height_25 (by decide) (fun cd => ?_) (fun cd => ?_)
  · have hf := it_e cd hf
    refine lv_iconst (v := 0) hx hb d_Turn_height_35 (by decide) ?_
    exact t_Turn_height_36 C  hf w (lv_sub hl [] rfl)
  · have hf := if_e cd hf
    refine lv_aload_n hx hb d_Turn_height_28 rfl (lv_at hl 1 rfl) ?_
    refine xg_23_slack C w k417 d_Turn_height_29 ?_
    refine lv_goto (tgt := 36) hx hb d_Turn_height_32 (by decide) ?_
    exact t_Turn_height_36 C  hf w (lv_sub hl [] rfl)
def f_BH_high (x1 : Int32) (x2 : Int32) (x3 : Int32) (x4 : Int32) (σ : St) : Option (Int32 × St) :=
  bp (f_BH_isTrier x1 σ) fun r_2 =>
  if r_2 = 0 then
    some ((-1), σ)
  else
    if x2 < 0 then
      some ((-1), σ)
    else
      if 4 ≤ x2 then
        some ((-1), σ)
      else
        bp (f_BH_isOff x3 σ) fun r_4 =>
        if r_4 = 0 then
          some ((-1), σ)
        else
          bp (f_Turn_load x1 σ) fun σ_6 =>
          bp (f_Turn_height x2 x3 x4 σ_6) fun r_8 =>
          some (r_8, σ_6)
set_option maxHeartbeats 4000000 in
set_option maxRecDepth 20000 in
theorem c_BH_high {l : Launch} {g : GX} {q : Nat → Nat} {x1 : Int32} {x2 : Int32} {x3 : Int32} {x4 : Int32}  {σ : St} {r : Int32} {σ2 : St} (hf : f_BH_high  x1 x2 x3 x4 σ = some (r, σ2)) : KK l y_BH_high prog_1_method_11_code 5 (some .int) 2 g (wX g q) σ [.ref (q 0), .int x1, .int x2, .int x3, .int x4] (some (.int r)) (wX g q) σ2 := by
  refine KK_of (plainFor_of_name (by decide)) (Nat.le_of_ble_eq_true rfl) (fun p e s m below meth c A ls C w hl => ?_)
  have hl : lv_has ls 5 [(0, .ref (q 0)), (1, .int x1), (2, .int x2), (3, .int x3), (4, .int x4)] := hl
  obtain ⟨hx, hb, hml, hown, hts, hK, hA, hZ, hlocks, hr, hN⟩ := id C
  unfold f_BH_high at hf
  refine lv_aload_n hx hb d_BH_high_0 rfl (lv_at hl 0 rfl) ?_
  refine lv_iload_n hx hb d_BH_high_1 rfl (lv_at hl 1 rfl) ?_
  obtain ⟨r_2, h_1, hf⟩ := bp_e hf
  refine k_callV (As := [.int x1]) (rest := []) C w (c_BH_isTrier (q := q) h_1) cv_BH_isTrier k736 (xr_0 C w) (by decide) hl.1 rfl (Nat.le_of_ble_eq_true rfl) d_BH_high_2 (fun H locs w => ?_)
  show WK p l e s m _ below meth c 2 g (wX g q) A (some (.int r)) σ2 H locs (F0 m 5 ls [.int r_2])
  refine lv_if_eq (tgt := 24) hx hb d_BH_high_5 (by decide) (fun cd => ?_) (fun cd => ?_)
  · have hf := it_e cd hf
    refine lv_iconst (v := (-1)) hx hb d_BH_high_24 (by decide) ?_
    obtain ⟨rfl, rfl⟩ := some2_e hf
    exact k_iret C w d_BH_high_25
  · have hf := if_e cd hf
    refine lv_iload_n hx hb d_BH_high_8 rfl (lv_at hl 2 rfl) ?_
    refine lv_if_lt (tgt := 24) hx hb d_BH_high_9 (by decide) (fun cd => ?_) (fun cd => ?_)
    · have hf := it_e cd hf
      refine lv_iconst (v := (-1)) hx hb d_BH_high_24 (by decide) ?_
      obtain ⟨rfl, rfl⟩ := some2_e hf
      exact k_iret C w d_BH_high_25
    · have hf := if_e cd hf
      refine lv_iload_n hx hb d_BH_high_12 rfl (lv_at hl 2 rfl) ?_
      refine lv_iconst (v := 4) hx hb d_BH_high_13 (by decide) ?_
      refine lv_icmp_ge (tgt := 24) hx hb d_BH_high_14 (by decide) (fun cd => ?_) (fun cd => ?_)
      · have hf := it_e cd hf
        refine lv_iconst (v := (-1)) hx hb d_BH_high_24 (by decide) ?_
        obtain ⟨rfl, rfl⟩ := some2_e hf
        exact k_iret C w d_BH_high_25
      · have hf := if_e cd hf
        refine lv_iload_n hx hb d_BH_high_17 rfl (lv_at hl 3 rfl) ?_
        obtain ⟨r_4, h_3, hf⟩ := bp_e hf
        refine k_callS (As := [.int x3]) (rest := []) C w (c_BH_isOff (q := q) h_3) cv_BH_isOff k764 (by decide) hl.1 rfl (Nat.le_of_ble_eq_true rfl) d_BH_high_18 (fun H locs w => ?_)
        show WK p l e s m _ below meth c 2 g (wX g q) A (some (.int r)) σ2 H locs (F0 m 21 ls [.int r_4])
        refine lv_if_ne (tgt := 26) hx hb d_BH_high_21 (by decide) (fun cd => ?_) (fun cd => ?_)
        · have hf := if_e cd hf
          refine lv_aload_n hx hb d_BH_high_26 rfl (lv_at hl 0 rfl) ?_
          refine xg_0_turn C w k511 d_BH_high_27 ?_
          refine lv_aload_n hx hb d_BH_high_30 rfl (lv_at hl 0 rfl) ?_
          refine xg_0_fair C w k513 d_BH_high_31 ?_
          refine lv_iload_n hx hb d_BH_high_34 rfl (lv_at hl 1 rfl) ?_
          refine lv_aload_n hx hb d_BH_high_35 rfl (lv_at hl 0 rfl) ?_
          refine xg_0_book C w k509 d_BH_high_36 ?_
          refine xg_14_now C w k344 d_BH_high_39 ?_
          obtain ⟨σ_6, h_5, hf⟩ := bp_e hf
          refine k_callV (As := [.ref (q 34), .int x1, .ref (q 15)]) (rest := []) C w (c_Turn_load (q := q) h_5) cv_Turn_load k770 (xr_23 C w) (by decide) hl.1 rfl (Nat.le_of_ble_eq_true rfl) d_BH_high_42 (fun H locs w => ?_)
          show WK p l e s m _ below meth c 2 g (wX g q) A (some (.int r)) σ2 H locs (F0 m 45 ls [])
          refine lv_aload_n hx hb d_BH_high_45 rfl (lv_at hl 0 rfl) ?_
          refine xg_0_turn C w k511 d_BH_high_46 ?_
          refine lv_iload_n hx hb d_BH_high_49 rfl (lv_at hl 2 rfl) ?_
          refine lv_iload_n hx hb d_BH_high_50 rfl (lv_at hl 3 rfl) ?_
          refine lv_iload hx hb d_BH_high_51 (lv_at hl 4 rfl) ?_
          obtain ⟨r_8, h_7, hf⟩ := bp_e hf
          refine k_callV (As := [.int x2, .int x3, .int x4]) (rest := []) C w (c_Turn_height (q := q) h_7) cv_Turn_height k776 (xr_23 C w) (by decide) hl.1 rfl (Nat.le_of_ble_eq_true rfl) d_BH_high_53 (fun H locs w => ?_)
          show WK p l e s m _ below meth c 2 g (wX g q) A (some (.int r)) σ2 H locs (F0 m 56 ls [.int r_8])
          obtain ⟨rfl, rfl⟩ := some2_e hf
          exact k_iret C w d_BH_high_56
        · have hf := it_e cd hf
          refine lv_iconst (v := (-1)) hx hb d_BH_high_24 (by decide) ?_
          obtain ⟨rfl, rfl⟩ := some2_e hf
          exact k_iret C w d_BH_high_25
def f_BH_wouldRing_19 (t0 : Int32) (t1 : Int32) (t2 : Int32) (σ : St) : Option (Int32) :=
  bp (f_BH_rise t2 t1 t0 σ) fun r_2 =>
  if r_2 < (sA σ 9 (0 : Int32).toNatClampNeg) then
    some 0
  else
    some 1
def f_BH_wouldRing (x1 : Int32) (x2 : Int32) (x3 : Int32) (σ : St) : Option (Int32) :=
  if x3 = 0 then
    f_BH_wouldRing_19 0 x2 x1 σ
  else
    f_BH_wouldRing_19 (sA σ 9 (1 : Int32).toNatClampNeg) x2 x1 σ
set_option maxHeartbeats 4000000 in
set_option maxRecDepth 20000 in
theorem t_BH_wouldRing_19 {r : Int32} {σ : St} (C : Cx g A p s m av meth c prog_1_method_40_code 4 "BellHammer" (some .boolean))  {t0 : Int32} {t1 : Int32} {t2 : Int32} {H : Heap} {locs : List Loc} {ls : Array Slot} (hf : f_BH_wouldRing_19   t0 t1 t2 σ = some r) (w : Wd g (wX g q) A s σ H locs) (hl : lv_has ls 4 [(0, .ref (q 0))]) : WK p l e s m av below meth c 1 g (wX g q) A (some (.int r)) σ H locs (F0 m 19 ls [.int t0, .int t1, .int t2]) := by
  obtain ⟨hx, hb, hml, hown, hts, hK, hA, hZ, hlocks, hr, hN⟩ := id C
  unfold f_BH_wouldRing_19 at hf
  obtain ⟨r_2, h_1, hf⟩ := bp_e hf
  refine k_callS (As := [.int t2, .int t1, .int t0]) (rest := []) C w (c_BH_rise (q := q) h_1) cv_BH_rise k795 (by decide) hl.1 rfl (Nat.le_of_ble_eq_true rfl) d_BH_wouldRing_19 (fun H locs w => ?_)
  show WK p l e s m av below meth c 1 g (wX g q) A (some (.int r)) σ H locs (F0 m 22 ls [.int r_2])
  refine lv_aload_n hx hb d_BH_wouldRing_22 rfl (lv_at hl 0 rfl) ?_
  refine xg_0_book C w k509 d_BH_wouldRing_23 ?_
  refine xg_14_now C w k344 d_BH_wouldRing_26 ?_
  refine lv_iconst (v := 0) hx hb d_BH_wouldRing_29 (by decide) ?_
  refine xl_15 C w (by decide) d_BH_wouldRing_30 ?_
  refine lv_icmp_lt (tgt := 38) hx hb d_BH_wouldRing_31 (by decide) (fun cd => ?_) (fun cd => ?_)
  · have hf := it_e cd hf
    refine lv_iconst (v := 0) hx hb d_BH_wouldRing_38 (by decide) ?_
    cases some_e hf
    exact k_zret C w (by decide) d_BH_wouldRing_39
  · have hf := if_e cd hf
    refine lv_iconst (v := 1) hx hb d_BH_wouldRing_34 (by decide) ?_
    refine lv_goto (tgt := 39) hx hb d_BH_wouldRing_35 (by decide) ?_
    cases some_e hf
    exact k_zret C w (by decide) d_BH_wouldRing_39
set_option maxHeartbeats 4000000 in
set_option maxRecDepth 20000 in
theorem c_BH_wouldRing {l : Launch} {g : GX} {q : Nat → Nat} {x1 : Int32} {x2 : Int32} {x3 : Int32}  {σ : St} {r : Int32} (hf : f_BH_wouldRing  x1 x2 x3 σ = some r) : KK l y_BH_wouldRing prog_1_method_40_code 4 (some .boolean) 1 g (wX g q) σ [.ref (q 0), .int x1, .int x2, .int x3] (some (.int r)) (wX g q) σ := by
  refine KK_of (plainFor_of_name (by decide)) (Nat.le_of_ble_eq_true rfl) (fun p e s m below meth c A ls C w hl => ?_)
  have hl : lv_has ls 4 [(0, .ref (q 0)), (1, .int x1), (2, .int x2), (3, .int x3)] := hl
  obtain ⟨hx, hb, hml, hown, hts, hK, hA, hZ, hlocks, hr, hN⟩ := id C
  unfold f_BH_wouldRing at hf
  refine lv_iload_n hx hb d_BH_wouldRing_0 rfl (lv_at hl 1 rfl) ?_
  refine lv_iload_n hx hb d_BH_wouldRing_1 rfl (lv_at hl 2 rfl) ?_
  refine lv_iload_n hx hb d_BH_wouldRing_2 rfl (lv_at hl 3 rfl) ?_
  refine lv_if_eq (tgt := 18) hx hb d_BH_wouldRing_3 (by decide) (fun cd => ?_) (fun cd => ?_)
  · have hf := it_e cd hf
    refine lv_iconst (v := 0) hx hb d_BH_wouldRing_18 (by decide) ?_
    exact t_BH_wouldRing_19 C  hf w (lv_sub hl [0] rfl)
  · have hf := if_e cd hf
    refine lv_aload_n hx hb d_BH_wouldRing_6 rfl (lv_at hl 0 rfl) ?_
    refine xg_0_book C w k509 d_BH_wouldRing_7 ?_
    refine xg_14_now C w k344 d_BH_wouldRing_10 ?_
    refine lv_iconst (v := 1) hx hb d_BH_wouldRing_13 (by decide) ?_
    refine xl_15 C w (by decide) d_BH_wouldRing_14 ?_
    refine lv_goto (tgt := 19) hx hb d_BH_wouldRing_15 (by decide) ?_
    exact t_BH_wouldRing_19 C  hf w (lv_sub hl [0] rfl)
def f_BH_hard_11b (k11 : Int32 → Int32 → Int32 → St → Option (Int32)) (x1 : Int32) (x2 : Int32) (x3 : Int32) (σ : St) : Option (Int32) :=
  if 99 < x3 then
    some (-1)
  else
    bp (f_BH_wouldRing x3 x1 x2 σ) fun r_2 =>
    if r_2 = 0 then
      lt ((x3 + 1)) fun x_3 =>
      k11 x1 x2 x_3 σ
    else
      some x3
def f_BH_hard_11 : Nat → Int32 → Int32 → Int32 → St → Option (Int32)
  | 0 => fun _ _ _ _ => none
  | n + 1 => f_BH_hard_11b   (f_BH_hard_11   n)
def f_BH_hard (x1 : Int32) (x2 : Int32) (σ : St) : Option (Int32) :=
  bp (f_BH_isOff x1 σ) fun r_2 =>
  if r_2 = 0 then
    some (-1)
  else
    f_BH_hard_11 FU x1 x2 1 σ
set_option maxHeartbeats 4000000 in
set_option maxRecDepth 20000 in
theorem t_BH_hard_11b {r : Int32} {σ : St} (C : Cx g A p s m av meth c prog_1_method_12_code 4 "BellHammer" (some .int)) {k11 : Int32 → Int32 → Int32 → St → Option (Int32)} (hk11 : ∀ (x1 : Int32) (x2 : Int32) (x3 : Int32) (H : Heap) (locs : List Loc) (ls : Array Slot), k11 x1 x2 x3 σ = some r → Wd g (wX g q) A s σ H locs → lv_has ls 4 [(0, .ref (q 0)), (1, .int x1), (2, .int x2), (3, .int x3)] → WK p l e s m av below meth c 2 g (wX g q) A (some (.int r)) σ H locs (F0 m 11 ls []))  {x1 : Int32} {x2 : Int32} {x3 : Int32} {H : Heap} {locs : List Loc} {ls : Array Slot} (hf : f_BH_hard_11b  k11 x1 x2 x3 σ = some r) (w : Wd g (wX g q) A s σ H locs) (hl : lv_has ls 4 [(0, .ref (q 0)), (1, .int x1), (2, .int x2), (3, .int x3)]) : WK p l e s m av below meth c 2 g (wX g q) A (some (.int r)) σ H locs (F0 m 11 ls []) := by
  obtain ⟨hx, hb, hml, hown, hts, hK, hA, hZ, hlocks, hr, hN⟩ := id C
  unfold f_BH_hard_11b at hf
  refine lv_iload_n hx hb d_BH_hard_11 rfl (lv_at hl 3 rfl) ?_
  refine lv_bipush (v := 99) hx hb d_BH_hard_12 (by decide) ?_
  refine lv_icmp_gt (tgt := 35) hx hb d_BH_hard_14 (by decide) (fun cd => ?_) (fun cd => ?_)
  · have hf := it_e cd hf
    refine lv_iconst (v := (-1)) hx hb d_BH_hard_35 (by decide) ?_
    cases some_e hf
    exact k_iret C w d_BH_hard_36
  · have hf := if_e cd hf
    refine lv_aload_n hx hb d_BH_hard_17 rfl (lv_at hl 0 rfl) ?_
    refine lv_iload_n hx hb d_BH_hard_18 rfl (lv_at hl 3 rfl) ?_
    refine lv_iload_n hx hb d_BH_hard_19 rfl (lv_at hl 1 rfl) ?_
    refine lv_iload_n hx hb d_BH_hard_20 rfl (lv_at hl 2 rfl) ?_
    obtain ⟨r_2, h_1, hf⟩ := bp_e hf
    refine k_callV (As := [.int x3, .int x1, .int x2]) (rest := []) C w (c_BH_wouldRing (q := q) h_1) cv_BH_wouldRing k791 (xr_0 C w) (by decide) hl.1 rfl (Nat.le_of_ble_eq_true rfl) d_BH_hard_21 (fun H locs w => ?_)
    show WK p l e s m av below meth c 2 g (wX g q) A (some (.int r)) σ H locs (F0 m 24 ls [.int r_2])
    refine lv_if_eq (tgt := 29) hx hb d_BH_hard_24 (by decide) (fun cd => ?_) (fun cd => ?_)
    · have hf := it_e cd hf
      obtain ⟨x_3, ex_3⟩ : ∃ y : Int32, y = (x3 + 1) := ⟨_, rfl⟩
      have hf := lt_e ex_3 hf
      refine lv_iinc (v := x_3) (lv' := [(3, .int x_3), (0, .ref (q 0)), (1, .int x1), (2, .int x2)]) hx hb d_BH_hard_29 hl (k := 3) rfl (by rw [ex_3]; rfl) (by decide) rfl (fun ls hl => ?_)
      refine lv_goto (tgt := 11) hx hb d_BH_hard_32 (by decide) ?_
      exact hk11 x1 x2 x_3  _ _ _ hf w (lv_sub hl [1, 2, 3, 0] rfl)
    · have hf := if_e cd hf
      refine lv_iload_n hx hb d_BH_hard_27 rfl (lv_at hl 3 rfl) ?_
      cases some_e hf
      exact k_iret C w d_BH_hard_28
set_option maxHeartbeats 4000000 in
set_option maxRecDepth 20000 in
theorem t_BH_hard_11 {r : Int32} {σ : St} (C : Cx g A p s m av meth c prog_1_method_12_code 4 "BellHammer" (some .int))  : ∀ (n : Nat) (x1 : Int32) (x2 : Int32) (x3 : Int32) (H : Heap) (locs : List Loc) (ls : Array Slot), f_BH_hard_11   n x1 x2 x3 σ = some r → Wd g (wX g q) A s σ H locs → lv_has ls 4 [(0, .ref (q 0)), (1, .int x1), (2, .int x2), (3, .int x3)] → WK p l e s m av below meth c 2 g (wX g q) A (some (.int r)) σ H locs (F0 m 11 ls []) := by
  intro n
  induction n with
  | zero => intro x1 x2 x3 H locs ls hf; exact absurd hf (by intro z; cases z)
  | succ n ih => intro x1 x2 x3 H locs ls hf w hl; exact t_BH_hard_11b C  ih hf w hl
set_option maxHeartbeats 4000000 in
set_option maxRecDepth 20000 in
theorem c_BH_hard {l : Launch} {g : GX} {q : Nat → Nat} {x1 : Int32} {x2 : Int32}  {σ : St} {r : Int32} (hf : f_BH_hard  x1 x2 σ = some r) : KK l y_BH_hard prog_1_method_12_code 4 (some .int) 2 g (wX g q) σ [.ref (q 0), .int x1, .int x2] (some (.int r)) (wX g q) σ := by
  refine KK_of (plainFor_of_name (by decide)) (Nat.le_of_ble_eq_true rfl) (fun p e s m below meth c A ls C w hl => ?_)
  have hl : lv_has ls 4 [(0, .ref (q 0)), (1, .int x1), (2, .int x2)] := hl
  obtain ⟨hx, hb, hml, hown, hts, hK, hA, hZ, hlocks, hr, hN⟩ := id C
  unfold f_BH_hard at hf
  refine lv_iload_n hx hb d_BH_hard_0 rfl (lv_at hl 1 rfl) ?_
  obtain ⟨r_2, h_1, hf⟩ := bp_e hf
  refine k_callS (As := [.int x1]) (rest := []) C w (c_BH_isOff (q := q) h_1) cv_BH_isOff k764 (by decide) hl.1 rfl (Nat.le_of_ble_eq_true rfl) d_BH_hard_1 (fun H locs w => ?_)
  show WK p l e s m _ below meth c 2 g (wX g q) A (some (.int r)) σ H locs (F0 m 4 ls [.int r_2])
  refine lv_if_ne (tgt := 9) hx hb d_BH_hard_4 (by decide) (fun cd => ?_) (fun cd => ?_)
  · have hf := if_e cd hf
    refine lv_iconst (v := 1) hx hb d_BH_hard_9 (by decide) ?_
    refine lv_istore_n (lv' := [(3, .int 1), (0, .ref (q 0)), (1, .int x1), (2, .int x2)]) hx hb d_BH_hard_10 rfl hl (by decide) rfl (fun ls hl => ?_)
    exact t_BH_hard_11 C  FU x1 x2 1  _ _ _ hf w (lv_sub hl [1, 2, 3, 0] rfl)
  · have hf := it_e cd hf
    refine lv_iconst (v := (-1)) hx hb d_BH_hard_7 (by decide) ?_
    cases some_e hf
    exact k_iret C w d_BH_hard_8
def f_BH_wide_16b (k16 : Int32 → Int32 → Int32 → St → Option (Int32)) (x1 : Int32) (x2 : Int32) (x3 : Int32) (σ : St) : Option (Int32) :=
  if x3 < 0 then
    some (-1)
  else
    bp (f_BH_wouldRing x1 x3 x2 σ) fun r_2 =>
    if r_2 = 0 then
      lt ((x3 + (-1))) fun x_3 =>
      k16 x1 x2 x_3 σ
    else
      some x3
def f_BH_wide_16 : Nat → Int32 → Int32 → Int32 → St → Option (Int32)
  | 0 => fun _ _ _ _ => none
  | n + 1 => f_BH_wide_16b   (f_BH_wide_16   n)
def f_BH_wide (x1 : Int32) (x2 : Int32) (σ : St) : Option (Int32) :=
  if x1 < 1 then
    some (-1)
  else
    if x1 ≤ 99 then
      f_BH_wide_16 FU x1 x2 9 σ
    else
      some (-1)
set_option maxHeartbeats 4000000 in
set_option maxRecDepth 20000 in
theorem t_BH_wide_16b {r : Int32} {σ : St} (C : Cx g A p s m av meth c prog_1_method_13_code 4 "BellHammer" (some .int)) {k16 : Int32 → Int32 → Int32 → St → Option (Int32)} (hk16 : ∀ (x1 : Int32) (x2 : Int32) (x3 : Int32) (H : Heap) (locs : List Loc) (ls : Array Slot), k16 x1 x2 x3 σ = some r → Wd g (wX g q) A s σ H locs → lv_has ls 4 [(0, .ref (q 0)), (1, .int x1), (2, .int x2), (3, .int x3)] → WK p l e s m av below meth c 2 g (wX g q) A (some (.int r)) σ H locs (F0 m 16 ls []))  {x1 : Int32} {x2 : Int32} {x3 : Int32} {H : Heap} {locs : List Loc} {ls : Array Slot} (hf : f_BH_wide_16b  k16 x1 x2 x3 σ = some r) (w : Wd g (wX g q) A s σ H locs) (hl : lv_has ls 4 [(0, .ref (q 0)), (1, .int x1), (2, .int x2), (3, .int x3)]) : WK p l e s m av below meth c 2 g (wX g q) A (some (.int r)) σ H locs (F0 m 16 ls []) := by
  obtain ⟨hx, hb, hml, hown, hts, hK, hA, hZ, hlocks, hr, hN⟩ := id C
  unfold f_BH_wide_16b at hf
  refine lv_iload_n hx hb d_BH_wide_16 rfl (lv_at hl 3 rfl) ?_
  refine lv_if_lt (tgt := 38) hx hb d_BH_wide_17 (by decide) (fun cd => ?_) (fun cd => ?_)
  · have hf := it_e cd hf
    refine lv_iconst (v := (-1)) hx hb d_BH_wide_38 (by decide) ?_
    cases some_e hf
    exact k_iret C w d_BH_wide_39
  · have hf := if_e cd hf
    refine lv_aload_n hx hb d_BH_wide_20 rfl (lv_at hl 0 rfl) ?_
    refine lv_iload_n hx hb d_BH_wide_21 rfl (lv_at hl 1 rfl) ?_
    refine lv_iload_n hx hb d_BH_wide_22 rfl (lv_at hl 3 rfl) ?_
    refine lv_iload_n hx hb d_BH_wide_23 rfl (lv_at hl 2 rfl) ?_
    obtain ⟨r_2, h_1, hf⟩ := bp_e hf
    refine k_callV (As := [.int x1, .int x3, .int x2]) (rest := []) C w (c_BH_wouldRing (q := q) h_1) cv_BH_wouldRing k791 (xr_0 C w) (by decide) hl.1 rfl (Nat.le_of_ble_eq_true rfl) d_BH_wide_24 (fun H locs w => ?_)
    show WK p l e s m av below meth c 2 g (wX g q) A (some (.int r)) σ H locs (F0 m 27 ls [.int r_2])
    refine lv_if_eq (tgt := 32) hx hb d_BH_wide_27 (by decide) (fun cd => ?_) (fun cd => ?_)
    · have hf := it_e cd hf
      obtain ⟨x_3, ex_3⟩ : ∃ y : Int32, y = (x3 + (-1)) := ⟨_, rfl⟩
      have hf := lt_e ex_3 hf
      refine lv_iinc (v := x_3) (lv' := [(3, .int x_3), (0, .ref (q 0)), (1, .int x1), (2, .int x2)]) hx hb d_BH_wide_32 hl (k := 3) rfl (by rw [ex_3]; rfl) (by decide) rfl (fun ls hl => ?_)
      refine lv_goto (tgt := 16) hx hb d_BH_wide_35 (by decide) ?_
      exact hk16 x1 x2 x_3  _ _ _ hf w (lv_sub hl [1, 2, 3, 0] rfl)
    · have hf := if_e cd hf
      refine lv_iload_n hx hb d_BH_wide_30 rfl (lv_at hl 3 rfl) ?_
      cases some_e hf
      exact k_iret C w d_BH_wide_31
set_option maxHeartbeats 4000000 in
set_option maxRecDepth 20000 in
theorem t_BH_wide_16 {r : Int32} {σ : St} (C : Cx g A p s m av meth c prog_1_method_13_code 4 "BellHammer" (some .int))  : ∀ (n : Nat) (x1 : Int32) (x2 : Int32) (x3 : Int32) (H : Heap) (locs : List Loc) (ls : Array Slot), f_BH_wide_16   n x1 x2 x3 σ = some r → Wd g (wX g q) A s σ H locs → lv_has ls 4 [(0, .ref (q 0)), (1, .int x1), (2, .int x2), (3, .int x3)] → WK p l e s m av below meth c 2 g (wX g q) A (some (.int r)) σ H locs (F0 m 16 ls []) := by
  intro n
  induction n with
  | zero => intro x1 x2 x3 H locs ls hf; exact absurd hf (by intro z; cases z)
  | succ n ih => intro x1 x2 x3 H locs ls hf w hl; exact t_BH_wide_16b C  ih hf w hl
set_option maxHeartbeats 4000000 in
set_option maxRecDepth 20000 in
theorem c_BH_wide {l : Launch} {g : GX} {q : Nat → Nat} {x1 : Int32} {x2 : Int32}  {σ : St} {r : Int32} (hf : f_BH_wide  x1 x2 σ = some r) : KK l y_BH_wide prog_1_method_13_code 4 (some .int) 2 g (wX g q) σ [.ref (q 0), .int x1, .int x2] (some (.int r)) (wX g q) σ := by
  refine KK_of (plainFor_of_name (by decide)) (Nat.le_of_ble_eq_true rfl) (fun p e s m below meth c A ls C w hl => ?_)
  have hl : lv_has ls 4 [(0, .ref (q 0)), (1, .int x1), (2, .int x2)] := hl
  obtain ⟨hx, hb, hml, hown, hts, hK, hA, hZ, hlocks, hr, hN⟩ := id C
  unfold f_BH_wide at hf
  refine lv_iload_n hx hb d_BH_wide_0 rfl (lv_at hl 1 rfl) ?_
  refine lv_iconst (v := 1) hx hb d_BH_wide_1 (by decide) ?_
  refine lv_icmp_lt (tgt := 11) hx hb d_BH_wide_2 (by decide) (fun cd => ?_) (fun cd => ?_)
  · have hf := it_e cd hf
    refine lv_iconst (v := (-1)) hx hb d_BH_wide_11 (by decide) ?_
    cases some_e hf
    exact k_iret C w d_BH_wide_12
  · have hf := if_e cd hf
    refine lv_iload_n hx hb d_BH_wide_5 rfl (lv_at hl 1 rfl) ?_
    refine lv_bipush (v := 99) hx hb d_BH_wide_6 (by decide) ?_
    refine lv_icmp_le (tgt := 13) hx hb d_BH_wide_8 (by decide) (fun cd => ?_) (fun cd => ?_)
    · have hf := it_e cd hf
      refine lv_bipush (v := 9) hx hb d_BH_wide_13 (by decide) ?_
      refine lv_istore_n (lv' := [(3, .int 9), (0, .ref (q 0)), (1, .int x1), (2, .int x2)]) hx hb d_BH_wide_15 rfl hl (by decide) rfl (fun ls hl => ?_)
      exact t_BH_wide_16 C  FU x1 x2 9  _ _ _ hf w (lv_sub hl [1, 2, 3, 0] rfl)
    · have hf := if_e cd hf
      refine lv_iconst (v := (-1)) hx hb d_BH_wide_11 (by decide) ?_
      cases some_e hf
      exact k_iret C w d_BH_wide_12
def f_Showman_look (x1 : Int32) (x2 : Int32) (x3 : Int32) (x4 : Int32) (σ : St) : Option (St) :=
  lt (uA σ 14 (upd (sA σ 14) (0 : Int32).toNatClampNeg x1)) fun σ_1 =>
  lt (uA σ_1 14 (upd (sA σ_1 14) (1 : Int32).toNatClampNeg x2)) fun σ_2 =>
  lt (uA σ_2 14 (upd (sA σ_2 14) (2 : Int32).toNatClampNeg x3)) fun σ_3 =>
  lt (uA σ_3 14 (upd (sA σ_3 14) (4 : Int32).toNatClampNeg x4)) fun σ_4 =>
  some σ_4
set_option maxHeartbeats 4000000 in
set_option maxRecDepth 20000 in
theorem c_Showman_look {l : Launch} {g : GX} {q : Nat → Nat} {x1 : Int32} {x2 : Int32} {x3 : Int32} {x4 : Int32}  {σ : St} {σ2 : St} (hf : f_Showman_look  x1 x2 x3 x4 σ = some σ2) : KK l y_Showman_look prog_7_method_2_code 5 none 0 g (wX g q) σ [.ref (q 20), .int x1, .int x2, .int x3, .int x4] none (wX g q) σ2 := by
  refine KK_of (plainFor_of_name (by decide)) (Nat.le_of_ble_eq_true rfl) (fun p e s m below meth c A ls C w hl => ?_)
  have hl : lv_has ls 5 [(0, .ref (q 20)), (1, .int x1), (2, .int x2), (3, .int x3), (4, .int x4)] := hl
  obtain ⟨hx, hb, hml, hown, hts, hK, hA, hZ, hlocks, hr, hN⟩ := id C
  unfold f_Showman_look at hf
  refine lv_aload_n hx hb d_Showman_look_0 rfl (lv_at hl 0 rfl) ?_
  refine xg_20_facts C w k391 d_Showman_look_1 ?_
  refine lv_iconst (v := 0) hx hb d_Showman_look_4 (by decide) ?_
  refine lv_iload_n hx hb d_Showman_look_5 rfl (lv_at hl 1 rfl) ?_
  refine xs_21 C w (by decide) d_Showman_look_6 (fun σ_1 H locs eσ_1 w => ?_)
  have hf := lt_e eσ_1 hf
  refine lv_aload_n hx hb d_Showman_look_7 rfl (lv_at hl 0 rfl) ?_
  refine xg_20_facts C w k391 d_Showman_look_8 ?_
  refine lv_iconst (v := 1) hx hb d_Showman_look_11 (by decide) ?_
  refine lv_iload_n hx hb d_Showman_look_12 rfl (lv_at hl 2 rfl) ?_
  refine xs_21 C w (by decide) d_Showman_look_13 (fun σ_2 H locs eσ_2 w => ?_)
  have hf := lt_e eσ_2 hf
  refine lv_aload_n hx hb d_Showman_look_14 rfl (lv_at hl 0 rfl) ?_
  refine xg_20_facts C w k391 d_Showman_look_15 ?_
  refine lv_iconst (v := 2) hx hb d_Showman_look_18 (by decide) ?_
  refine lv_iload_n hx hb d_Showman_look_19 rfl (lv_at hl 3 rfl) ?_
  refine xs_21 C w (by decide) d_Showman_look_20 (fun σ_3 H locs eσ_3 w => ?_)
  have hf := lt_e eσ_3 hf
  refine lv_aload_n hx hb d_Showman_look_21 rfl (lv_at hl 0 rfl) ?_
  refine xg_20_facts C w k391 d_Showman_look_22 ?_
  refine lv_iconst (v := 4) hx hb d_Showman_look_25 (by decide) ?_
  refine lv_iload hx hb d_Showman_look_26 (lv_at hl 4 rfl) ?_
  refine xs_21 C w (by decide) d_Showman_look_28 (fun σ_4 H locs eσ_4 w => ?_)
  have hf := lt_e eσ_4 hf
  cases some_e hf
  exact k_vret C w d_Showman_look_29
def f_Showman_lookAt (x1 : Int32) (x2 : Int32) (σ : St) : Option (St) :=
  lt (uA σ 14 (upd (sA σ 14) (3 : Int32).toNatClampNeg x1)) fun σ_1 =>
  lt (uA σ_1 14 (upd (sA σ_1 14) (5 : Int32).toNatClampNeg x2)) fun σ_2 =>
  some σ_2
set_option maxHeartbeats 4000000 in
set_option maxRecDepth 20000 in
theorem c_Showman_lookAt {l : Launch} {g : GX} {q : Nat → Nat} {x1 : Int32} {x2 : Int32}  {σ : St} {σ2 : St} (hf : f_Showman_lookAt  x1 x2 σ = some σ2) : KK l y_Showman_lookAt prog_7_method_3_code 3 none 0 g (wX g q) σ [.ref (q 20), .int x1, .int x2] none (wX g q) σ2 := by
  refine KK_of (plainFor_of_name (by decide)) (Nat.le_of_ble_eq_true rfl) (fun p e s m below meth c A ls C w hl => ?_)
  have hl : lv_has ls 3 [(0, .ref (q 20)), (1, .int x1), (2, .int x2)] := hl
  obtain ⟨hx, hb, hml, hown, hts, hK, hA, hZ, hlocks, hr, hN⟩ := id C
  unfold f_Showman_lookAt at hf
  refine lv_aload_n hx hb d_Showman_lookAt_0 rfl (lv_at hl 0 rfl) ?_
  refine xg_20_facts C w k391 d_Showman_lookAt_1 ?_
  refine lv_iconst (v := 3) hx hb d_Showman_lookAt_4 (by decide) ?_
  refine lv_iload_n hx hb d_Showman_lookAt_5 rfl (lv_at hl 1 rfl) ?_
  refine xs_21 C w (by decide) d_Showman_lookAt_6 (fun σ_1 H locs eσ_1 w => ?_)
  have hf := lt_e eσ_1 hf
  refine lv_aload_n hx hb d_Showman_lookAt_7 rfl (lv_at hl 0 rfl) ?_
  refine xg_20_facts C w k391 d_Showman_lookAt_8 ?_
  refine lv_iconst (v := 5) hx hb d_Showman_lookAt_11 (by decide) ?_
  refine lv_iload_n hx hb d_Showman_lookAt_12 rfl (lv_at hl 2 rfl) ?_
  refine xs_21 C w (by decide) d_Showman_lookAt_13 (fun σ_2 H locs eσ_2 w => ?_)
  have hf := lt_e eσ_2 hf
  cases some_e hf
  exact k_vret C w d_Showman_lookAt_14
def f_Showman_reckon_29 (t0 : Int64) (σ : St) : Option (Int32) :=
  if (lg_cmp t0 1000000) ≤ 0 then
    if 0 ≤ (lg_cmp t0 (-1000000)) then
      some (t0).toInt32
    else
      some ((-1000000)).toInt32
  else
    some (1000000).toInt32
def f_Showman_reckon (x0 : Int32) (x1 : Int64) (x3 : Int64) (σ : St) : Option (Int32) :=
  if x0 = 10016 then
    f_Showman_reckon_29 (x1 + x3) σ
  else
    if x0 = 10017 then
      f_Showman_reckon_29 (x1 - x3) σ
    else
      f_Showman_reckon_29 (x1 * x3) σ
set_option maxHeartbeats 4000000 in
set_option maxRecDepth 20000 in
theorem t_Showman_reckon_29 {r : Int32} {σ : St} (C : Cx g A p s m av meth c prog_7_method_8_code 7 "BellHammer$Showman" (some .int))  {t0 : Int64} {H : Heap} {locs : List Loc} {ls : Array Slot} (hf : f_Showman_reckon_29   t0 σ = some r) (w : Wd g (wX g q) A s σ H locs) (hl : lv_has ls 7 []) : WK p l e s m av below meth c 0 g (wX g q) A (some (.int r)) σ H locs (F0 m 29 ls [.long t0]) := by
  obtain ⟨hx, hb, hml, hown, hts, hK, hA, hZ, hlocks, hr, hN⟩ := id C
  unfold f_Showman_reckon_29 at hf
  refine lv_lstore (lv' := [(5, .long t0)]) hx hb d_Showman_reckon_29 hl (by decide) rfl (fun ls hl => ?_)
  refine lv_lload hx hb d_Showman_reckon_31 (lv_at hl 0 rfl) ?_
  refine lv_ldc2 (v := 1000000) hx hb hown (hts _ k835) d_Showman_reckon_33 ?_
  refine W.lcmp hx hb d_Showman_reckon_36 ?_
  refine lv_if_le (tgt := 46) hx hb d_Showman_reckon_37 (by decide) (fun cd => ?_) (fun cd => ?_)
  · have hf := it_e cd hf
    refine lv_lload hx hb d_Showman_reckon_46 (lv_at hl 0 rfl) ?_
    refine lv_ldc2 (v := (-1000000)) hx hb hown (hts _ k836) d_Showman_reckon_48 ?_
    refine W.lcmp hx hb d_Showman_reckon_51 ?_
    refine lv_if_ge (tgt := 61) hx hb d_Showman_reckon_52 (by decide) (fun cd => ?_) (fun cd => ?_)
    · have hf := it_e cd hf
      refine lv_lload hx hb d_Showman_reckon_61 (lv_at hl 0 rfl) ?_
      refine lv_l2i hx hb d_Showman_reckon_63 rfl ?_
      cases some_e hf
      exact k_iret C w d_Showman_reckon_64
    · have hf := if_e cd hf
      refine lv_ldc2 (v := (-1000000)) hx hb hown (hts _ k836) d_Showman_reckon_55 ?_
      refine lv_goto (tgt := 63) hx hb d_Showman_reckon_58 (by decide) ?_
      refine lv_l2i hx hb d_Showman_reckon_63 rfl ?_
      cases some_e hf
      exact k_iret C w d_Showman_reckon_64
  · have hf := if_e cd hf
    refine lv_ldc2 (v := 1000000) hx hb hown (hts _ k835) d_Showman_reckon_40 ?_
    refine lv_goto (tgt := 63) hx hb d_Showman_reckon_43 (by decide) ?_
    refine lv_l2i hx hb d_Showman_reckon_63 rfl ?_
    cases some_e hf
    exact k_iret C w d_Showman_reckon_64
set_option maxHeartbeats 4000000 in
set_option maxRecDepth 20000 in
theorem c_Showman_reckon {l : Launch} {g : GX} {q : Nat → Nat} {x0 : Int32} {x1 : Int64} {x3 : Int64}  {σ : St} {r : Int32} (hf : f_Showman_reckon  x0 x1 x3 σ = some r) : KK l y_Showman_reckon prog_7_method_8_code 7 (some .int) 0 g (wX g q) σ [.int x0, .long x1, .long x3] (some (.int r)) (wX g q) σ := by
  refine KK_of (plainFor_of_name (by decide)) (Nat.le_of_ble_eq_true rfl) (fun p e s m below meth c A ls C w hl => ?_)
  have hl : lv_has ls 7 [(0, .int x0), (1, .long x1), (3, .long x3)] := hl
  obtain ⟨hx, hb, hml, hown, hts, hK, hA, hZ, hlocks, hr, hN⟩ := id C
  unfold f_Showman_reckon at hf
  refine lv_iload_n hx hb d_Showman_reckon_0 rfl (lv_at hl 0 rfl) ?_
  refine lv_sipush (v := 10016) hx hb d_Showman_reckon_1 (by decide) ?_
  refine lv_icmp_ne (tgt := 13) hx hb d_Showman_reckon_4 (by decide) (fun cd => ?_) (fun cd => ?_)
  · have hf := if_e cd hf
    refine lv_iload_n hx hb d_Showman_reckon_13 rfl (lv_at hl 0 rfl) ?_
    refine lv_sipush (v := 10017) hx hb d_Showman_reckon_14 (by decide) ?_
    refine lv_icmp_ne (tgt := 26) hx hb d_Showman_reckon_17 (by decide) (fun cd => ?_) (fun cd => ?_)
    · have hf := if_e cd hf
      refine lv_lload_n hx hb d_Showman_reckon_26 rfl (lv_at hl 1 rfl) ?_
      refine lv_lload_n hx hb d_Showman_reckon_27 rfl (lv_at hl 2 rfl) ?_
      refine lv_lmul hx hb d_Showman_reckon_28 ?_
      exact t_Showman_reckon_29 C  hf w (lv_sub hl [] rfl)
    · have hf := it_e cd hf
      refine lv_lload_n hx hb d_Showman_reckon_20 rfl (lv_at hl 1 rfl) ?_
      refine lv_lload_n hx hb d_Showman_reckon_21 rfl (lv_at hl 2 rfl) ?_
      refine lv_lsub hx hb d_Showman_reckon_22 ?_
      refine lv_goto (tgt := 29) hx hb d_Showman_reckon_23 (by decide) ?_
      exact t_Showman_reckon_29 C  hf w (lv_sub hl [] rfl)
  · have hf := it_e cd hf
    refine lv_lload_n hx hb d_Showman_reckon_7 rfl (lv_at hl 1 rfl) ?_
    refine lv_lload_n hx hb d_Showman_reckon_8 rfl (lv_at hl 2 rfl) ?_
    refine lv_ladd hx hb d_Showman_reckon_9 ?_
    refine lv_goto (tgt := 29) hx hb d_Showman_reckon_10 (by decide) ?_
    exact t_Showman_reckon_29 C  hf w (lv_sub hl [] rfl)
def f_Math_floorDiv (x0 : Int32) (x1 : Int32) (σ : St) : Option (Int32) :=
  gd (nz x1) <|
  lt ((x0 / x1)) fun x_2 =>
  if 0 ≤ (x0 ^^^ x1) then
    some x_2
  else
    if (x_2 * x1) = x0 then
      some x_2
    else
      some (x_2 - 1)
set_option maxHeartbeats 4000000 in
set_option maxRecDepth 20000 in
theorem c_Math_floorDiv {l : Launch} {g : GX} {q : Nat → Nat} {x0 : Int32} {x1 : Int32}  {σ : St} {r : Int32} (hf : f_Math_floorDiv  x0 x1 σ = some r) : KK l y_Math_floorDiv prog_14_method_47_code 3 (some .int) 0 g (wX g q) σ [.int x0, .int x1] (some (.int r)) (wX g q) σ := by
  refine KK_of (by decide +kernel) (Nat.le_of_ble_eq_true rfl) (fun p e s m below meth c A ls C w hl => ?_)
  have hl : lv_has ls 3 [(0, .int x0), (1, .int x1)] := hl
  obtain ⟨hx, hb, hml, hown, hts, hK, hA, hZ, hlocks, hr, hN⟩ := id C
  unfold f_Math_floorDiv at hf
  refine lv_iload_n hx hb d_Math_floorDiv_0 rfl (lv_at hl 0 rfl) ?_
  refine lv_iload_n hx hb d_Math_floorDiv_1 rfl (lv_at hl 1 rfl) ?_
  obtain ⟨g_1, hf⟩ := gd_e hf
  refine lv_idiv hx hb d_Math_floorDiv_2 (nz_e g_1) ?_
  refine lv_topi (fun x_2 ex_2 => ?_)
  have hf := lt_e ex_2 hf
  refine lv_istore_n (lv' := [(2, .int x_2), (0, .int x0), (1, .int x1)]) hx hb d_Math_floorDiv_3 rfl hl (by decide) rfl (fun ls hl => ?_)
  refine lv_iload_n hx hb d_Math_floorDiv_4 rfl (lv_at hl 1 rfl) ?_
  refine lv_iload_n hx hb d_Math_floorDiv_5 rfl (lv_at hl 2 rfl) ?_
  refine lv_ixor hx hb d_Math_floorDiv_6 ?_
  refine lv_if_ge (tgt := 21) hx hb d_Math_floorDiv_7 (by decide) (fun cd => ?_) (fun cd => ?_)
  · have hf := it_e cd hf
    refine lv_iload_n hx hb d_Math_floorDiv_21 rfl (lv_at hl 0 rfl) ?_
    cases some_e hf
    exact k_iret C w d_Math_floorDiv_22
  · have hf := if_e cd hf
    refine lv_iload_n hx hb d_Math_floorDiv_10 rfl (lv_at hl 0 rfl) ?_
    refine lv_iload_n hx hb d_Math_floorDiv_11 rfl (lv_at hl 2 rfl) ?_
    refine lv_imul hx hb d_Math_floorDiv_12 ?_
    refine lv_iload_n hx hb d_Math_floorDiv_13 rfl (lv_at hl 1 rfl) ?_
    refine lv_icmp_eq (tgt := 21) hx hb d_Math_floorDiv_14 (by decide) (fun cd => ?_) (fun cd => ?_)
    · have hf := it_e cd hf
      refine lv_iload_n hx hb d_Math_floorDiv_21 rfl (lv_at hl 0 rfl) ?_
      cases some_e hf
      exact k_iret C w d_Math_floorDiv_22
    · have hf := if_e cd hf
      refine lv_iload_n hx hb d_Math_floorDiv_17 rfl (lv_at hl 0 rfl) ?_
      refine lv_iconst (v := 1) hx hb d_Math_floorDiv_18 (by decide) ?_
      refine lv_isub hx hb d_Math_floorDiv_19 ?_
      cases some_e hf
      exact k_iret C w d_Math_floorDiv_20
