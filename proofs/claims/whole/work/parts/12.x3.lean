variable {p : Program} {l : Launch} {e : Env} {s : State} {m : MethodId} {av : Array Value} {below : List Frame} {meth : Method} {c : Code} {g : GX} {q : Nat → Nat} {A : Nat → Prop}
theorem d_Book_toldBlows_0 : decode prog_2_method_10_code 0 = .ok (.bipush 60, 2) := by decide +kernel
theorem d_Book_toldBlows_2 : decode prog_2_method_10_code 2 = .ok (.aload_n 0, 1) := by decide +kernel
theorem d_Book_toldBlows_3 : decode prog_2_method_10_code 3 = .ok (.getfield 60, 3) := by decide +kernel
theorem d_Book_toldBlows_6 : decode prog_2_method_10_code 6 = .ok (.invokestatic 73, 3) := by decide +kernel
theorem d_Book_toldBlows_9 : decode prog_2_method_10_code 9 = .ok (.ireturn, 1) := by decide +kernel
theorem d_BH_has_0 : decode prog_1_method_6_code 0 = .ok (.iload_n 1, 1) := by decide +kernel
theorem d_BH_has_1 : decode prog_1_method_6_code 1 = .ok (.tableswitch 195 0 13 #[71, 79, 87, 95, 103, 113, 123, 133, 143, 153, 163, 171, 179, 187], 71) := by decide +kernel
theorem d_BH_has_72 : decode prog_1_method_6_code 72 = .ok (.aload_n 0, 1) := by decide +kernel
theorem d_BH_has_73 : decode prog_1_method_6_code 73 = .ok (.getfield 54, 3) := by decide +kernel
theorem d_BH_has_76 : decode prog_1_method_6_code 76 = .ok (.getfield 102, 3) := by decide +kernel
theorem d_BH_has_79 : decode prog_1_method_6_code 79 = .ok (.ireturn, 1) := by decide +kernel
theorem d_BH_has_80 : decode prog_1_method_6_code 80 = .ok (.aload_n 0, 1) := by decide +kernel
theorem d_BH_has_81 : decode prog_1_method_6_code 81 = .ok (.getfield 54, 3) := by decide +kernel
theorem d_BH_has_84 : decode prog_1_method_6_code 84 = .ok (.getfield 105, 3) := by decide +kernel
theorem d_BH_has_87 : decode prog_1_method_6_code 87 = .ok (.ireturn, 1) := by decide +kernel
theorem d_BH_has_88 : decode prog_1_method_6_code 88 = .ok (.aload_n 0, 1) := by decide +kernel
theorem d_BH_has_89 : decode prog_1_method_6_code 89 = .ok (.getfield 54, 3) := by decide +kernel
theorem d_BH_has_92 : decode prog_1_method_6_code 92 = .ok (.getfield 108, 3) := by decide +kernel
theorem d_BH_has_95 : decode prog_1_method_6_code 95 = .ok (.ireturn, 1) := by decide +kernel
theorem d_BH_has_96 : decode prog_1_method_6_code 96 = .ok (.aload_n 0, 1) := by decide +kernel
theorem d_BH_has_97 : decode prog_1_method_6_code 97 = .ok (.getfield 26, 3) := by decide +kernel
theorem d_BH_has_100 : decode prog_1_method_6_code 100 = .ok (.getfield 111, 3) := by decide +kernel
theorem d_BH_has_103 : decode prog_1_method_6_code 103 = .ok (.ireturn, 1) := by decide +kernel
theorem d_BH_has_104 : decode prog_1_method_6_code 104 = .ok (.aload_n 0, 1) := by decide +kernel
theorem d_BH_has_105 : decode prog_1_method_6_code 105 = .ok (.getfield 26, 3) := by decide +kernel
theorem d_BH_has_108 : decode prog_1_method_6_code 108 = .ok (.getfield 114, 3) := by decide +kernel
theorem d_BH_has_111 : decode prog_1_method_6_code 111 = .ok (.iconst 0, 1) := by decide +kernel
theorem d_BH_has_112 : decode prog_1_method_6_code 112 = .ok (.iaload, 1) := by decide +kernel
theorem d_BH_has_113 : decode prog_1_method_6_code 113 = .ok (.ireturn, 1) := by decide +kernel
theorem d_BH_has_114 : decode prog_1_method_6_code 114 = .ok (.aload_n 0, 1) := by decide +kernel
theorem d_BH_has_115 : decode prog_1_method_6_code 115 = .ok (.getfield 26, 3) := by decide +kernel
theorem d_BH_has_118 : decode prog_1_method_6_code 118 = .ok (.getfield 114, 3) := by decide +kernel
theorem d_BH_has_121 : decode prog_1_method_6_code 121 = .ok (.iconst 2, 1) := by decide +kernel
theorem d_BH_has_122 : decode prog_1_method_6_code 122 = .ok (.iaload, 1) := by decide +kernel
theorem d_BH_has_123 : decode prog_1_method_6_code 123 = .ok (.ireturn, 1) := by decide +kernel
theorem d_BH_has_124 : decode prog_1_method_6_code 124 = .ok (.aload_n 0, 1) := by decide +kernel
theorem d_BH_has_125 : decode prog_1_method_6_code 125 = .ok (.getfield 54, 3) := by decide +kernel
theorem d_BH_has_128 : decode prog_1_method_6_code 128 = .ok (.getfield 117, 3) := by decide +kernel
theorem d_BH_has_131 : decode prog_1_method_6_code 131 = .ok (.iconst 3, 1) := by decide +kernel
theorem d_BH_has_132 : decode prog_1_method_6_code 132 = .ok (.iaload, 1) := by decide +kernel
theorem d_BH_has_133 : decode prog_1_method_6_code 133 = .ok (.ireturn, 1) := by decide +kernel
theorem d_BH_has_134 : decode prog_1_method_6_code 134 = .ok (.aload_n 0, 1) := by decide +kernel
theorem d_BH_has_135 : decode prog_1_method_6_code 135 = .ok (.getfield 26, 3) := by decide +kernel
theorem d_BH_has_138 : decode prog_1_method_6_code 138 = .ok (.getfield 114, 3) := by decide +kernel
theorem d_BH_has_141 : decode prog_1_method_6_code 141 = .ok (.iconst 1, 1) := by decide +kernel
theorem d_BH_has_142 : decode prog_1_method_6_code 142 = .ok (.iaload, 1) := by decide +kernel
theorem d_BH_has_143 : decode prog_1_method_6_code 143 = .ok (.ireturn, 1) := by decide +kernel
theorem d_BH_has_144 : decode prog_1_method_6_code 144 = .ok (.aload_n 0, 1) := by decide +kernel
theorem d_BH_has_145 : decode prog_1_method_6_code 145 = .ok (.getfield 54, 3) := by decide +kernel
theorem d_BH_has_148 : decode prog_1_method_6_code 148 = .ok (.getfield 117, 3) := by decide +kernel
theorem d_BH_has_151 : decode prog_1_method_6_code 151 = .ok (.iconst 4, 1) := by decide +kernel
theorem d_BH_has_152 : decode prog_1_method_6_code 152 = .ok (.iaload, 1) := by decide +kernel
theorem d_BH_has_153 : decode prog_1_method_6_code 153 = .ok (.ireturn, 1) := by decide +kernel
theorem d_BH_has_154 : decode prog_1_method_6_code 154 = .ok (.aload_n 0, 1) := by decide +kernel
theorem d_BH_has_155 : decode prog_1_method_6_code 155 = .ok (.getfield 54, 3) := by decide +kernel
theorem d_BH_has_158 : decode prog_1_method_6_code 158 = .ok (.getfield 117, 3) := by decide +kernel
theorem d_BH_has_161 : decode prog_1_method_6_code 161 = .ok (.iconst 5, 1) := by decide +kernel
theorem d_BH_has_162 : decode prog_1_method_6_code 162 = .ok (.iaload, 1) := by decide +kernel
theorem d_BH_has_163 : decode prog_1_method_6_code 163 = .ok (.ireturn, 1) := by decide +kernel
theorem d_BH_has_164 : decode prog_1_method_6_code 164 = .ok (.aload_n 0, 1) := by decide +kernel
theorem d_BH_has_165 : decode prog_1_method_6_code 165 = .ok (.getfield 26, 3) := by decide +kernel
theorem d_BH_has_168 : decode prog_1_method_6_code 168 = .ok (.getfield 120, 3) := by decide +kernel
theorem d_BH_has_171 : decode prog_1_method_6_code 171 = .ok (.ireturn, 1) := by decide +kernel
theorem d_BH_has_172 : decode prog_1_method_6_code 172 = .ok (.aload_n 0, 1) := by decide +kernel
theorem d_BH_has_173 : decode prog_1_method_6_code 173 = .ok (.getfield 26, 3) := by decide +kernel
theorem d_BH_has_176 : decode prog_1_method_6_code 176 = .ok (.getfield 123, 3) := by decide +kernel
theorem d_BH_has_179 : decode prog_1_method_6_code 179 = .ok (.ireturn, 1) := by decide +kernel
theorem d_BH_has_180 : decode prog_1_method_6_code 180 = .ok (.aload_n 0, 1) := by decide +kernel
theorem d_BH_has_181 : decode prog_1_method_6_code 181 = .ok (.getfield 26, 3) := by decide +kernel
theorem d_BH_has_184 : decode prog_1_method_6_code 184 = .ok (.invokevirtual 126, 3) := by decide +kernel
theorem d_BH_has_187 : decode prog_1_method_6_code 187 = .ok (.ireturn, 1) := by decide +kernel
theorem d_BH_has_188 : decode prog_1_method_6_code 188 = .ok (.aload_n 0, 1) := by decide +kernel
theorem d_BH_has_189 : decode prog_1_method_6_code 189 = .ok (.getfield 26, 3) := by decide +kernel
theorem d_BH_has_192 : decode prog_1_method_6_code 192 = .ok (.getfield 130, 3) := by decide +kernel
theorem d_BH_has_195 : decode prog_1_method_6_code 195 = .ok (.ireturn, 1) := by decide +kernel
theorem d_BH_has_196 : decode prog_1_method_6_code 196 = .ok (.iconst (-1), 1) := by decide +kernel
theorem d_BH_has_197 : decode prog_1_method_6_code 197 = .ok (.ireturn, 1) := by decide +kernel
theorem d_BH_isTrier_0 : decode prog_1_method_36_code 0 = .ok (.iload_n 1, 1) := by decide +kernel
theorem d_BH_isTrier_1 : decode prog_1_method_36_code 1 = .ok (.ifCond .lt 18, 3) := by decide +kernel
theorem d_BH_isTrier_4 : decode prog_1_method_36_code 4 = .ok (.iload_n 1, 1) := by decide +kernel
theorem d_BH_isTrier_5 : decode prog_1_method_36_code 5 = .ok (.aload_n 0, 1) := by decide +kernel
theorem d_BH_isTrier_6 : decode prog_1_method_36_code 6 = .ok (.getfield 54, 3) := by decide +kernel
theorem d_BH_isTrier_9 : decode prog_1_method_36_code 9 = .ok (.getfield 105, 3) := by decide +kernel
theorem d_BH_isTrier_12 : decode prog_1_method_36_code 12 = .ok (.if_icmp .ge 7, 3) := by decide +kernel
theorem d_BH_isTrier_15 : decode prog_1_method_36_code 15 = .ok (.iconst 1, 1) := by decide +kernel
theorem d_BH_isTrier_16 : decode prog_1_method_36_code 16 = .ok (.goto 4, 3) := by decide +kernel
theorem d_BH_isTrier_19 : decode prog_1_method_36_code 19 = .ok (.iconst 0, 1) := by decide +kernel
theorem d_BH_isTrier_20 : decode prog_1_method_36_code 20 = .ok (.ireturn, 1) := by decide +kernel
theorem d_BH_letterOf_0 : decode prog_1_method_48_code 0 = .ok (.iload_n 0, 1) := by decide +kernel
theorem d_BH_letterOf_1 : decode prog_1_method_48_code 1 = .ok (.istore_n 2, 1) := by decide +kernel
theorem d_BH_letterOf_2 : decode prog_1_method_48_code 2 = .ok (.iconst 5, 1) := by decide +kernel
theorem d_BH_letterOf_3 : decode prog_1_method_48_code 3 = .ok (.istore_n 3, 1) := by decide +kernel
theorem d_BH_letterOf_4 : decode prog_1_method_48_code 4 = .ok (.iload_n 3, 1) := by decide +kernel
theorem d_BH_letterOf_5 : decode prog_1_method_48_code 5 = .ok (.iload_n 1, 1) := by decide +kernel
theorem d_BH_letterOf_6 : decode prog_1_method_48_code 6 = .ok (.if_icmp .le 14, 3) := by decide +kernel
theorem d_BH_letterOf_9 : decode prog_1_method_48_code 9 = .ok (.iload_n 2, 1) := by decide +kernel
theorem d_BH_letterOf_10 : decode prog_1_method_48_code 10 = .ok (.bipush 27, 2) := by decide +kernel
theorem d_BH_letterOf_12 : decode prog_1_method_48_code 12 = .ok (.idiv, 1) := by decide +kernel
theorem d_BH_letterOf_13 : decode prog_1_method_48_code 13 = .ok (.istore_n 2, 1) := by decide +kernel
theorem d_BH_letterOf_14 : decode prog_1_method_48_code 14 = .ok (.iinc 3 (-1), 3) := by decide +kernel
theorem d_BH_letterOf_17 : decode prog_1_method_48_code 17 = .ok (.goto (-13), 3) := by decide +kernel
theorem d_BH_letterOf_20 : decode prog_1_method_48_code 20 = .ok (.iload_n 2, 1) := by decide +kernel
theorem d_BH_letterOf_21 : decode prog_1_method_48_code 21 = .ok (.bipush 27, 2) := by decide +kernel
theorem d_BH_letterOf_23 : decode prog_1_method_48_code 23 = .ok (.irem, 1) := by decide +kernel
theorem d_BH_letterOf_24 : decode prog_1_method_48_code 24 = .ok (.ireturn, 1) := by decide +kernel
theorem d_BH_isMark_0 : decode prog_1_method_35_code 0 = .ok (.iload_n 1, 1) := by decide +kernel
theorem d_BH_isMark_1 : decode prog_1_method_35_code 1 = .ok (.ifCond .lt 18, 3) := by decide +kernel
theorem d_BH_isMark_4 : decode prog_1_method_35_code 4 = .ok (.iload_n 1, 1) := by decide +kernel
theorem d_BH_isMark_5 : decode prog_1_method_35_code 5 = .ok (.aload_n 0, 1) := by decide +kernel
theorem d_BH_isMark_6 : decode prog_1_method_35_code 6 = .ok (.getfield 54, 3) := by decide +kernel
theorem d_BH_isMark_9 : decode prog_1_method_35_code 9 = .ok (.getfield 102, 3) := by decide +kernel
theorem d_BH_isMark_12 : decode prog_1_method_35_code 12 = .ok (.if_icmp .ge 7, 3) := by decide +kernel
theorem d_BH_isMark_15 : decode prog_1_method_35_code 15 = .ok (.iconst 1, 1) := by decide +kernel
theorem d_BH_isMark_16 : decode prog_1_method_35_code 16 = .ok (.goto 4, 3) := by decide +kernel
theorem d_BH_isMark_19 : decode prog_1_method_35_code 19 = .ok (.iconst 0, 1) := by decide +kernel
theorem d_BH_isMark_20 : decode prog_1_method_35_code 20 = .ok (.ireturn, 1) := by decide +kernel
theorem d_BH_letter_0 : decode prog_1_method_7_code 0 = .ok (.iload_n 3, 1) := by decide +kernel
theorem d_BH_letter_1 : decode prog_1_method_7_code 1 = .ok (.ifCond .lt 9, 3) := by decide +kernel
theorem d_BH_letter_4 : decode prog_1_method_7_code 4 = .ok (.iload_n 3, 1) := by decide +kernel
theorem d_BH_letter_5 : decode prog_1_method_7_code 5 = .ok (.bipush 6, 2) := by decide +kernel
theorem d_BH_letter_7 : decode prog_1_method_7_code 7 = .ok (.if_icmp .lt 5, 3) := by decide +kernel
theorem d_BH_letter_10 : decode prog_1_method_7_code 10 = .ok (.iconst (-1), 1) := by decide +kernel
theorem d_BH_letter_11 : decode prog_1_method_7_code 11 = .ok (.ireturn, 1) := by decide +kernel
theorem d_BH_letter_12 : decode prog_1_method_7_code 12 = .ok (.iload_n 1, 1) := by decide +kernel
theorem d_BH_letter_13 : decode prog_1_method_7_code 13 = .ok (.ifCond .ne 25, 3) := by decide +kernel
theorem d_BH_letter_16 : decode prog_1_method_7_code 16 = .ok (.aload_n 0, 1) := by decide +kernel
theorem d_BH_letter_17 : decode prog_1_method_7_code 17 = .ok (.iload_n 2, 1) := by decide +kernel
theorem d_BH_letter_18 : decode prog_1_method_7_code 18 = .ok (.invokevirtual 133, 3) := by decide +kernel
theorem d_BH_letter_21 : decode prog_1_method_7_code 21 = .ok (.ifCond .eq 17, 3) := by decide +kernel
theorem d_BH_letter_24 : decode prog_1_method_7_code 24 = .ok (.aload_n 0, 1) := by decide +kernel
theorem d_BH_letter_25 : decode prog_1_method_7_code 25 = .ok (.getfield 54, 3) := by decide +kernel
theorem d_BH_letter_28 : decode prog_1_method_7_code 28 = .ok (.getfield 137, 3) := by decide +kernel
theorem d_BH_letter_31 : decode prog_1_method_7_code 31 = .ok (.iload_n 2, 1) := by decide +kernel
theorem d_BH_letter_32 : decode prog_1_method_7_code 32 = .ok (.iaload, 1) := by decide +kernel
theorem d_BH_letter_33 : decode prog_1_method_7_code 33 = .ok (.iload_n 3, 1) := by decide +kernel
theorem d_BH_letter_34 : decode prog_1_method_7_code 34 = .ok (.invokestatic 140, 3) := by decide +kernel
theorem d_BH_letter_37 : decode prog_1_method_7_code 37 = .ok (.ireturn, 1) := by decide +kernel
theorem d_BH_letter_38 : decode prog_1_method_7_code 38 = .ok (.iload_n 1, 1) := by decide +kernel
theorem d_BH_letter_39 : decode prog_1_method_7_code 39 = .ok (.iconst 1, 1) := by decide +kernel
theorem d_BH_letter_40 : decode prog_1_method_7_code 40 = .ok (.if_icmp .ne 25, 3) := by decide +kernel
theorem d_BH_letter_43 : decode prog_1_method_7_code 43 = .ok (.aload_n 0, 1) := by decide +kernel
theorem d_BH_letter_44 : decode prog_1_method_7_code 44 = .ok (.iload_n 2, 1) := by decide +kernel
theorem d_BH_letter_45 : decode prog_1_method_7_code 45 = .ok (.invokevirtual 144, 3) := by decide +kernel
theorem d_BH_letter_48 : decode prog_1_method_7_code 48 = .ok (.ifCond .eq 17, 3) := by decide +kernel
theorem d_BH_letter_51 : decode prog_1_method_7_code 51 = .ok (.aload_n 0, 1) := by decide +kernel
theorem d_BH_letter_52 : decode prog_1_method_7_code 52 = .ok (.getfield 54, 3) := by decide +kernel
theorem d_BH_letter_55 : decode prog_1_method_7_code 55 = .ok (.getfield 147, 3) := by decide +kernel
theorem d_BH_letter_58 : decode prog_1_method_7_code 58 = .ok (.iload_n 2, 1) := by decide +kernel
theorem d_BH_letter_59 : decode prog_1_method_7_code 59 = .ok (.iaload, 1) := by decide +kernel
theorem d_BH_letter_60 : decode prog_1_method_7_code 60 = .ok (.iload_n 3, 1) := by decide +kernel
theorem d_BH_letter_61 : decode prog_1_method_7_code 61 = .ok (.invokestatic 140, 3) := by decide +kernel
theorem d_BH_letter_64 : decode prog_1_method_7_code 64 = .ok (.ireturn, 1) := by decide +kernel
theorem d_BH_letter_65 : decode prog_1_method_7_code 65 = .ok (.iconst (-1), 1) := by decide +kernel
theorem d_BH_letter_66 : decode prog_1_method_7_code 66 = .ok (.ireturn, 1) := by decide +kernel
theorem d_Fair_trait_0 : decode prog_3_method_3_code 0 = .ok (.iload_n 1, 1) := by decide +kernel
theorem d_Fair_trait_1 : decode prog_3_method_3_code 1 = .ok (.bipush 6, 2) := by decide +kernel
theorem d_Fair_trait_3 : decode prog_3_method_3_code 3 = .ok (.imul, 1) := by decide +kernel
theorem d_Fair_trait_4 : decode prog_3_method_3_code 4 = .ok (.iload_n 2, 1) := by decide +kernel
theorem d_Fair_trait_5 : decode prog_3_method_3_code 5 = .ok (.iadd, 1) := by decide +kernel
theorem d_Fair_trait_6 : decode prog_3_method_3_code 6 = .ok (.istore_n 3, 1) := by decide +kernel
theorem d_Fair_trait_7 : decode prog_3_method_3_code 7 = .ok (.iload_n 3, 1) := by decide +kernel
theorem d_Fair_trait_8 : decode prog_3_method_3_code 8 = .ok (.ifCond .lt 12, 3) := by decide +kernel
theorem d_Fair_trait_11 : decode prog_3_method_3_code 11 = .ok (.iload_n 3, 1) := by decide +kernel
theorem d_Fair_trait_12 : decode prog_3_method_3_code 12 = .ok (.aload_n 0, 1) := by decide +kernel
theorem d_Fair_trait_13 : decode prog_3_method_3_code 13 = .ok (.getfield 21, 3) := by decide +kernel
theorem d_Fair_trait_16 : decode prog_3_method_3_code 16 = .ok (.arraylength, 1) := by decide +kernel
theorem d_Fair_trait_17 : decode prog_3_method_3_code 17 = .ok (.if_icmp .lt 7, 3) := by decide +kernel
theorem d_Fair_trait_20 : decode prog_3_method_3_code 20 = .ok (.iconst 0, 1) := by decide +kernel
theorem d_Fair_trait_21 : decode prog_3_method_3_code 21 = .ok (.goto 9, 3) := by decide +kernel
theorem d_Fair_trait_24 : decode prog_3_method_3_code 24 = .ok (.aload_n 0, 1) := by decide +kernel
theorem d_Fair_trait_25 : decode prog_3_method_3_code 25 = .ok (.getfield 21, 3) := by decide +kernel
theorem d_Fair_trait_28 : decode prog_3_method_3_code 28 = .ok (.iload_n 3, 1) := by decide +kernel
theorem d_Fair_trait_29 : decode prog_3_method_3_code 29 = .ok (.iaload, 1) := by decide +kernel
theorem d_Fair_trait_30 : decode prog_3_method_3_code 30 = .ok (.ireturn, 1) := by decide +kernel
theorem d_BH_trier_0 : decode prog_1_method_8_code 0 = .ok (.aload_n 0, 1) := by decide +kernel
theorem d_BH_trier_1 : decode prog_1_method_8_code 1 = .ok (.iload_n 1, 1) := by decide +kernel
theorem d_BH_trier_2 : decode prog_1_method_8_code 2 = .ok (.invokevirtual 144, 3) := by decide +kernel
theorem d_BH_trier_5 : decode prog_1_method_8_code 5 = .ok (.ifCond .eq 13, 3) := by decide +kernel
theorem d_BH_trier_8 : decode prog_1_method_8_code 8 = .ok (.iload_n 2, 1) := by decide +kernel
theorem d_BH_trier_9 : decode prog_1_method_8_code 9 = .ok (.ifCond .lt 9, 3) := by decide +kernel
theorem d_BH_trier_12 : decode prog_1_method_8_code 12 = .ok (.iload_n 2, 1) := by decide +kernel
theorem d_BH_trier_13 : decode prog_1_method_8_code 13 = .ok (.bipush 6, 2) := by decide +kernel
theorem d_BH_trier_15 : decode prog_1_method_8_code 15 = .ok (.if_icmp .lt 5, 3) := by decide +kernel
theorem d_BH_trier_18 : decode prog_1_method_8_code 18 = .ok (.iconst (-1), 1) := by decide +kernel
theorem d_BH_trier_19 : decode prog_1_method_8_code 19 = .ok (.ireturn, 1) := by decide +kernel
theorem d_BH_trier_20 : decode prog_1_method_8_code 20 = .ok (.aload_n 0, 1) := by decide +kernel
theorem d_BH_trier_21 : decode prog_1_method_8_code 21 = .ok (.getfield 54, 3) := by decide +kernel
theorem d_BH_trier_24 : decode prog_1_method_8_code 24 = .ok (.iload_n 1, 1) := by decide +kernel
theorem d_BH_trier_25 : decode prog_1_method_8_code 25 = .ok (.iload_n 2, 1) := by decide +kernel
theorem d_BH_trier_26 : decode prog_1_method_8_code 26 = .ok (.invokevirtual 150, 3) := by decide +kernel
theorem d_BH_trier_29 : decode prog_1_method_8_code 29 = .ok (.ireturn, 1) := by decide +kernel
theorem d_BH_mark_0 : decode prog_1_method_9_code 0 = .ok (.aload_n 0, 1) := by decide +kernel
theorem d_BH_mark_1 : decode prog_1_method_9_code 1 = .ok (.iload_n 1, 1) := by decide +kernel
theorem d_BH_mark_2 : decode prog_1_method_9_code 2 = .ok (.invokevirtual 133, 3) := by decide +kernel
theorem d_BH_mark_5 : decode prog_1_method_9_code 5 = .ok (.ifCond .eq 15, 3) := by decide +kernel
theorem d_BH_mark_8 : decode prog_1_method_9_code 8 = .ok (.aload_n 0, 1) := by decide +kernel
theorem d_BH_mark_9 : decode prog_1_method_9_code 9 = .ok (.getfield 54, 3) := by decide +kernel
theorem d_BH_mark_12 : decode prog_1_method_9_code 12 = .ok (.getfield 153, 3) := by decide +kernel
theorem d_BH_mark_15 : decode prog_1_method_9_code 15 = .ok (.iload_n 1, 1) := by decide +kernel
theorem d_BH_mark_16 : decode prog_1_method_9_code 16 = .ok (.iaload, 1) := by decide +kernel
theorem d_BH_mark_17 : decode prog_1_method_9_code 17 = .ok (.goto 4, 3) := by decide +kernel
theorem d_BH_mark_20 : decode prog_1_method_9_code 20 = .ok (.iconst (-1), 1) := by decide +kernel
theorem d_BH_mark_21 : decode prog_1_method_9_code 21 = .ok (.ireturn, 1) := by decide +kernel
theorem d_Fair_markOf_0 : decode prog_3_method_5_code 0 = .ok (.iconst (-1), 1) := by decide +kernel
theorem d_Fair_markOf_1 : decode prog_3_method_5_code 1 = .ok (.istore_n 2, 1) := by decide +kernel
theorem d_Fair_markOf_2 : decode prog_3_method_5_code 2 = .ok (.iconst 0, 1) := by decide +kernel
theorem d_Fair_markOf_3 : decode prog_3_method_5_code 3 = .ok (.istore_n 3, 1) := by decide +kernel
theorem d_Fair_markOf_4 : decode prog_3_method_5_code 4 = .ok (.iload_n 3, 1) := by decide +kernel
theorem d_Fair_markOf_5 : decode prog_3_method_5_code 5 = .ok (.aload_n 0, 1) := by decide +kernel
theorem d_Fair_markOf_6 : decode prog_3_method_5_code 6 = .ok (.getfield 49, 3) := by decide +kernel
theorem d_Fair_markOf_9 : decode prog_3_method_5_code 9 = .ok (.if_icmp .ge 41, 3) := by decide +kernel
theorem d_Fair_markOf_12 : decode prog_3_method_5_code 12 = .ok (.aload_n 0, 1) := by decide +kernel
theorem d_Fair_markOf_13 : decode prog_3_method_5_code 13 = .ok (.getfield 15, 3) := by decide +kernel
theorem d_Fair_markOf_16 : decode prog_3_method_5_code 16 = .ok (.iload_n 3, 1) := by decide +kernel
theorem d_Fair_markOf_17 : decode prog_3_method_5_code 17 = .ok (.iaload, 1) := by decide +kernel
theorem d_Fair_markOf_18 : decode prog_3_method_5_code 18 = .ok (.iload_n 1, 1) := by decide +kernel
theorem d_Fair_markOf_19 : decode prog_3_method_5_code 19 = .ok (.if_icmp .gt 25, 3) := by decide +kernel
theorem d_Fair_markOf_22 : decode prog_3_method_5_code 22 = .ok (.iload_n 2, 1) := by decide +kernel
theorem d_Fair_markOf_23 : decode prog_3_method_5_code 23 = .ok (.iconst (-1), 1) := by decide +kernel
theorem d_Fair_markOf_24 : decode prog_3_method_5_code 24 = .ok (.if_icmp .eq 18, 3) := by decide +kernel
theorem d_Fair_markOf_27 : decode prog_3_method_5_code 27 = .ok (.aload_n 0, 1) := by decide +kernel
theorem d_Fair_markOf_28 : decode prog_3_method_5_code 28 = .ok (.getfield 15, 3) := by decide +kernel
theorem d_Fair_markOf_31 : decode prog_3_method_5_code 31 = .ok (.iload_n 3, 1) := by decide +kernel
theorem d_Fair_markOf_32 : decode prog_3_method_5_code 32 = .ok (.iaload, 1) := by decide +kernel
theorem d_Fair_markOf_33 : decode prog_3_method_5_code 33 = .ok (.aload_n 0, 1) := by decide +kernel
theorem d_Fair_markOf_34 : decode prog_3_method_5_code 34 = .ok (.getfield 15, 3) := by decide +kernel
theorem d_Fair_markOf_37 : decode prog_3_method_5_code 37 = .ok (.iload_n 2, 1) := by decide +kernel
theorem d_Fair_markOf_38 : decode prog_3_method_5_code 38 = .ok (.iaload, 1) := by decide +kernel
theorem d_Fair_markOf_39 : decode prog_3_method_5_code 39 = .ok (.if_icmp .le 5, 3) := by decide +kernel
theorem d_Fair_markOf_42 : decode prog_3_method_5_code 42 = .ok (.iload_n 3, 1) := by decide +kernel
theorem d_Fair_markOf_43 : decode prog_3_method_5_code 43 = .ok (.istore_n 2, 1) := by decide +kernel
theorem d_Fair_markOf_44 : decode prog_3_method_5_code 44 = .ok (.iinc 3 1, 3) := by decide +kernel
theorem d_Fair_markOf_47 : decode prog_3_method_5_code 47 = .ok (.goto (-43), 3) := by decide +kernel
theorem d_Fair_markOf_50 : decode prog_3_method_5_code 50 = .ok (.iload_n 2, 1) := by decide +kernel
theorem d_Fair_markOf_51 : decode prog_3_method_5_code 51 = .ok (.ireturn, 1) := by decide +kernel
theorem d_BH_past_0 : decode prog_1_method_10_code 0 = .ok (.iload_n 1, 1) := by decide +kernel
theorem d_BH_past_1 : decode prog_1_method_10_code 1 = .ok (.ifCond .lt 9, 3) := by decide +kernel
theorem d_BH_past_4 : decode prog_1_method_10_code 4 = .ok (.iload_n 1, 1) := by decide +kernel
theorem d_BH_past_5 : decode prog_1_method_10_code 5 = .ok (.bipush 99, 2) := by decide +kernel
theorem d_BH_past_7 : decode prog_1_method_10_code 7 = .ok (.if_icmp .le 7, 3) := by decide +kernel
theorem d_BH_past_10 : decode prog_1_method_10_code 10 = .ok (.iconst (-1), 1) := by decide +kernel
theorem d_BH_past_11 : decode prog_1_method_10_code 11 = .ok (.goto 11, 3) := by decide +kernel
theorem d_BH_past_14 : decode prog_1_method_10_code 14 = .ok (.aload_n 0, 1) := by decide +kernel
theorem d_BH_past_15 : decode prog_1_method_10_code 15 = .ok (.getfield 54, 3) := by decide +kernel
theorem d_BH_past_18 : decode prog_1_method_10_code 18 = .ok (.iload_n 1, 1) := by decide +kernel
theorem d_BH_past_19 : decode prog_1_method_10_code 19 = .ok (.invokevirtual 156, 3) := by decide +kernel
theorem d_BH_past_22 : decode prog_1_method_10_code 22 = .ok (.ireturn, 1) := by decide +kernel
theorem d_BH_isWithin_0 : decode prog_1_method_38_code 0 = .ok (.iload_n 0, 1) := by decide +kernel
theorem d_BH_isWithin_1 : decode prog_1_method_38_code 1 = .ok (.ifCond .lt 12, 3) := by decide +kernel
theorem d_BH_isWithin_4 : decode prog_1_method_38_code 4 = .ok (.iload_n 0, 1) := by decide +kernel
theorem d_BH_isWithin_5 : decode prog_1_method_38_code 5 = .ok (.iload_n 1, 1) := by decide +kernel
theorem d_BH_isWithin_6 : decode prog_1_method_38_code 6 = .ok (.if_icmp .gt 7, 3) := by decide +kernel
theorem d_BH_isWithin_9 : decode prog_1_method_38_code 9 = .ok (.iconst 1, 1) := by decide +kernel
theorem d_BH_isWithin_10 : decode prog_1_method_38_code 10 = .ok (.goto 4, 3) := by decide +kernel
theorem d_BH_isWithin_13 : decode prog_1_method_38_code 13 = .ok (.iconst 0, 1) := by decide +kernel
theorem d_BH_isWithin_14 : decode prog_1_method_38_code 14 = .ok (.ireturn, 1) := by decide +kernel
theorem d_BH_isOff_0 : decode prog_1_method_37_code 0 = .ok (.iload_n 0, 1) := by decide +kernel
theorem d_BH_isOff_1 : decode prog_1_method_37_code 1 = .ok (.bipush 9, 2) := by decide +kernel
theorem d_BH_isOff_3 : decode prog_1_method_37_code 3 = .ok (.invokestatic 175, 3) := by decide +kernel
theorem d_BH_isOff_6 : decode prog_1_method_37_code 6 = .ok (.ireturn, 1) := by decide +kernel
theorem d_Turn_load_0 : decode prog_10_method_2_code 0 = .ok (.aload_n 0, 1) := by decide +kernel
theorem d_Turn_load_1 : decode prog_10_method_2_code 1 = .ok (.aload_n 1, 1) := by decide +kernel
theorem d_Turn_load_2 : decode prog_10_method_2_code 2 = .ok (.iload_n 2, 1) := by decide +kernel
theorem d_Turn_load_3 : decode prog_10_method_2_code 3 = .ok (.iconst 0, 1) := by decide +kernel
theorem d_Turn_load_4 : decode prog_10_method_2_code 4 = .ok (.invokevirtual 15, 3) := by decide +kernel
theorem d_Turn_load_7 : decode prog_10_method_2_code 7 = .ok (.putfield 21, 3) := by decide +kernel
theorem d_Turn_load_10 : decode prog_10_method_2_code 10 = .ok (.aload_n 0, 1) := by decide +kernel
theorem d_Turn_load_11 : decode prog_10_method_2_code 11 = .ok (.aload_n 1, 1) := by decide +kernel
theorem d_Turn_load_12 : decode prog_10_method_2_code 12 = .ok (.iload_n 2, 1) := by decide +kernel
theorem d_Turn_load_13 : decode prog_10_method_2_code 13 = .ok (.iconst 1, 1) := by decide +kernel
theorem d_Turn_load_14 : decode prog_10_method_2_code 14 = .ok (.invokevirtual 15, 3) := by decide +kernel
theorem d_Turn_load_17 : decode prog_10_method_2_code 17 = .ok (.putfield 25, 3) := by decide +kernel
theorem d_Turn_load_20 : decode prog_10_method_2_code 20 = .ok (.aload_n 0, 1) := by decide +kernel
theorem d_Turn_load_21 : decode prog_10_method_2_code 21 = .ok (.aload_n 1, 1) := by decide +kernel
theorem d_Turn_load_22 : decode prog_10_method_2_code 22 = .ok (.iload_n 2, 1) := by decide +kernel
theorem d_Turn_load_23 : decode prog_10_method_2_code 23 = .ok (.iconst 2, 1) := by decide +kernel
theorem d_Turn_load_24 : decode prog_10_method_2_code 24 = .ok (.invokevirtual 15, 3) := by decide +kernel
theorem d_Turn_load_27 : decode prog_10_method_2_code 27 = .ok (.putfield 28, 3) := by decide +kernel
theorem d_Turn_load_30 : decode prog_10_method_2_code 30 = .ok (.aload_n 0, 1) := by decide +kernel
theorem d_Turn_load_31 : decode prog_10_method_2_code 31 = .ok (.aload_n 1, 1) := by decide +kernel
theorem d_Turn_load_32 : decode prog_10_method_2_code 32 = .ok (.iload_n 2, 1) := by decide +kernel
theorem d_Turn_load_33 : decode prog_10_method_2_code 33 = .ok (.iconst 3, 1) := by decide +kernel
theorem d_Turn_load_34 : decode prog_10_method_2_code 34 = .ok (.invokevirtual 15, 3) := by decide +kernel
theorem d_Turn_load_37 : decode prog_10_method_2_code 37 = .ok (.putfield 31, 3) := by decide +kernel
theorem d_Turn_load_40 : decode prog_10_method_2_code 40 = .ok (.aload_n 0, 1) := by decide +kernel
theorem d_Turn_load_41 : decode prog_10_method_2_code 41 = .ok (.aload_n 1, 1) := by decide +kernel
theorem d_Turn_load_42 : decode prog_10_method_2_code 42 = .ok (.iload_n 2, 1) := by decide +kernel
theorem d_Turn_load_43 : decode prog_10_method_2_code 43 = .ok (.iconst 4, 1) := by decide +kernel
theorem d_Turn_load_44 : decode prog_10_method_2_code 44 = .ok (.invokevirtual 15, 3) := by decide +kernel
theorem d_Turn_load_47 : decode prog_10_method_2_code 47 = .ok (.putfield 34, 3) := by decide +kernel
theorem d_Turn_load_50 : decode prog_10_method_2_code 50 = .ok (.aload_n 0, 1) := by decide +kernel
theorem d_Turn_load_51 : decode prog_10_method_2_code 51 = .ok (.aload_n 1, 1) := by decide +kernel
theorem d_Turn_load_52 : decode prog_10_method_2_code 52 = .ok (.iload_n 2, 1) := by decide +kernel
theorem d_Turn_load_53 : decode prog_10_method_2_code 53 = .ok (.iconst 5, 1) := by decide +kernel
theorem d_Turn_load_54 : decode prog_10_method_2_code 54 = .ok (.invokevirtual 15, 3) := by decide +kernel
theorem d_Turn_load_57 : decode prog_10_method_2_code 57 = .ok (.putfield 37, 3) := by decide +kernel
theorem d_Turn_load_60 : decode prog_10_method_2_code 60 = .ok (.aload_n 0, 1) := by decide +kernel
theorem d_Turn_load_61 : decode prog_10_method_2_code 61 = .ok (.aload_n 3, 1) := by decide +kernel
theorem d_Turn_load_62 : decode prog_10_method_2_code 62 = .ok (.iconst 0, 1) := by decide +kernel
theorem d_Turn_load_63 : decode prog_10_method_2_code 63 = .ok (.iaload, 1) := by decide +kernel
theorem d_Turn_load_64 : decode prog_10_method_2_code 64 = .ok (.putfield 40, 3) := by decide +kernel
theorem d_Turn_load_67 : decode prog_10_method_2_code 67 = .ok (.aload_n 0, 1) := by decide +kernel
theorem d_Turn_load_68 : decode prog_10_method_2_code 68 = .ok (.aload_n 3, 1) := by decide +kernel
theorem d_Turn_load_69 : decode prog_10_method_2_code 69 = .ok (.iconst 1, 1) := by decide +kernel
theorem d_Turn_load_70 : decode prog_10_method_2_code 70 = .ok (.iaload, 1) := by decide +kernel
theorem d_Turn_load_71 : decode prog_10_method_2_code 71 = .ok (.putfield 43, 3) := by decide +kernel
theorem d_Turn_load_74 : decode prog_10_method_2_code 74 = .ok (.aload_n 0, 1) := by decide +kernel
theorem d_Turn_load_75 : decode prog_10_method_2_code 75 = .ok (.aload_n 3, 1) := by decide +kernel
theorem d_Turn_load_76 : decode prog_10_method_2_code 76 = .ok (.iconst 2, 1) := by decide +kernel
theorem d_Turn_load_77 : decode prog_10_method_2_code 77 = .ok (.iaload, 1) := by decide +kernel
theorem d_Turn_load_78 : decode prog_10_method_2_code 78 = .ok (.putfield 46, 3) := by decide +kernel
theorem d_Turn_load_81 : decode prog_10_method_2_code 81 = .ok (.aload_n 0, 1) := by decide +kernel
theorem d_Turn_load_82 : decode prog_10_method_2_code 82 = .ok (.aload_n 1, 1) := by decide +kernel
theorem d_Turn_load_83 : decode prog_10_method_2_code 83 = .ok (.getfield 49, 3) := by decide +kernel
theorem d_Turn_load_86 : decode prog_10_method_2_code 86 = .ok (.iconst 3, 1) := by decide +kernel
theorem d_Turn_load_87 : decode prog_10_method_2_code 87 = .ok (.iaload, 1) := by decide +kernel
theorem d_Turn_load_88 : decode prog_10_method_2_code 88 = .ok (.putfield 52, 3) := by decide +kernel
theorem d_Turn_load_91 : decode prog_10_method_2_code 91 = .ok (.aload_n 0, 1) := by decide +kernel
theorem d_Turn_load_92 : decode prog_10_method_2_code 92 = .ok (.aload_n 1, 1) := by decide +kernel
theorem d_Turn_load_93 : decode prog_10_method_2_code 93 = .ok (.getfield 49, 3) := by decide +kernel
theorem d_Turn_load_96 : decode prog_10_method_2_code 96 = .ok (.iconst 5, 1) := by decide +kernel
theorem d_Turn_load_97 : decode prog_10_method_2_code 97 = .ok (.iaload, 1) := by decide +kernel
theorem d_Turn_load_98 : decode prog_10_method_2_code 98 = .ok (.putfield 55, 3) := by decide +kernel
theorem d_Turn_load_101 : decode prog_10_method_2_code 101 = .ok (.aload_n 0, 1) := by decide +kernel
theorem d_Turn_load_102 : decode prog_10_method_2_code 102 = .ok (.aload_n 1, 1) := by decide +kernel
theorem d_Turn_load_103 : decode prog_10_method_2_code 103 = .ok (.getfield 49, 3) := by decide +kernel
theorem d_Turn_load_106 : decode prog_10_method_2_code 106 = .ok (.iconst 4, 1) := by decide +kernel
theorem d_Turn_load_107 : decode prog_10_method_2_code 107 = .ok (.iaload, 1) := by decide +kernel
theorem d_Turn_load_108 : decode prog_10_method_2_code 108 = .ok (.putfield 58, 3) := by decide +kernel
theorem d_Turn_load_111 : decode prog_10_method_2_code 111 = .ok (.aload_n 1, 1) := by decide +kernel
theorem d_Turn_load_112 : decode prog_10_method_2_code 112 = .ok (.getfield 49, 3) := by decide +kernel
theorem d_Turn_load_115 : decode prog_10_method_2_code 115 = .ok (.bipush 6, 2) := by decide +kernel
theorem d_Turn_load_117 : decode prog_10_method_2_code 117 = .ok (.aload_n 0, 1) := by decide +kernel
theorem d_Turn_load_118 : decode prog_10_method_2_code 118 = .ok (.getfield 9, 3) := by decide +kernel
theorem d_Turn_load_121 : decode prog_10_method_2_code 121 = .ok (.iconst 0, 1) := by decide +kernel
theorem d_Turn_load_122 : decode prog_10_method_2_code 122 = .ok (.aload_n 0, 1) := by decide +kernel
theorem d_Turn_load_123 : decode prog_10_method_2_code 123 = .ok (.getfield 9, 3) := by decide +kernel
theorem d_Turn_load_126 : decode prog_10_method_2_code 126 = .ok (.arraylength, 1) := by decide +kernel
theorem d_Turn_load_127 : decode prog_10_method_2_code 127 = .ok (.invokestatic 61, 3) := by decide +kernel
theorem d_Turn_load_130 : decode prog_10_method_2_code 130 = .ok (.return_, 1) := by decide +kernel
theorem d_BH_rise_0 : decode prog_1_method_39_code 0 = .ok (.iload_n 0, 1) := by decide +kernel
theorem d_BH_rise_1 : decode prog_1_method_39_code 1 = .ok (.bipush 100, 2) := by decide +kernel
theorem d_BH_rise_3 : decode prog_1_method_39_code 3 = .ok (.bipush 10, 2) := by decide +kernel
theorem d_BH_rise_5 : decode prog_1_method_39_code 5 = .ok (.iload_n 1, 1) := by decide +kernel
theorem d_BH_rise_6 : decode prog_1_method_39_code 6 = .ok (.imul, 1) := by decide +kernel
theorem d_BH_rise_7 : decode prog_1_method_39_code 7 = .ok (.isub, 1) := by decide +kernel
theorem d_BH_rise_8 : decode prog_1_method_39_code 8 = .ok (.imul, 1) := by decide +kernel
theorem d_BH_rise_9 : decode prog_1_method_39_code 9 = .ok (.bipush 100, 2) := by decide +kernel
theorem d_BH_rise_11 : decode prog_1_method_39_code 11 = .ok (.idiv, 1) := by decide +kernel
theorem d_BH_rise_12 : decode prog_1_method_39_code 12 = .ok (.istore_n 3, 1) := by decide +kernel
theorem d_BH_rise_13 : decode prog_1_method_39_code 13 = .ok (.iload_n 3, 1) := by decide +kernel
theorem d_BH_rise_14 : decode prog_1_method_39_code 14 = .ok (.bipush 100, 2) := by decide +kernel
theorem d_BH_rise_16 : decode prog_1_method_39_code 16 = .ok (.iload_n 2, 1) := by decide +kernel
theorem d_BH_rise_17 : decode prog_1_method_39_code 17 = .ok (.isub, 1) := by decide +kernel
theorem d_BH_rise_18 : decode prog_1_method_39_code 18 = .ok (.imul, 1) := by decide +kernel
theorem d_BH_rise_19 : decode prog_1_method_39_code 19 = .ok (.bipush 100, 2) := by decide +kernel
theorem d_BH_rise_21 : decode prog_1_method_39_code 21 = .ok (.idiv, 1) := by decide +kernel
theorem d_BH_rise_22 : decode prog_1_method_39_code 22 = .ok (.ireturn, 1) := by decide +kernel
theorem d_Turn_height_0 : decode prog_10_method_5_code 0 = .ok (.iconst 1, 1) := by decide +kernel
theorem d_Turn_height_1 : decode prog_10_method_5_code 1 = .ok (.aload_n 0, 1) := by decide +kernel
theorem d_Turn_height_2 : decode prog_10_method_5_code 2 = .ok (.getfield 21, 3) := by decide +kernel
theorem d_Turn_height_5 : decode prog_10_method_5_code 5 = .ok (.iload_n 1, 1) := by decide +kernel
theorem d_Turn_height_6 : decode prog_10_method_5_code 6 = .ok (.aload_n 0, 1) := by decide +kernel
theorem d_Turn_height_7 : decode prog_10_method_5_code 7 = .ok (.getfield 28, 3) := by decide +kernel
theorem d_Turn_height_10 : decode prog_10_method_5_code 10 = .ok (.imul, 1) := by decide +kernel
theorem d_Turn_height_11 : decode prog_10_method_5_code 11 = .ok (.isub, 1) := by decide +kernel
theorem d_Turn_height_12 : decode prog_10_method_5_code 12 = .ok (.invokestatic 75, 3) := by decide +kernel
theorem d_Turn_height_15 : decode prog_10_method_5_code 15 = .ok (.istore 4, 2) := by decide +kernel
theorem d_Turn_height_17 : decode prog_10_method_5_code 17 = .ok (.aload_n 0, 1) := by decide +kernel
theorem d_Turn_height_18 : decode prog_10_method_5_code 18 = .ok (.getfield 40, 3) := by decide +kernel
theorem d_Turn_height_21 : decode prog_10_method_5_code 21 = .ok (.iload 4, 2) := by decide +kernel
theorem d_Turn_height_23 : decode prog_10_method_5_code 23 = .ok (.iload_n 2, 1) := by decide +kernel
theorem d_Turn_height_24 : decode prog_10_method_5_code 24 = .ok (.iload_n 3, 1) := by decide +kernel
theorem d_Turn_height_25 : decode prog_10_method_5_code 25 = .ok (.ifCond .eq 10, 3) := by decide +kernel
theorem d_Turn_height_28 : decode prog_10_method_5_code 28 = .ok (.aload_n 0, 1) := by decide +kernel
theorem d_Turn_height_29 : decode prog_10_method_5_code 29 = .ok (.getfield 43, 3) := by decide +kernel
theorem d_Turn_height_32 : decode prog_10_method_5_code 32 = .ok (.goto 4, 3) := by decide +kernel
theorem d_Turn_height_35 : decode prog_10_method_5_code 35 = .ok (.iconst 0, 1) := by decide +kernel
theorem d_Turn_height_36 : decode prog_10_method_5_code 36 = .ok (.invokestatic 80, 3) := by decide +kernel
theorem d_Turn_height_39 : decode prog_10_method_5_code 39 = .ok (.invokestatic 84, 3) := by decide +kernel
theorem d_Turn_height_42 : decode prog_10_method_5_code 42 = .ok (.ireturn, 1) := by decide +kernel
theorem d_BH_high_0 : decode prog_1_method_11_code 0 = .ok (.aload_n 0, 1) := by decide +kernel
theorem d_BH_high_1 : decode prog_1_method_11_code 1 = .ok (.iload_n 1, 1) := by decide +kernel
theorem d_BH_high_2 : decode prog_1_method_11_code 2 = .ok (.invokevirtual 144, 3) := by decide +kernel
theorem d_BH_high_5 : decode prog_1_method_11_code 5 = .ok (.ifCond .eq 19, 3) := by decide +kernel
theorem d_BH_high_8 : decode prog_1_method_11_code 8 = .ok (.iload_n 2, 1) := by decide +kernel
theorem d_BH_high_9 : decode prog_1_method_11_code 9 = .ok (.ifCond .lt 15, 3) := by decide +kernel
theorem d_BH_high_12 : decode prog_1_method_11_code 12 = .ok (.iload_n 2, 1) := by decide +kernel
theorem d_BH_high_13 : decode prog_1_method_11_code 13 = .ok (.iconst 4, 1) := by decide +kernel
theorem d_BH_high_14 : decode prog_1_method_11_code 14 = .ok (.if_icmp .ge 10, 3) := by decide +kernel
theorem d_BH_high_17 : decode prog_1_method_11_code 17 = .ok (.iload_n 3, 1) := by decide +kernel
theorem d_BH_high_18 : decode prog_1_method_11_code 18 = .ok (.invokestatic 160, 3) := by decide +kernel
theorem d_BH_high_21 : decode prog_1_method_11_code 21 = .ok (.ifCond .ne 5, 3) := by decide +kernel
theorem d_BH_high_24 : decode prog_1_method_11_code 24 = .ok (.iconst (-1), 1) := by decide +kernel
theorem d_BH_high_25 : decode prog_1_method_11_code 25 = .ok (.ireturn, 1) := by decide +kernel
theorem d_BH_high_26 : decode prog_1_method_11_code 26 = .ok (.aload_n 0, 1) := by decide +kernel
theorem d_BH_high_27 : decode prog_1_method_11_code 27 = .ok (.getfield 40, 3) := by decide +kernel
theorem d_BH_high_30 : decode prog_1_method_11_code 30 = .ok (.aload_n 0, 1) := by decide +kernel
theorem d_BH_high_31 : decode prog_1_method_11_code 31 = .ok (.getfield 54, 3) := by decide +kernel
theorem d_BH_high_34 : decode prog_1_method_11_code 34 = .ok (.iload_n 1, 1) := by decide +kernel
theorem d_BH_high_35 : decode prog_1_method_11_code 35 = .ok (.aload_n 0, 1) := by decide +kernel
theorem d_BH_high_36 : decode prog_1_method_11_code 36 = .ok (.getfield 26, 3) := by decide +kernel
theorem d_BH_high_39 : decode prog_1_method_11_code 39 = .ok (.getfield 114, 3) := by decide +kernel
theorem d_BH_high_42 : decode prog_1_method_11_code 42 = .ok (.invokevirtual 163, 3) := by decide +kernel
theorem d_BH_high_45 : decode prog_1_method_11_code 45 = .ok (.aload_n 0, 1) := by decide +kernel
theorem d_BH_high_46 : decode prog_1_method_11_code 46 = .ok (.getfield 40, 3) := by decide +kernel
theorem d_BH_high_49 : decode prog_1_method_11_code 49 = .ok (.iload_n 2, 1) := by decide +kernel
theorem d_BH_high_50 : decode prog_1_method_11_code 50 = .ok (.iload_n 3, 1) := by decide +kernel
theorem d_BH_high_51 : decode prog_1_method_11_code 51 = .ok (.iload 4, 2) := by decide +kernel
theorem d_BH_high_53 : decode prog_1_method_11_code 53 = .ok (.invokevirtual 167, 3) := by decide +kernel
theorem d_BH_high_56 : decode prog_1_method_11_code 56 = .ok (.ireturn, 1) := by decide +kernel
theorem d_BH_wouldRing_0 : decode prog_1_method_40_code 0 = .ok (.iload_n 1, 1) := by decide +kernel
theorem d_BH_wouldRing_1 : decode prog_1_method_40_code 1 = .ok (.iload_n 2, 1) := by decide +kernel
theorem d_BH_wouldRing_2 : decode prog_1_method_40_code 2 = .ok (.iload_n 3, 1) := by decide +kernel
theorem d_BH_wouldRing_3 : decode prog_1_method_40_code 3 = .ok (.ifCond .eq 15, 3) := by decide +kernel
theorem d_BH_wouldRing_6 : decode prog_1_method_40_code 6 = .ok (.aload_n 0, 1) := by decide +kernel
theorem d_BH_wouldRing_7 : decode prog_1_method_40_code 7 = .ok (.getfield 26, 3) := by decide +kernel
theorem d_BH_wouldRing_10 : decode prog_1_method_40_code 10 = .ok (.getfield 114, 3) := by decide +kernel
theorem d_BH_wouldRing_13 : decode prog_1_method_40_code 13 = .ok (.iconst 1, 1) := by decide +kernel
theorem d_BH_wouldRing_14 : decode prog_1_method_40_code 14 = .ok (.iaload, 1) := by decide +kernel
theorem d_BH_wouldRing_15 : decode prog_1_method_40_code 15 = .ok (.goto 4, 3) := by decide +kernel
theorem d_BH_wouldRing_18 : decode prog_1_method_40_code 18 = .ok (.iconst 0, 1) := by decide +kernel
theorem d_BH_wouldRing_19 : decode prog_1_method_40_code 19 = .ok (.invokestatic 284, 3) := by decide +kernel
theorem d_BH_wouldRing_22 : decode prog_1_method_40_code 22 = .ok (.aload_n 0, 1) := by decide +kernel
theorem d_BH_wouldRing_23 : decode prog_1_method_40_code 23 = .ok (.getfield 26, 3) := by decide +kernel
theorem d_BH_wouldRing_26 : decode prog_1_method_40_code 26 = .ok (.getfield 114, 3) := by decide +kernel
theorem d_BH_wouldRing_29 : decode prog_1_method_40_code 29 = .ok (.iconst 0, 1) := by decide +kernel
theorem d_BH_wouldRing_30 : decode prog_1_method_40_code 30 = .ok (.iaload, 1) := by decide +kernel
theorem d_BH_wouldRing_31 : decode prog_1_method_40_code 31 = .ok (.if_icmp .lt 7, 3) := by decide +kernel
theorem d_BH_wouldRing_34 : decode prog_1_method_40_code 34 = .ok (.iconst 1, 1) := by decide +kernel
theorem d_BH_wouldRing_35 : decode prog_1_method_40_code 35 = .ok (.goto 4, 3) := by decide +kernel
theorem d_BH_wouldRing_38 : decode prog_1_method_40_code 38 = .ok (.iconst 0, 1) := by decide +kernel
theorem d_BH_wouldRing_39 : decode prog_1_method_40_code 39 = .ok (.ireturn, 1) := by decide +kernel
theorem d_BH_hard_0 : decode prog_1_method_12_code 0 = .ok (.iload_n 1, 1) := by decide +kernel
theorem d_BH_hard_1 : decode prog_1_method_12_code 1 = .ok (.invokestatic 160, 3) := by decide +kernel
theorem d_BH_hard_4 : decode prog_1_method_12_code 4 = .ok (.ifCond .ne 5, 3) := by decide +kernel
theorem d_BH_hard_7 : decode prog_1_method_12_code 7 = .ok (.iconst (-1), 1) := by decide +kernel
theorem d_BH_hard_8 : decode prog_1_method_12_code 8 = .ok (.ireturn, 1) := by decide +kernel
theorem d_BH_hard_9 : decode prog_1_method_12_code 9 = .ok (.iconst 1, 1) := by decide +kernel
theorem d_BH_hard_10 : decode prog_1_method_12_code 10 = .ok (.istore_n 3, 1) := by decide +kernel
theorem d_BH_hard_11 : decode prog_1_method_12_code 11 = .ok (.iload_n 3, 1) := by decide +kernel
theorem d_BH_hard_12 : decode prog_1_method_12_code 12 = .ok (.bipush 99, 2) := by decide +kernel
theorem d_BH_hard_14 : decode prog_1_method_12_code 14 = .ok (.if_icmp .gt 21, 3) := by decide +kernel
theorem d_BH_hard_17 : decode prog_1_method_12_code 17 = .ok (.aload_n 0, 1) := by decide +kernel
theorem d_BH_hard_18 : decode prog_1_method_12_code 18 = .ok (.iload_n 3, 1) := by decide +kernel
theorem d_BH_hard_19 : decode prog_1_method_12_code 19 = .ok (.iload_n 1, 1) := by decide +kernel
theorem d_BH_hard_20 : decode prog_1_method_12_code 20 = .ok (.iload_n 2, 1) := by decide +kernel
theorem d_BH_hard_21 : decode prog_1_method_12_code 21 = .ok (.invokevirtual 171, 3) := by decide +kernel
theorem d_BH_hard_24 : decode prog_1_method_12_code 24 = .ok (.ifCond .eq 5, 3) := by decide +kernel
theorem d_BH_hard_27 : decode prog_1_method_12_code 27 = .ok (.iload_n 3, 1) := by decide +kernel
theorem d_BH_hard_28 : decode prog_1_method_12_code 28 = .ok (.ireturn, 1) := by decide +kernel
theorem d_BH_hard_29 : decode prog_1_method_12_code 29 = .ok (.iinc 3 1, 3) := by decide +kernel
theorem d_BH_hard_32 : decode prog_1_method_12_code 32 = .ok (.goto (-21), 3) := by decide +kernel
theorem d_BH_hard_35 : decode prog_1_method_12_code 35 = .ok (.iconst (-1), 1) := by decide +kernel
theorem d_BH_hard_36 : decode prog_1_method_12_code 36 = .ok (.ireturn, 1) := by decide +kernel
theorem d_BH_wide_0 : decode prog_1_method_13_code 0 = .ok (.iload_n 1, 1) := by decide +kernel
theorem d_BH_wide_1 : decode prog_1_method_13_code 1 = .ok (.iconst 1, 1) := by decide +kernel
theorem d_BH_wide_2 : decode prog_1_method_13_code 2 = .ok (.if_icmp .lt 9, 3) := by decide +kernel
theorem d_BH_wide_5 : decode prog_1_method_13_code 5 = .ok (.iload_n 1, 1) := by decide +kernel
theorem d_BH_wide_6 : decode prog_1_method_13_code 6 = .ok (.bipush 99, 2) := by decide +kernel
theorem d_BH_wide_8 : decode prog_1_method_13_code 8 = .ok (.if_icmp .le 5, 3) := by decide +kernel
theorem d_BH_wide_11 : decode prog_1_method_13_code 11 = .ok (.iconst (-1), 1) := by decide +kernel
theorem d_BH_wide_12 : decode prog_1_method_13_code 12 = .ok (.ireturn, 1) := by decide +kernel
theorem d_BH_wide_13 : decode prog_1_method_13_code 13 = .ok (.bipush 9, 2) := by decide +kernel
theorem d_BH_wide_15 : decode prog_1_method_13_code 15 = .ok (.istore_n 3, 1) := by decide +kernel
theorem d_BH_wide_16 : decode prog_1_method_13_code 16 = .ok (.iload_n 3, 1) := by decide +kernel
theorem d_BH_wide_17 : decode prog_1_method_13_code 17 = .ok (.ifCond .lt 21, 3) := by decide +kernel
theorem d_BH_wide_20 : decode prog_1_method_13_code 20 = .ok (.aload_n 0, 1) := by decide +kernel
theorem d_BH_wide_21 : decode prog_1_method_13_code 21 = .ok (.iload_n 1, 1) := by decide +kernel
theorem d_BH_wide_22 : decode prog_1_method_13_code 22 = .ok (.iload_n 3, 1) := by decide +kernel
theorem d_BH_wide_23 : decode prog_1_method_13_code 23 = .ok (.iload_n 2, 1) := by decide +kernel
theorem d_BH_wide_24 : decode prog_1_method_13_code 24 = .ok (.invokevirtual 171, 3) := by decide +kernel
theorem d_BH_wide_27 : decode prog_1_method_13_code 27 = .ok (.ifCond .eq 5, 3) := by decide +kernel
theorem d_BH_wide_30 : decode prog_1_method_13_code 30 = .ok (.iload_n 3, 1) := by decide +kernel
theorem d_BH_wide_31 : decode prog_1_method_13_code 31 = .ok (.ireturn, 1) := by decide +kernel
theorem d_BH_wide_32 : decode prog_1_method_13_code 32 = .ok (.iinc 3 (-1), 3) := by decide +kernel
theorem d_BH_wide_35 : decode prog_1_method_13_code 35 = .ok (.goto (-19), 3) := by decide +kernel
theorem d_BH_wide_38 : decode prog_1_method_13_code 38 = .ok (.iconst (-1), 1) := by decide +kernel
theorem d_BH_wide_39 : decode prog_1_method_13_code 39 = .ok (.ireturn, 1) := by decide +kernel
theorem d_Showman_look_0 : decode prog_7_method_2_code 0 = .ok (.aload_n 0, 1) := by decide +kernel
theorem d_Showman_look_1 : decode prog_7_method_2_code 1 = .ok (.getfield 7, 3) := by decide +kernel
theorem d_Showman_look_4 : decode prog_7_method_2_code 4 = .ok (.iconst 0, 1) := by decide +kernel
theorem d_Showman_look_5 : decode prog_7_method_2_code 5 = .ok (.iload_n 1, 1) := by decide +kernel
theorem d_Showman_look_6 : decode prog_7_method_2_code 6 = .ok (.iastore, 1) := by decide +kernel
theorem d_Showman_look_7 : decode prog_7_method_2_code 7 = .ok (.aload_n 0, 1) := by decide +kernel
theorem d_Showman_look_8 : decode prog_7_method_2_code 8 = .ok (.getfield 7, 3) := by decide +kernel
theorem d_Showman_look_11 : decode prog_7_method_2_code 11 = .ok (.iconst 1, 1) := by decide +kernel
theorem d_Showman_look_12 : decode prog_7_method_2_code 12 = .ok (.iload_n 2, 1) := by decide +kernel
theorem d_Showman_look_13 : decode prog_7_method_2_code 13 = .ok (.iastore, 1) := by decide +kernel
theorem d_Showman_look_14 : decode prog_7_method_2_code 14 = .ok (.aload_n 0, 1) := by decide +kernel
theorem d_Showman_look_15 : decode prog_7_method_2_code 15 = .ok (.getfield 7, 3) := by decide +kernel
theorem d_Showman_look_18 : decode prog_7_method_2_code 18 = .ok (.iconst 2, 1) := by decide +kernel
theorem d_Showman_look_19 : decode prog_7_method_2_code 19 = .ok (.iload_n 3, 1) := by decide +kernel
theorem d_Showman_look_20 : decode prog_7_method_2_code 20 = .ok (.iastore, 1) := by decide +kernel
theorem d_Showman_look_21 : decode prog_7_method_2_code 21 = .ok (.aload_n 0, 1) := by decide +kernel
theorem d_Showman_look_22 : decode prog_7_method_2_code 22 = .ok (.getfield 7, 3) := by decide +kernel
theorem d_Showman_look_25 : decode prog_7_method_2_code 25 = .ok (.iconst 4, 1) := by decide +kernel
theorem d_Showman_look_26 : decode prog_7_method_2_code 26 = .ok (.iload 4, 2) := by decide +kernel
theorem d_Showman_look_28 : decode prog_7_method_2_code 28 = .ok (.iastore, 1) := by decide +kernel
theorem d_Showman_look_29 : decode prog_7_method_2_code 29 = .ok (.return_, 1) := by decide +kernel
theorem d_Showman_lookAt_0 : decode prog_7_method_3_code 0 = .ok (.aload_n 0, 1) := by decide +kernel
theorem d_Showman_lookAt_1 : decode prog_7_method_3_code 1 = .ok (.getfield 7, 3) := by decide +kernel
theorem d_Showman_lookAt_4 : decode prog_7_method_3_code 4 = .ok (.iconst 3, 1) := by decide +kernel
theorem d_Showman_lookAt_5 : decode prog_7_method_3_code 5 = .ok (.iload_n 1, 1) := by decide +kernel
theorem d_Showman_lookAt_6 : decode prog_7_method_3_code 6 = .ok (.iastore, 1) := by decide +kernel
theorem d_Showman_lookAt_7 : decode prog_7_method_3_code 7 = .ok (.aload_n 0, 1) := by decide +kernel
theorem d_Showman_lookAt_8 : decode prog_7_method_3_code 8 = .ok (.getfield 7, 3) := by decide +kernel
theorem d_Showman_lookAt_11 : decode prog_7_method_3_code 11 = .ok (.iconst 5, 1) := by decide +kernel
theorem d_Showman_lookAt_12 : decode prog_7_method_3_code 12 = .ok (.iload_n 2, 1) := by decide +kernel
theorem d_Showman_lookAt_13 : decode prog_7_method_3_code 13 = .ok (.iastore, 1) := by decide +kernel
theorem d_Showman_lookAt_14 : decode prog_7_method_3_code 14 = .ok (.return_, 1) := by decide +kernel
theorem d_Showman_reckon_0 : decode prog_7_method_8_code 0 = .ok (.iload_n 0, 1) := by decide +kernel
theorem d_Showman_reckon_1 : decode prog_7_method_8_code 1 = .ok (.sipush 10016, 3) := by decide +kernel
theorem d_Showman_reckon_4 : decode prog_7_method_8_code 4 = .ok (.if_icmp .ne 9, 3) := by decide +kernel
theorem d_Showman_reckon_7 : decode prog_7_method_8_code 7 = .ok (.lload_n 1, 1) := by decide +kernel
theorem d_Showman_reckon_8 : decode prog_7_method_8_code 8 = .ok (.lload_n 3, 1) := by decide +kernel
theorem d_Showman_reckon_9 : decode prog_7_method_8_code 9 = .ok (.ladd, 1) := by decide +kernel
theorem d_Showman_reckon_10 : decode prog_7_method_8_code 10 = .ok (.goto 19, 3) := by decide +kernel
theorem d_Showman_reckon_13 : decode prog_7_method_8_code 13 = .ok (.iload_n 0, 1) := by decide +kernel
theorem d_Showman_reckon_14 : decode prog_7_method_8_code 14 = .ok (.sipush 10017, 3) := by decide +kernel
theorem d_Showman_reckon_17 : decode prog_7_method_8_code 17 = .ok (.if_icmp .ne 9, 3) := by decide +kernel
theorem d_Showman_reckon_20 : decode prog_7_method_8_code 20 = .ok (.lload_n 1, 1) := by decide +kernel
theorem d_Showman_reckon_21 : decode prog_7_method_8_code 21 = .ok (.lload_n 3, 1) := by decide +kernel
theorem d_Showman_reckon_22 : decode prog_7_method_8_code 22 = .ok (.lsub, 1) := by decide +kernel
theorem d_Showman_reckon_23 : decode prog_7_method_8_code 23 = .ok (.goto 6, 3) := by decide +kernel
theorem d_Showman_reckon_26 : decode prog_7_method_8_code 26 = .ok (.lload_n 1, 1) := by decide +kernel
theorem d_Showman_reckon_27 : decode prog_7_method_8_code 27 = .ok (.lload_n 3, 1) := by decide +kernel
theorem d_Showman_reckon_28 : decode prog_7_method_8_code 28 = .ok (.lmul, 1) := by decide +kernel
theorem d_Showman_reckon_29 : decode prog_7_method_8_code 29 = .ok (.lstore 5, 2) := by decide +kernel
theorem d_Showman_reckon_31 : decode prog_7_method_8_code 31 = .ok (.lload 5, 2) := by decide +kernel
theorem d_Showman_reckon_33 : decode prog_7_method_8_code 33 = .ok (.ldc2_w 58, 3) := by decide +kernel
theorem d_Showman_reckon_36 : decode prog_7_method_8_code 36 = .ok (.lcmp, 1) := by decide +kernel
theorem d_Showman_reckon_37 : decode prog_7_method_8_code 37 = .ok (.ifCond .le 9, 3) := by decide +kernel
theorem d_Showman_reckon_40 : decode prog_7_method_8_code 40 = .ok (.ldc2_w 58, 3) := by decide +kernel
theorem d_Showman_reckon_43 : decode prog_7_method_8_code 43 = .ok (.goto 20, 3) := by decide +kernel
theorem d_Showman_reckon_46 : decode prog_7_method_8_code 46 = .ok (.lload 5, 2) := by decide +kernel
theorem d_Showman_reckon_48 : decode prog_7_method_8_code 48 = .ok (.ldc2_w 60, 3) := by decide +kernel
theorem d_Showman_reckon_51 : decode prog_7_method_8_code 51 = .ok (.lcmp, 1) := by decide +kernel
theorem d_Showman_reckon_52 : decode prog_7_method_8_code 52 = .ok (.ifCond .ge 9, 3) := by decide +kernel
theorem d_Showman_reckon_55 : decode prog_7_method_8_code 55 = .ok (.ldc2_w 60, 3) := by decide +kernel
theorem d_Showman_reckon_58 : decode prog_7_method_8_code 58 = .ok (.goto 5, 3) := by decide +kernel
theorem d_Showman_reckon_61 : decode prog_7_method_8_code 61 = .ok (.lload 5, 2) := by decide +kernel
theorem d_Showman_reckon_63 : decode prog_7_method_8_code 63 = .ok (.l2i, 1) := by decide +kernel
theorem d_Showman_reckon_64 : decode prog_7_method_8_code 64 = .ok (.ireturn, 1) := by decide +kernel
theorem d_Math_floorDiv_0 : decode prog_14_method_47_code 0 = .ok (.iload_n 0, 1) := by decide +kernel
theorem d_Math_floorDiv_1 : decode prog_14_method_47_code 1 = .ok (.iload_n 1, 1) := by decide +kernel
theorem d_Math_floorDiv_2 : decode prog_14_method_47_code 2 = .ok (.idiv, 1) := by decide +kernel
theorem d_Math_floorDiv_3 : decode prog_14_method_47_code 3 = .ok (.istore_n 2, 1) := by decide +kernel
theorem d_Math_floorDiv_4 : decode prog_14_method_47_code 4 = .ok (.iload_n 0, 1) := by decide +kernel
theorem d_Math_floorDiv_5 : decode prog_14_method_47_code 5 = .ok (.iload_n 1, 1) := by decide +kernel
theorem d_Math_floorDiv_6 : decode prog_14_method_47_code 6 = .ok (.ixor, 1) := by decide +kernel
theorem d_Math_floorDiv_7 : decode prog_14_method_47_code 7 = .ok (.ifCond .ge 14, 3) := by decide +kernel
theorem d_Math_floorDiv_10 : decode prog_14_method_47_code 10 = .ok (.iload_n 2, 1) := by decide +kernel
theorem d_Math_floorDiv_11 : decode prog_14_method_47_code 11 = .ok (.iload_n 1, 1) := by decide +kernel
theorem d_Math_floorDiv_12 : decode prog_14_method_47_code 12 = .ok (.imul, 1) := by decide +kernel
theorem d_Math_floorDiv_13 : decode prog_14_method_47_code 13 = .ok (.iload_n 0, 1) := by decide +kernel
theorem d_Math_floorDiv_14 : decode prog_14_method_47_code 14 = .ok (.if_icmp .eq 7, 3) := by decide +kernel
theorem d_Math_floorDiv_17 : decode prog_14_method_47_code 17 = .ok (.iload_n 2, 1) := by decide +kernel
theorem d_Math_floorDiv_18 : decode prog_14_method_47_code 18 = .ok (.iconst 1, 1) := by decide +kernel
theorem d_Math_floorDiv_19 : decode prog_14_method_47_code 19 = .ok (.isub, 1) := by decide +kernel
theorem d_Math_floorDiv_20 : decode prog_14_method_47_code 20 = .ok (.ireturn, 1) := by decide +kernel
theorem d_Math_floorDiv_21 : decode prog_14_method_47_code 21 = .ok (.iload_n 2, 1) := by decide +kernel
theorem d_Math_floorDiv_22 : decode prog_14_method_47_code 22 = .ok (.ireturn, 1) := by decide +kernel
theorem d_Showman_join_0 : decode prog_7_method_7_code 0 = .ok (.iload_n 0, 1) := by decide +kernel
theorem d_Showman_join_1 : decode prog_7_method_7_code 1 = .ok (.tableswitch 126 10011 10021 #[59, 63, 67, 78, 89, 126, 126, 126, 112, 100, 106], 59) := by decide +kernel
theorem d_Showman_join_60 : decode prog_7_method_7_code 60 = .ok (.iload_n 1, 1) := by decide +kernel
theorem d_Showman_join_61 : decode prog_7_method_7_code 61 = .ok (.iload_n 2, 1) := by decide +kernel
theorem d_Showman_join_62 : decode prog_7_method_7_code 62 = .ok (.iand, 1) := by decide +kernel
theorem d_Showman_join_63 : decode prog_7_method_7_code 63 = .ok (.ireturn, 1) := by decide +kernel
theorem d_Showman_join_64 : decode prog_7_method_7_code 64 = .ok (.iload_n 1, 1) := by decide +kernel
theorem d_Showman_join_65 : decode prog_7_method_7_code 65 = .ok (.iload_n 2, 1) := by decide +kernel
theorem d_Showman_join_66 : decode prog_7_method_7_code 66 = .ok (.ior, 1) := by decide +kernel
theorem d_Showman_join_67 : decode prog_7_method_7_code 67 = .ok (.ireturn, 1) := by decide +kernel
theorem d_Showman_join_68 : decode prog_7_method_7_code 68 = .ok (.iload_n 1, 1) := by decide +kernel
theorem d_Showman_join_69 : decode prog_7_method_7_code 69 = .ok (.iload_n 2, 1) := by decide +kernel
theorem d_Showman_join_70 : decode prog_7_method_7_code 70 = .ok (.if_icmp .ge 7, 3) := by decide +kernel
theorem d_Showman_join_73 : decode prog_7_method_7_code 73 = .ok (.iconst 1, 1) := by decide +kernel
theorem d_Showman_join_74 : decode prog_7_method_7_code 74 = .ok (.goto 4, 3) := by decide +kernel
theorem d_Showman_join_77 : decode prog_7_method_7_code 77 = .ok (.iconst 0, 1) := by decide +kernel
theorem d_Showman_join_78 : decode prog_7_method_7_code 78 = .ok (.ireturn, 1) := by decide +kernel
theorem d_Showman_join_79 : decode prog_7_method_7_code 79 = .ok (.iload_n 1, 1) := by decide +kernel
theorem d_Showman_join_80 : decode prog_7_method_7_code 80 = .ok (.iload_n 2, 1) := by decide +kernel
theorem d_Showman_join_81 : decode prog_7_method_7_code 81 = .ok (.if_icmp .le 7, 3) := by decide +kernel
theorem d_Showman_join_84 : decode prog_7_method_7_code 84 = .ok (.iconst 1, 1) := by decide +kernel
theorem d_Showman_join_85 : decode prog_7_method_7_code 85 = .ok (.goto 4, 3) := by decide +kernel
theorem d_Showman_join_88 : decode prog_7_method_7_code 88 = .ok (.iconst 0, 1) := by decide +kernel
theorem d_Showman_join_89 : decode prog_7_method_7_code 89 = .ok (.ireturn, 1) := by decide +kernel
theorem d_Showman_join_90 : decode prog_7_method_7_code 90 = .ok (.iload_n 1, 1) := by decide +kernel
theorem d_Showman_join_91 : decode prog_7_method_7_code 91 = .ok (.iload_n 2, 1) := by decide +kernel
theorem d_Showman_join_92 : decode prog_7_method_7_code 92 = .ok (.if_icmp .ne 7, 3) := by decide +kernel
theorem d_Showman_join_95 : decode prog_7_method_7_code 95 = .ok (.iconst 1, 1) := by decide +kernel
theorem d_Showman_join_96 : decode prog_7_method_7_code 96 = .ok (.goto 4, 3) := by decide +kernel
theorem d_Showman_join_99 : decode prog_7_method_7_code 99 = .ok (.iconst 0, 1) := by decide +kernel
theorem d_Showman_join_100 : decode prog_7_method_7_code 100 = .ok (.ireturn, 1) := by decide +kernel
theorem d_Showman_join_101 : decode prog_7_method_7_code 101 = .ok (.iload_n 1, 1) := by decide +kernel
theorem d_Showman_join_102 : decode prog_7_method_7_code 102 = .ok (.iload_n 2, 1) := by decide +kernel
theorem d_Showman_join_103 : decode prog_7_method_7_code 103 = .ok (.invokestatic 42, 3) := by decide +kernel
theorem d_Showman_join_106 : decode prog_7_method_7_code 106 = .ok (.ireturn, 1) := by decide +kernel
theorem d_Showman_join_107 : decode prog_7_method_7_code 107 = .ok (.iload_n 1, 1) := by decide +kernel
theorem d_Showman_join_108 : decode prog_7_method_7_code 108 = .ok (.iload_n 2, 1) := by decide +kernel
theorem d_Showman_join_109 : decode prog_7_method_7_code 109 = .ok (.invokestatic 48, 3) := by decide +kernel
theorem d_Showman_join_112 : decode prog_7_method_7_code 112 = .ok (.ireturn, 1) := by decide +kernel
theorem d_Showman_join_113 : decode prog_7_method_7_code 113 = .ok (.iload_n 2, 1) := by decide +kernel
theorem d_Showman_join_114 : decode prog_7_method_7_code 114 = .ok (.ifCond .ne 7, 3) := by decide +kernel
theorem d_Showman_join_117 : decode prog_7_method_7_code 117 = .ok (.iconst 0, 1) := by decide +kernel
theorem d_Showman_join_118 : decode prog_7_method_7_code 118 = .ok (.goto 8, 3) := by decide +kernel
theorem d_Showman_join_121 : decode prog_7_method_7_code 121 = .ok (.iload_n 1, 1) := by decide +kernel
theorem d_Showman_join_122 : decode prog_7_method_7_code 122 = .ok (.iload_n 2, 1) := by decide +kernel
theorem d_Showman_join_123 : decode prog_7_method_7_code 123 = .ok (.invokestatic 51, 3) := by decide +kernel
theorem d_Showman_join_126 : decode prog_7_method_7_code 126 = .ok (.ireturn, 1) := by decide +kernel
theorem d_Showman_join_127 : decode prog_7_method_7_code 127 = .ok (.iload_n 0, 1) := by decide +kernel
theorem d_Showman_join_128 : decode prog_7_method_7_code 128 = .ok (.iload_n 1, 1) := by decide +kernel
theorem d_Showman_join_129 : decode prog_7_method_7_code 129 = .ok (.i2l, 1) := by decide +kernel
theorem d_Showman_join_130 : decode prog_7_method_7_code 130 = .ok (.iload_n 2, 1) := by decide +kernel
theorem d_Showman_join_131 : decode prog_7_method_7_code 131 = .ok (.i2l, 1) := by decide +kernel
theorem d_Showman_join_132 : decode prog_7_method_7_code 132 = .ok (.invokestatic 54, 3) := by decide +kernel
theorem d_Showman_join_135 : decode prog_7_method_7_code 135 = .ok (.ireturn, 1) := by decide +kernel
theorem d_Showman_valueOf_0 : decode prog_7_method_6_code 0 = .ok (.iload_n 1, 1) := by decide +kernel
theorem d_Showman_valueOf_1 : decode prog_7_method_6_code 1 = .ok (.sipush 10000, 3) := by decide +kernel
theorem d_Showman_valueOf_4 : decode prog_7_method_6_code 4 = .ok (.isub, 1) := by decide +kernel
theorem d_Showman_valueOf_5 : decode prog_7_method_6_code 5 = .ok (.istore_n 2, 1) := by decide +kernel
theorem d_Showman_valueOf_6 : decode prog_7_method_6_code 6 = .ok (.iload_n 2, 1) := by decide +kernel
theorem d_Showman_valueOf_7 : decode prog_7_method_6_code 7 = .ok (.ifCond .ge 5, 3) := by decide +kernel
theorem d_Showman_valueOf_10 : decode prog_7_method_6_code 10 = .ok (.iload_n 1, 1) := by decide +kernel
theorem d_Showman_valueOf_11 : decode prog_7_method_6_code 11 = .ok (.ireturn, 1) := by decide +kernel
theorem d_Showman_valueOf_12 : decode prog_7_method_6_code 12 = .ok (.iload_n 2, 1) := by decide +kernel
theorem d_Showman_valueOf_13 : decode prog_7_method_6_code 13 = .ok (.aload_n 0, 1) := by decide +kernel
theorem d_Showman_valueOf_14 : decode prog_7_method_6_code 14 = .ok (.getfield 7, 3) := by decide +kernel
theorem d_Showman_valueOf_17 : decode prog_7_method_6_code 17 = .ok (.arraylength, 1) := by decide +kernel
theorem d_Showman_valueOf_18 : decode prog_7_method_6_code 18 = .ok (.if_icmp .ge 12, 3) := by decide +kernel
theorem d_Showman_valueOf_21 : decode prog_7_method_6_code 21 = .ok (.aload_n 0, 1) := by decide +kernel
theorem d_Showman_valueOf_22 : decode prog_7_method_6_code 22 = .ok (.getfield 7, 3) := by decide +kernel
theorem d_Showman_valueOf_25 : decode prog_7_method_6_code 25 = .ok (.iload_n 2, 1) := by decide +kernel
theorem d_Showman_valueOf_26 : decode prog_7_method_6_code 26 = .ok (.iaload, 1) := by decide +kernel
theorem d_Showman_valueOf_27 : decode prog_7_method_6_code 27 = .ok (.goto 4, 3) := by decide +kernel
theorem d_Showman_valueOf_30 : decode prog_7_method_6_code 30 = .ok (.iconst 0, 1) := by decide +kernel
theorem d_Showman_valueOf_31 : decode prog_7_method_6_code 31 = .ok (.ireturn, 1) := by decide +kernel
theorem d_Showman_holds_0 : decode prog_7_method_5_code 0 = .ok (.iconst 0, 1) := by decide +kernel
theorem d_Showman_holds_1 : decode prog_7_method_5_code 1 = .ok (.istore 4, 2) := by decide +kernel
theorem d_Showman_holds_3 : decode prog_7_method_5_code 3 = .ok (.iload_n 2, 1) := by decide +kernel
theorem d_Showman_holds_4 : decode prog_7_method_5_code 4 = .ok (.istore 5, 2) := by decide +kernel
theorem d_Showman_holds_6 : decode prog_7_method_5_code 6 = .ok (.iload 5, 2) := by decide +kernel
theorem d_Showman_holds_8 : decode prog_7_method_5_code 8 = .ok (.iload_n 3, 1) := by decide +kernel
theorem d_Showman_holds_9 : decode prog_7_method_5_code 9 = .ok (.if_icmp .ge 136, 3) := by decide +kernel
theorem d_Showman_holds_12 : decode prog_7_method_5_code 12 = .ok (.iload 5, 2) := by decide +kernel
theorem d_Showman_holds_14 : decode prog_7_method_5_code 14 = .ok (.aload_n 1, 1) := by decide +kernel
theorem d_Showman_holds_15 : decode prog_7_method_5_code 15 = .ok (.arraylength, 1) := by decide +kernel
theorem d_Showman_holds_16 : decode prog_7_method_5_code 16 = .ok (.if_icmp .ge 129, 3) := by decide +kernel
theorem d_Showman_holds_19 : decode prog_7_method_5_code 19 = .ok (.aload_n 1, 1) := by decide +kernel
theorem d_Showman_holds_20 : decode prog_7_method_5_code 20 = .ok (.iload 5, 2) := by decide +kernel
theorem d_Showman_holds_22 : decode prog_7_method_5_code 22 = .ok (.iaload, 1) := by decide +kernel
theorem d_Showman_holds_23 : decode prog_7_method_5_code 23 = .ok (.istore 6, 2) := by decide +kernel
theorem d_Showman_holds_25 : decode prog_7_method_5_code 25 = .ok (.iload 6, 2) := by decide +kernel
theorem d_Showman_holds_27 : decode prog_7_method_5_code 27 = .ok (.sipush 10010, 3) := by decide +kernel
theorem d_Showman_holds_30 : decode prog_7_method_5_code 30 = .ok (.if_icmp .ge 32, 3) := by decide +kernel
theorem d_Showman_holds_33 : decode prog_7_method_5_code 33 = .ok (.iload 4, 2) := by decide +kernel
theorem d_Showman_holds_35 : decode prog_7_method_5_code 35 = .ok (.aload_n 0, 1) := by decide +kernel
theorem d_Showman_holds_36 : decode prog_7_method_5_code 36 = .ok (.getfield 13, 3) := by decide +kernel
theorem d_Showman_holds_39 : decode prog_7_method_5_code 39 = .ok (.arraylength, 1) := by decide +kernel
theorem d_Showman_holds_40 : decode prog_7_method_5_code 40 = .ok (.if_icmp .ge 99, 3) := by decide +kernel
theorem d_Showman_holds_43 : decode prog_7_method_5_code 43 = .ok (.aload_n 0, 1) := by decide +kernel
theorem d_Showman_holds_44 : decode prog_7_method_5_code 44 = .ok (.getfield 13, 3) := by decide +kernel
theorem d_Showman_holds_47 : decode prog_7_method_5_code 47 = .ok (.iload 4, 2) := by decide +kernel
theorem d_Showman_holds_49 : decode prog_7_method_5_code 49 = .ok (.aload_n 0, 1) := by decide +kernel
theorem d_Showman_holds_50 : decode prog_7_method_5_code 50 = .ok (.iload 6, 2) := by decide +kernel
theorem d_Showman_holds_52 : decode prog_7_method_5_code 52 = .ok (.invokevirtual 34, 3) := by decide +kernel
theorem d_Showman_holds_55 : decode prog_7_method_5_code 55 = .ok (.iastore, 1) := by decide +kernel
theorem d_Showman_holds_56 : decode prog_7_method_5_code 56 = .ok (.iinc 4 1, 3) := by decide +kernel
theorem d_Showman_holds_59 : decode prog_7_method_5_code 59 = .ok (.goto 80, 3) := by decide +kernel
theorem d_Showman_holds_62 : decode prog_7_method_5_code 62 = .ok (.iload 6, 2) := by decide +kernel
theorem d_Showman_holds_64 : decode prog_7_method_5_code 64 = .ok (.sipush 10010, 3) := by decide +kernel
theorem d_Showman_holds_67 : decode prog_7_method_5_code 67 = .ok (.if_icmp .ne 31, 3) := by decide +kernel
theorem d_Showman_holds_70 : decode prog_7_method_5_code 70 = .ok (.iload 4, 2) := by decide +kernel
theorem d_Showman_holds_72 : decode prog_7_method_5_code 72 = .ok (.ifCond .le 67, 3) := by decide +kernel
theorem d_Showman_holds_75 : decode prog_7_method_5_code 75 = .ok (.aload_n 0, 1) := by decide +kernel
theorem d_Showman_holds_76 : decode prog_7_method_5_code 76 = .ok (.getfield 13, 3) := by decide +kernel
theorem d_Showman_holds_79 : decode prog_7_method_5_code 79 = .ok (.iload 4, 2) := by decide +kernel
theorem d_Showman_holds_81 : decode prog_7_method_5_code 81 = .ok (.iconst 1, 1) := by decide +kernel
theorem d_Showman_holds_82 : decode prog_7_method_5_code 82 = .ok (.isub, 1) := by decide +kernel
theorem d_Showman_holds_83 : decode prog_7_method_5_code 83 = .ok (.iconst 1, 1) := by decide +kernel
theorem d_Showman_holds_84 : decode prog_7_method_5_code 84 = .ok (.aload_n 0, 1) := by decide +kernel
theorem d_Showman_holds_85 : decode prog_7_method_5_code 85 = .ok (.getfield 13, 3) := by decide +kernel
theorem d_Showman_holds_88 : decode prog_7_method_5_code 88 = .ok (.iload 4, 2) := by decide +kernel
theorem d_Showman_holds_90 : decode prog_7_method_5_code 90 = .ok (.iconst 1, 1) := by decide +kernel
theorem d_Showman_holds_91 : decode prog_7_method_5_code 91 = .ok (.isub, 1) := by decide +kernel
theorem d_Showman_holds_92 : decode prog_7_method_5_code 92 = .ok (.iaload, 1) := by decide +kernel
theorem d_Showman_holds_93 : decode prog_7_method_5_code 93 = .ok (.isub, 1) := by decide +kernel
theorem d_Showman_holds_94 : decode prog_7_method_5_code 94 = .ok (.iastore, 1) := by decide +kernel
theorem d_Showman_holds_95 : decode prog_7_method_5_code 95 = .ok (.goto 44, 3) := by decide +kernel
theorem d_Showman_holds_98 : decode prog_7_method_5_code 98 = .ok (.iload 4, 2) := by decide +kernel
theorem d_Showman_holds_100 : decode prog_7_method_5_code 100 = .ok (.iconst 1, 1) := by decide +kernel
theorem d_Showman_holds_101 : decode prog_7_method_5_code 101 = .ok (.if_icmp .le 38, 3) := by decide +kernel
theorem d_Showman_holds_104 : decode prog_7_method_5_code 104 = .ok (.aload_n 0, 1) := by decide +kernel
theorem d_Showman_holds_105 : decode prog_7_method_5_code 105 = .ok (.getfield 13, 3) := by decide +kernel
theorem d_Showman_holds_108 : decode prog_7_method_5_code 108 = .ok (.iload 4, 2) := by decide +kernel
theorem d_Showman_holds_110 : decode prog_7_method_5_code 110 = .ok (.iconst 2, 1) := by decide +kernel
theorem d_Showman_holds_111 : decode prog_7_method_5_code 111 = .ok (.isub, 1) := by decide +kernel
theorem d_Showman_holds_112 : decode prog_7_method_5_code 112 = .ok (.iload 6, 2) := by decide +kernel
theorem d_Showman_holds_114 : decode prog_7_method_5_code 114 = .ok (.aload_n 0, 1) := by decide +kernel
theorem d_Showman_holds_115 : decode prog_7_method_5_code 115 = .ok (.getfield 13, 3) := by decide +kernel
theorem d_Showman_holds_118 : decode prog_7_method_5_code 118 = .ok (.iload 4, 2) := by decide +kernel
theorem d_Showman_holds_120 : decode prog_7_method_5_code 120 = .ok (.iconst 2, 1) := by decide +kernel
theorem d_Showman_holds_121 : decode prog_7_method_5_code 121 = .ok (.isub, 1) := by decide +kernel
theorem d_Showman_holds_122 : decode prog_7_method_5_code 122 = .ok (.iaload, 1) := by decide +kernel
theorem d_Showman_holds_123 : decode prog_7_method_5_code 123 = .ok (.aload_n 0, 1) := by decide +kernel
theorem d_Showman_holds_124 : decode prog_7_method_5_code 124 = .ok (.getfield 13, 3) := by decide +kernel
theorem d_Showman_holds_127 : decode prog_7_method_5_code 127 = .ok (.iload 4, 2) := by decide +kernel
theorem d_Showman_holds_129 : decode prog_7_method_5_code 129 = .ok (.iconst 1, 1) := by decide +kernel
theorem d_Showman_holds_130 : decode prog_7_method_5_code 130 = .ok (.isub, 1) := by decide +kernel
theorem d_Showman_holds_131 : decode prog_7_method_5_code 131 = .ok (.iaload, 1) := by decide +kernel
theorem d_Showman_holds_132 : decode prog_7_method_5_code 132 = .ok (.invokestatic 38, 3) := by decide +kernel
theorem d_Showman_holds_135 : decode prog_7_method_5_code 135 = .ok (.iastore, 1) := by decide +kernel
theorem d_Showman_holds_136 : decode prog_7_method_5_code 136 = .ok (.iinc 4 (-1), 3) := by decide +kernel
theorem d_Showman_holds_139 : decode prog_7_method_5_code 139 = .ok (.iinc 5 1, 3) := by decide +kernel
theorem d_Showman_holds_142 : decode prog_7_method_5_code 142 = .ok (.goto (-136), 3) := by decide +kernel
theorem d_Showman_holds_145 : decode prog_7_method_5_code 145 = .ok (.iload 4, 2) := by decide +kernel
theorem d_Showman_holds_147 : decode prog_7_method_5_code 147 = .ok (.ifCond .le 19, 3) := by decide +kernel
theorem d_Showman_holds_150 : decode prog_7_method_5_code 150 = .ok (.aload_n 0, 1) := by decide +kernel
theorem d_Showman_holds_151 : decode prog_7_method_5_code 151 = .ok (.getfield 13, 3) := by decide +kernel
theorem d_Showman_holds_154 : decode prog_7_method_5_code 154 = .ok (.iload 4, 2) := by decide +kernel
theorem d_Showman_holds_156 : decode prog_7_method_5_code 156 = .ok (.iconst 1, 1) := by decide +kernel
theorem d_Showman_holds_157 : decode prog_7_method_5_code 157 = .ok (.isub, 1) := by decide +kernel
theorem d_Showman_holds_158 : decode prog_7_method_5_code 158 = .ok (.iaload, 1) := by decide +kernel
theorem d_Showman_holds_159 : decode prog_7_method_5_code 159 = .ok (.ifCond .eq 7, 3) := by decide +kernel
theorem d_Showman_holds_162 : decode prog_7_method_5_code 162 = .ok (.iconst 1, 1) := by decide +kernel
theorem d_Showman_holds_163 : decode prog_7_method_5_code 163 = .ok (.goto 4, 3) := by decide +kernel
theorem d_Showman_holds_166 : decode prog_7_method_5_code 166 = .ok (.iconst 0, 1) := by decide +kernel
theorem d_Showman_holds_167 : decode prog_7_method_5_code 167 = .ok (.ireturn, 1) := by decide +kernel
theorem d_Showman_rulesThatHold_0 : decode prog_7_method_4_code 0 = .ok (.iconst 0, 1) := by decide +kernel
theorem d_Showman_rulesThatHold_1 : decode prog_7_method_4_code 1 = .ok (.istore_n 2, 1) := by decide +kernel
theorem d_Showman_rulesThatHold_2 : decode prog_7_method_4_code 2 = .ok (.iconst 0, 1) := by decide +kernel
theorem d_Showman_rulesThatHold_3 : decode prog_7_method_4_code 3 = .ok (.istore_n 3, 1) := by decide +kernel
theorem d_Showman_rulesThatHold_4 : decode prog_7_method_4_code 4 = .ok (.iconst 0, 1) := by decide +kernel
theorem d_Showman_rulesThatHold_5 : decode prog_7_method_4_code 5 = .ok (.istore 4, 2) := by decide +kernel
theorem d_Showman_rulesThatHold_7 : decode prog_7_method_4_code 7 = .ok (.iload 4, 2) := by decide +kernel
theorem d_Showman_rulesThatHold_9 : decode prog_7_method_4_code 9 = .ok (.aload_n 1, 1) := by decide +kernel
theorem d_Showman_rulesThatHold_10 : decode prog_7_method_4_code 10 = .ok (.getfield 16, 3) := by decide +kernel
theorem d_Showman_rulesThatHold_13 : decode prog_7_method_4_code 13 = .ok (.if_icmp .ge 43, 3) := by decide +kernel
theorem d_Showman_rulesThatHold_16 : decode prog_7_method_4_code 16 = .ok (.aload_n 0, 1) := by decide +kernel
theorem d_Showman_rulesThatHold_17 : decode prog_7_method_4_code 17 = .ok (.aload_n 1, 1) := by decide +kernel
theorem d_Showman_rulesThatHold_18 : decode prog_7_method_4_code 18 = .ok (.getfield 22, 3) := by decide +kernel
theorem d_Showman_rulesThatHold_21 : decode prog_7_method_4_code 21 = .ok (.iload_n 3, 1) := by decide +kernel
theorem d_Showman_rulesThatHold_22 : decode prog_7_method_4_code 22 = .ok (.aload_n 1, 1) := by decide +kernel
theorem d_Showman_rulesThatHold_23 : decode prog_7_method_4_code 23 = .ok (.getfield 25, 3) := by decide +kernel
theorem d_Showman_rulesThatHold_26 : decode prog_7_method_4_code 26 = .ok (.iload 4, 2) := by decide +kernel
theorem d_Showman_rulesThatHold_28 : decode prog_7_method_4_code 28 = .ok (.iaload, 1) := by decide +kernel
theorem d_Showman_rulesThatHold_29 : decode prog_7_method_4_code 29 = .ok (.invokevirtual 28, 3) := by decide +kernel
theorem d_Showman_rulesThatHold_32 : decode prog_7_method_4_code 32 = .ok (.ifCond .eq 10, 3) := by decide +kernel
theorem d_Showman_rulesThatHold_35 : decode prog_7_method_4_code 35 = .ok (.iload_n 2, 1) := by decide +kernel
theorem d_Showman_rulesThatHold_36 : decode prog_7_method_4_code 36 = .ok (.iconst 1, 1) := by decide +kernel
theorem d_Showman_rulesThatHold_37 : decode prog_7_method_4_code 37 = .ok (.iload 4, 2) := by decide +kernel
theorem d_Showman_rulesThatHold_39 : decode prog_7_method_4_code 39 = .ok (.ishl, 1) := by decide +kernel
theorem d_Showman_rulesThatHold_40 : decode prog_7_method_4_code 40 = .ok (.ior, 1) := by decide +kernel
theorem d_Showman_rulesThatHold_41 : decode prog_7_method_4_code 41 = .ok (.istore_n 2, 1) := by decide +kernel
theorem d_Showman_rulesThatHold_42 : decode prog_7_method_4_code 42 = .ok (.aload_n 1, 1) := by decide +kernel
theorem d_Showman_rulesThatHold_43 : decode prog_7_method_4_code 43 = .ok (.getfield 25, 3) := by decide +kernel
theorem d_Showman_rulesThatHold_46 : decode prog_7_method_4_code 46 = .ok (.iload 4, 2) := by decide +kernel
theorem d_Showman_rulesThatHold_48 : decode prog_7_method_4_code 48 = .ok (.iaload, 1) := by decide +kernel
theorem d_Showman_rulesThatHold_49 : decode prog_7_method_4_code 49 = .ok (.istore_n 3, 1) := by decide +kernel
theorem d_Showman_rulesThatHold_50 : decode prog_7_method_4_code 50 = .ok (.iinc 4 1, 3) := by decide +kernel
theorem d_Showman_rulesThatHold_53 : decode prog_7_method_4_code 53 = .ok (.goto (-46), 3) := by decide +kernel
theorem d_Showman_rulesThatHold_56 : decode prog_7_method_4_code 56 = .ok (.iload_n 2, 1) := by decide +kernel
theorem d_Showman_rulesThatHold_57 : decode prog_7_method_4_code 57 = .ok (.ireturn, 1) := by decide +kernel
def f_Book_toldBlows (σ : St) : Option (Int32) :=
  some (iMin 60 (sI σ 24))
set_option maxHeartbeats 4000000 in
set_option maxRecDepth 20000 in
theorem c_Book_toldBlows {l : Launch} {g : GX} {q : Nat → Nat}  {σ : St} {r : Int32} (hf : f_Book_toldBlows   σ = some r) : KK l y_Book_toldBlows prog_2_method_10_code 1 (some .int) 1 g (wX g q) σ [.ref (q 14)] (some (.int r)) (wX g q) σ := by
  refine KK_of (plainFor_of_name (by decide)) (Nat.le_of_ble_eq_true rfl) (fun p e s m below meth c A ls C w hl => ?_)
  have hl : lv_has ls 1 [(0, .ref (q 14))] := hl
  obtain ⟨hx, hb, hml, hown, hts, hK, hA, hZ, hlocks, hr, hN⟩ := id C
  unfold f_Book_toldBlows at hf
  refine lv_bipush (v := 60) hx hb d_Book_toldBlows_0 (by decide) ?_
  refine lv_aload_n hx hb d_Book_toldBlows_2 rfl (lv_at hl 0 rfl) ?_
  refine xg_14_keptBlows C w k355 d_Book_toldBlows_3 ?_
  refine r_min C hl.1 (by omega) (Nat.le_of_ble_eq_true rfl) k714 d_Book_toldBlows_6 ?_
  cases some_e hf
  exact k_iret C w d_Book_toldBlows_9
def f_BH_has (x1 : Int32) (σ : St) : Option (Int32) :=
  if x1 = 0 then
    some (sI σ 53)
  else
    if x1 = 1 then
      some (sI σ 54)
    else
      if x1 = 2 then
        some (sI σ 55)
      else
        if x1 = 3 then
          some (sI σ 19)
        else
          if x1 = 4 then
            some (sA σ 9 (0 : Int32).toNatClampNeg)
          else
            if x1 = 5 then
              some (sA σ 9 (2 : Int32).toNatClampNeg)
            else
              if x1 = 6 then
                some (sA σ 25 (3 : Int32).toNatClampNeg)
              else
                if x1 = 7 then
                  some (sA σ 9 (1 : Int32).toNatClampNeg)
                else
                  if x1 = 8 then
                    some (sA σ 25 (4 : Int32).toNatClampNeg)
                  else
                    if x1 = 9 then
                      some (sA σ 25 (5 : Int32).toNatClampNeg)
                    else
                      if x1 = 10 then
                        some (sI σ 17)
                      else
                        if x1 = 11 then
                          some (sI σ 18)
                        else
                          if x1 = 12 then
                            bp (f_Book_toldBlows σ) fun r_2 =>
                            some r_2
                          else
                            if x1 = 13 then
                              some (sI σ 23)
                            else
                              some (-1)
set_option maxHeartbeats 4000000 in
set_option maxRecDepth 20000 in
theorem c_BH_has {l : Launch} {g : GX} {q : Nat → Nat} {x1 : Int32}  {σ : St} {r : Int32} (hf : f_BH_has  x1 σ = some r) : KK l y_BH_has prog_1_method_6_code 2 (some .int) 2 g (wX g q) σ [.ref (q 0), .int x1] (some (.int r)) (wX g q) σ := by
  refine KK_of (plainFor_of_name (by decide)) (Nat.le_of_ble_eq_true rfl) (fun p e s m below meth c A ls C w hl => ?_)
  have hl : lv_has ls 2 [(0, .ref (q 0)), (1, .int x1)] := hl
  obtain ⟨hx, hb, hml, hown, hts, hK, hA, hZ, hlocks, hr, hN⟩ := id C
  unfold f_BH_has at hf
  refine lv_iload_n hx hb d_BH_has_0 rfl (lv_at hl 1 rfl) ?_
  by_cases c0 : x1 = 0
  · have hf := it_e c0 hf
    refine lv_tableIn (tgt := 72) hx hb d_BH_has_1 (by rw [c0]; decide) (by rw [c0]; decide) (by rw [c0]; rfl) (by decide) ?_
    refine lv_aload_n hx hb d_BH_has_72 rfl (lv_at hl 0 rfl) ?_
    refine xg_0_fair C w k511 d_BH_has_73 ?_
    refine xg_34_marks C w k271 d_BH_has_76 ?_
    cases some_e hf
    exact k_iret C w d_BH_has_79
  have hf := if_e c0 hf
  have n0 := lv_neT c0 (a := 0) rfl
  by_cases c1 : x1 = 1
  · have hf := it_e c1 hf
    refine lv_tableIn (tgt := 80) hx hb d_BH_has_1 (by rw [c1]; decide) (by rw [c1]; decide) (by rw [c1]; rfl) (by decide) ?_
    refine lv_aload_n hx hb d_BH_has_80 rfl (lv_at hl 0 rfl) ?_
    refine xg_0_fair C w k511 d_BH_has_81 ?_
    refine xg_34_triers C w k274 d_BH_has_84 ?_
    cases some_e hf
    exact k_iret C w d_BH_has_87
  have hf := if_e c1 hf
  have n1 := lv_neT c1 (a := 1) rfl
  by_cases c2 : x1 = 2
  · have hf := it_e c2 hf
    refine lv_tableIn (tgt := 88) hx hb d_BH_has_1 (by rw [c2]; decide) (by rw [c2]; decide) (by rw [c2]; rfl) (by decide) ?_
    refine lv_aload_n hx hb d_BH_has_88 rfl (lv_at hl 0 rfl) ?_
    refine xg_0_fair C w k511 d_BH_has_89 ?_
    refine xg_34_rules C w k280 d_BH_has_92 ?_
    cases some_e hf
    exact k_iret C w d_BH_has_95
  have hf := if_e c2 hf
  have n2 := lv_neT c2 (a := 2) rfl
  by_cases c3 : x1 = 3
  · have hf := it_e c3 hf
    refine lv_tableIn (tgt := 96) hx hb d_BH_has_1 (by rw [c3]; decide) (by rw [c3]; decide) (by rw [c3]; rfl) (by decide) ?_
    refine lv_aload_n hx hb d_BH_has_96 rfl (lv_at hl 0 rfl) ?_
    refine xg_0_book C w k507 d_BH_has_97 ?_
    refine xg_14_inForce C w k340 d_BH_has_100 ?_
    cases some_e hf
    exact k_iret C w d_BH_has_103
  have hf := if_e c3 hf
  have n3 := lv_neT c3 (a := 3) rfl
  by_cases c4 : x1 = 4
  · have hf := it_e c4 hf
    refine lv_tableIn (tgt := 104) hx hb d_BH_has_1 (by rw [c4]; decide) (by rw [c4]; decide) (by rw [c4]; rfl) (by decide) ?_
    refine lv_aload_n hx hb d_BH_has_104 rfl (lv_at hl 0 rfl) ?_
    refine xg_0_book C w k507 d_BH_has_105 ?_
    refine xg_14_now C w k342 d_BH_has_108 ?_
    refine lv_iconst (v := 0) hx hb d_BH_has_111 (by decide) ?_
    refine xl_15 C w (by decide) d_BH_has_112 ?_
    cases some_e hf
    exact k_iret C w d_BH_has_113
  have hf := if_e c4 hf
  have n4 := lv_neT c4 (a := 4) rfl
  by_cases c5 : x1 = 5
  · have hf := it_e c5 hf
    refine lv_tableIn (tgt := 114) hx hb d_BH_has_1 (by rw [c5]; decide) (by rw [c5]; decide) (by rw [c5]; rfl) (by decide) ?_
    refine lv_aload_n hx hb d_BH_has_114 rfl (lv_at hl 0 rfl) ?_
    refine xg_0_book C w k507 d_BH_has_115 ?_
    refine xg_14_now C w k342 d_BH_has_118 ?_
    refine lv_iconst (v := 2) hx hb d_BH_has_121 (by decide) ?_
    refine xl_15 C w (by decide) d_BH_has_122 ?_
    cases some_e hf
    exact k_iret C w d_BH_has_123
  have hf := if_e c5 hf
  have n5 := lv_neT c5 (a := 5) rfl
  by_cases c6 : x1 = 6
  · have hf := it_e c6 hf
    refine lv_tableIn (tgt := 124) hx hb d_BH_has_1 (by rw [c6]; decide) (by rw [c6]; decide) (by rw [c6]; rfl) (by decide) ?_
    refine lv_aload_n hx hb d_BH_has_124 rfl (lv_at hl 0 rfl) ?_
    refine xg_0_fair C w k511 d_BH_has_125 ?_
    refine xg_34_settings C w k261 d_BH_has_128 ?_
    refine lv_iconst (v := 3) hx hb d_BH_has_131 (by decide) ?_
    refine xl_39 C w (by decide) d_BH_has_132 ?_
    cases some_e hf
    exact k_iret C w d_BH_has_133
  have hf := if_e c6 hf
  have n6 := lv_neT c6 (a := 6) rfl
  by_cases c7 : x1 = 7
  · have hf := it_e c7 hf
    refine lv_tableIn (tgt := 134) hx hb d_BH_has_1 (by rw [c7]; decide) (by rw [c7]; decide) (by rw [c7]; rfl) (by decide) ?_
    refine lv_aload_n hx hb d_BH_has_134 rfl (lv_at hl 0 rfl) ?_
    refine xg_0_book C w k507 d_BH_has_135 ?_
    refine xg_14_now C w k342 d_BH_has_138 ?_
    refine lv_iconst (v := 1) hx hb d_BH_has_141 (by decide) ?_
    refine xl_15 C w (by decide) d_BH_has_142 ?_
    cases some_e hf
    exact k_iret C w d_BH_has_143
  have hf := if_e c7 hf
  have n7 := lv_neT c7 (a := 7) rfl
  by_cases c8 : x1 = 8
  · have hf := it_e c8 hf
    refine lv_tableIn (tgt := 144) hx hb d_BH_has_1 (by rw [c8]; decide) (by rw [c8]; decide) (by rw [c8]; rfl) (by decide) ?_
    refine lv_aload_n hx hb d_BH_has_144 rfl (lv_at hl 0 rfl) ?_
    refine xg_0_fair C w k511 d_BH_has_145 ?_
    refine xg_34_settings C w k261 d_BH_has_148 ?_
    refine lv_iconst (v := 4) hx hb d_BH_has_151 (by decide) ?_
    refine xl_39 C w (by decide) d_BH_has_152 ?_
    cases some_e hf
    exact k_iret C w d_BH_has_153
  have hf := if_e c8 hf
  have n8 := lv_neT c8 (a := 8) rfl
  by_cases c9 : x1 = 9
  · have hf := it_e c9 hf
    refine lv_tableIn (tgt := 154) hx hb d_BH_has_1 (by rw [c9]; decide) (by rw [c9]; decide) (by rw [c9]; rfl) (by decide) ?_
    refine lv_aload_n hx hb d_BH_has_154 rfl (lv_at hl 0 rfl) ?_
    refine xg_0_fair C w k511 d_BH_has_155 ?_
    refine xg_34_settings C w k261 d_BH_has_158 ?_
    refine lv_iconst (v := 5) hx hb d_BH_has_161 (by decide) ?_
    refine xl_39 C w (by decide) d_BH_has_162 ?_
    cases some_e hf
    exact k_iret C w d_BH_has_163
  have hf := if_e c9 hf
  have n9 := lv_neT c9 (a := 9) rfl
  by_cases c10 : x1 = 10
  · have hf := it_e c10 hf
    refine lv_tableIn (tgt := 164) hx hb d_BH_has_1 (by rw [c10]; decide) (by rw [c10]; decide) (by rw [c10]; rfl) (by decide) ?_
    refine lv_aload_n hx hb d_BH_has_164 rfl (lv_at hl 0 rfl) ?_
    refine xg_0_book C w k507 d_BH_has_165 ?_
    refine xg_14_nights C w k336 d_BH_has_168 ?_
    cases some_e hf
    exact k_iret C w d_BH_has_171
  have hf := if_e c10 hf
  have n10 := lv_neT c10 (a := 10) rfl
  by_cases c11 : x1 = 11
  · have hf := it_e c11 hf
    refine lv_tableIn (tgt := 172) hx hb d_BH_has_1 (by rw [c11]; decide) (by rw [c11]; decide) (by rw [c11]; rfl) (by decide) ?_
    refine lv_aload_n hx hb d_BH_has_172 rfl (lv_at hl 0 rfl) ?_
    refine xg_0_book C w k507 d_BH_has_173 ?_
    refine xg_14_takings C w k338 d_BH_has_176 ?_
    cases some_e hf
    exact k_iret C w d_BH_has_179
  have hf := if_e c11 hf
  have n11 := lv_neT c11 (a := 11) rfl
  by_cases c12 : x1 = 12
  · have hf := it_e c12 hf
    refine lv_tableIn (tgt := 180) hx hb d_BH_has_1 (by rw [c12]; decide) (by rw [c12]; decide) (by rw [c12]; rfl) (by decide) ?_
    refine lv_aload_n hx hb d_BH_has_180 rfl (lv_at hl 0 rfl) ?_
    refine xg_0_book C w k507 d_BH_has_181 ?_
    obtain ⟨r_2, h_1, hf⟩ := bp_e hf
    refine k_callV (As := []) (rest := []) C w (c_Book_toldBlows (q := q) h_1) cv_Book_toldBlows k710 (xr_14 C w) (by decide) hl.1 rfl (Nat.le_of_ble_eq_true rfl) d_BH_has_184 (fun H locs w => ?_)
    show WK p l e s m _ below meth c 2 g (wX g q) A (some (.int r)) σ H locs (F0 m 187 ls [.int r_2])
    cases some_e hf
    exact k_iret C w d_BH_has_187
  have hf := if_e c12 hf
  have n12 := lv_neT c12 (a := 12) rfl
  by_cases c13 : x1 = 13
  · have hf := it_e c13 hf
    refine lv_tableIn (tgt := 188) hx hb d_BH_has_1 (by rw [c13]; decide) (by rw [c13]; decide) (by rw [c13]; rfl) (by decide) ?_
    refine lv_aload_n hx hb d_BH_has_188 rfl (lv_at hl 0 rfl) ?_
    refine xg_0_book C w k507 d_BH_has_189 ?_
    refine xg_14_acts C w k350 d_BH_has_192 ?_
    cases some_e hf
    exact k_iret C w d_BH_has_195
  have hf := if_e c13 hf
  have n13 := lv_neT c13 (a := 13) rfl
  refine lv_tableOut (tgt := 196) hx hb d_BH_has_1 (by omega) (by decide) ?_
  refine lv_iconst (v := (-1)) hx hb d_BH_has_196 (by decide) ?_
  cases some_e hf
  exact k_iret C w d_BH_has_197
def f_BH_isTrier (x1 : Int32) (σ : St) : Option (Int32) :=
  if x1 < 0 then
    some 0
  else
    if (sI σ 54) ≤ x1 then
      some 0
    else
      some 1
set_option maxHeartbeats 4000000 in
set_option maxRecDepth 20000 in
theorem c_BH_isTrier {l : Launch} {g : GX} {q : Nat → Nat} {x1 : Int32}  {σ : St} {r : Int32} (hf : f_BH_isTrier  x1 σ = some r) : KK l y_BH_isTrier prog_1_method_36_code 2 (some .boolean) 0 g (wX g q) σ [.ref (q 0), .int x1] (some (.int r)) (wX g q) σ := by
  refine KK_of (plainFor_of_name (by decide)) (Nat.le_of_ble_eq_true rfl) (fun p e s m below meth c A ls C w hl => ?_)
  have hl : lv_has ls 2 [(0, .ref (q 0)), (1, .int x1)] := hl
  obtain ⟨hx, hb, hml, hown, hts, hK, hA, hZ, hlocks, hr, hN⟩ := id C
  unfold f_BH_isTrier at hf
  refine lv_iload_n hx hb d_BH_isTrier_0 rfl (lv_at hl 1 rfl) ?_
  refine lv_if_lt (tgt := 19) hx hb d_BH_isTrier_1 (by decide) (fun cd => ?_) (fun cd => ?_)
  · have hf := it_e cd hf
    refine lv_iconst (v := 0) hx hb d_BH_isTrier_19 (by decide) ?_
    cases some_e hf
    exact k_zret C w (by decide) d_BH_isTrier_20
  · have hf := if_e cd hf
    refine lv_iload_n hx hb d_BH_isTrier_4 rfl (lv_at hl 1 rfl) ?_
    refine lv_aload_n hx hb d_BH_isTrier_5 rfl (lv_at hl 0 rfl) ?_
    refine xg_0_fair C w k511 d_BH_isTrier_6 ?_
    refine xg_34_triers C w k274 d_BH_isTrier_9 ?_
    refine lv_icmp_ge (tgt := 19) hx hb d_BH_isTrier_12 (by decide) (fun cd => ?_) (fun cd => ?_)
    · have hf := it_e cd hf
      refine lv_iconst (v := 0) hx hb d_BH_isTrier_19 (by decide) ?_
      cases some_e hf
      exact k_zret C w (by decide) d_BH_isTrier_20
    · have hf := if_e cd hf
      refine lv_iconst (v := 1) hx hb d_BH_isTrier_15 (by decide) ?_
      refine lv_goto (tgt := 20) hx hb d_BH_isTrier_16 (by decide) ?_
      cases some_e hf
      exact k_zret C w (by decide) d_BH_isTrier_20
def f_BH_letterOf_4b (k4 : Int32 → Int32 → Int32 → St → Option (Int32)) (x1 : Int32) (x2 : Int32) (x3 : Int32) (σ : St) : Option (Int32) :=
  if x3 ≤ x1 then
    some (iR x2 27)
  else
    lt ((x2 / 27)) fun x_1 =>
    lt ((x3 + (-1))) fun x_2 =>
    k4 x1 x_1 x_2 σ
def f_BH_letterOf_4 : Nat → Int32 → Int32 → Int32 → St → Option (Int32)
  | 0 => fun _ _ _ _ => none
  | n + 1 => f_BH_letterOf_4b   (f_BH_letterOf_4   n)
def f_BH_letterOf (x0 : Int32) (x1 : Int32) (σ : St) : Option (Int32) :=
  f_BH_letterOf_4 FU x1 x0 5 σ
set_option maxHeartbeats 4000000 in
set_option maxRecDepth 20000 in
theorem t_BH_letterOf_4b {r : Int32} {σ : St} (C : Cx g A p s m av meth c prog_1_method_48_code 4 "BellHammer" (some .int)) {k4 : Int32 → Int32 → Int32 → St → Option (Int32)} (hk4 : ∀ (x1 : Int32) (x2 : Int32) (x3 : Int32) (H : Heap) (locs : List Loc) (ls : Array Slot), k4 x1 x2 x3 σ = some r → Wd g (wX g q) A s σ H locs → lv_has ls 4 [(1, .int x1), (2, .int x2), (3, .int x3)] → WK p l e s m av below meth c 0 g (wX g q) A (some (.int r)) σ H locs (F0 m 4 ls []))  {x1 : Int32} {x2 : Int32} {x3 : Int32} {H : Heap} {locs : List Loc} {ls : Array Slot} (hf : f_BH_letterOf_4b  k4 x1 x2 x3 σ = some r) (w : Wd g (wX g q) A s σ H locs) (hl : lv_has ls 4 [(1, .int x1), (2, .int x2), (3, .int x3)]) : WK p l e s m av below meth c 0 g (wX g q) A (some (.int r)) σ H locs (F0 m 4 ls []) := by
  obtain ⟨hx, hb, hml, hown, hts, hK, hA, hZ, hlocks, hr, hN⟩ := id C
  unfold f_BH_letterOf_4b at hf
  refine lv_iload_n hx hb d_BH_letterOf_4 rfl (lv_at hl 2 rfl) ?_
  refine lv_iload_n hx hb d_BH_letterOf_5 rfl (lv_at hl 0 rfl) ?_
  refine lv_icmp_le (tgt := 20) hx hb d_BH_letterOf_6 (by decide) (fun cd => ?_) (fun cd => ?_)
  · have hf := it_e cd hf
    refine lv_iload_n hx hb d_BH_letterOf_20 rfl (lv_at hl 1 rfl) ?_
    refine lv_bipush (v := 27) hx hb d_BH_letterOf_21 (by decide) ?_
    refine r_irem hx hb d_BH_letterOf_23 (by decide) ?_
    cases some_e hf
    exact k_iret C w d_BH_letterOf_24
  · have hf := if_e cd hf
    refine lv_iload_n hx hb d_BH_letterOf_9 rfl (lv_at hl 1 rfl) ?_
    refine lv_bipush (v := 27) hx hb d_BH_letterOf_10 (by decide) ?_
    refine lv_idiv hx hb d_BH_letterOf_12 (by decide) ?_
    refine lv_topi (fun x_1 ex_1 => ?_)
    have hf := lt_e ex_1 hf
    refine lv_istore_n (lv' := [(2, .int x_1), (1, .int x1), (3, .int x3)]) hx hb d_BH_letterOf_13 rfl hl (by decide) rfl (fun ls hl => ?_)
    obtain ⟨x_2, ex_2⟩ : ∃ y : Int32, y = (x3 + (-1)) := ⟨_, rfl⟩
    have hf := lt_e ex_2 hf
    refine lv_iinc (v := x_2) (lv' := [(3, .int x_2), (2, .int x_1), (1, .int x1)]) hx hb d_BH_letterOf_14 hl (k := 2) rfl (by rw [ex_2]; rfl) (by decide) rfl (fun ls hl => ?_)
    refine lv_goto (tgt := 4) hx hb d_BH_letterOf_17 (by decide) ?_
    exact hk4 x1 x_1 x_2  _ _ _ hf w (lv_sub hl [2, 1, 0] rfl)
set_option maxHeartbeats 4000000 in
set_option maxRecDepth 20000 in
theorem t_BH_letterOf_4 {r : Int32} {σ : St} (C : Cx g A p s m av meth c prog_1_method_48_code 4 "BellHammer" (some .int))  : ∀ (n : Nat) (x1 : Int32) (x2 : Int32) (x3 : Int32) (H : Heap) (locs : List Loc) (ls : Array Slot), f_BH_letterOf_4   n x1 x2 x3 σ = some r → Wd g (wX g q) A s σ H locs → lv_has ls 4 [(1, .int x1), (2, .int x2), (3, .int x3)] → WK p l e s m av below meth c 0 g (wX g q) A (some (.int r)) σ H locs (F0 m 4 ls []) := by
  intro n
  induction n with
  | zero => intro x1 x2 x3 H locs ls hf; exact absurd hf (by intro z; cases z)
  | succ n ih => intro x1 x2 x3 H locs ls hf w hl; exact t_BH_letterOf_4b C  ih hf w hl
set_option maxHeartbeats 4000000 in
set_option maxRecDepth 20000 in
theorem c_BH_letterOf {l : Launch} {g : GX} {q : Nat → Nat} {x0 : Int32} {x1 : Int32}  {σ : St} {r : Int32} (hf : f_BH_letterOf  x0 x1 σ = some r) : KK l y_BH_letterOf prog_1_method_48_code 4 (some .int) 0 g (wX g q) σ [.int x0, .int x1] (some (.int r)) (wX g q) σ := by
  refine KK_of (plainFor_of_name (by decide)) (Nat.le_of_ble_eq_true rfl) (fun p e s m below meth c A ls C w hl => ?_)
  have hl : lv_has ls 4 [(0, .int x0), (1, .int x1)] := hl
  obtain ⟨hx, hb, hml, hown, hts, hK, hA, hZ, hlocks, hr, hN⟩ := id C
  unfold f_BH_letterOf at hf
  refine lv_iload_n hx hb d_BH_letterOf_0 rfl (lv_at hl 0 rfl) ?_
  refine lv_istore_n (lv' := [(2, .int x0), (0, .int x0), (1, .int x1)]) hx hb d_BH_letterOf_1 rfl hl (by decide) rfl (fun ls hl => ?_)
  refine lv_iconst (v := 5) hx hb d_BH_letterOf_2 (by decide) ?_
  refine lv_istore_n (lv' := [(3, .int 5), (2, .int x0), (0, .int x0), (1, .int x1)]) hx hb d_BH_letterOf_3 rfl hl (by decide) rfl (fun ls hl => ?_)
  exact t_BH_letterOf_4 C  FU x1 x0 5  _ _ _ hf w (lv_sub hl [3, 1, 0] rfl)
def f_BH_isMark (x1 : Int32) (σ : St) : Option (Int32) :=
  if x1 < 0 then
    some 0
  else
    if (sI σ 53) ≤ x1 then
      some 0
    else
      some 1
set_option maxHeartbeats 4000000 in
set_option maxRecDepth 20000 in
theorem c_BH_isMark {l : Launch} {g : GX} {q : Nat → Nat} {x1 : Int32}  {σ : St} {r : Int32} (hf : f_BH_isMark  x1 σ = some r) : KK l y_BH_isMark prog_1_method_35_code 2 (some .boolean) 0 g (wX g q) σ [.ref (q 0), .int x1] (some (.int r)) (wX g q) σ := by
  refine KK_of (plainFor_of_name (by decide)) (Nat.le_of_ble_eq_true rfl) (fun p e s m below meth c A ls C w hl => ?_)
  have hl : lv_has ls 2 [(0, .ref (q 0)), (1, .int x1)] := hl
  obtain ⟨hx, hb, hml, hown, hts, hK, hA, hZ, hlocks, hr, hN⟩ := id C
  unfold f_BH_isMark at hf
  refine lv_iload_n hx hb d_BH_isMark_0 rfl (lv_at hl 1 rfl) ?_
  refine lv_if_lt (tgt := 19) hx hb d_BH_isMark_1 (by decide) (fun cd => ?_) (fun cd => ?_)
  · have hf := it_e cd hf
    refine lv_iconst (v := 0) hx hb d_BH_isMark_19 (by decide) ?_
    cases some_e hf
    exact k_zret C w (by decide) d_BH_isMark_20
  · have hf := if_e cd hf
    refine lv_iload_n hx hb d_BH_isMark_4 rfl (lv_at hl 1 rfl) ?_
    refine lv_aload_n hx hb d_BH_isMark_5 rfl (lv_at hl 0 rfl) ?_
    refine xg_0_fair C w k511 d_BH_isMark_6 ?_
    refine xg_34_marks C w k271 d_BH_isMark_9 ?_
    refine lv_icmp_ge (tgt := 19) hx hb d_BH_isMark_12 (by decide) (fun cd => ?_) (fun cd => ?_)
    · have hf := it_e cd hf
      refine lv_iconst (v := 0) hx hb d_BH_isMark_19 (by decide) ?_
      cases some_e hf
      exact k_zret C w (by decide) d_BH_isMark_20
    · have hf := if_e cd hf
      refine lv_iconst (v := 1) hx hb d_BH_isMark_15 (by decide) ?_
      refine lv_goto (tgt := 20) hx hb d_BH_isMark_16 (by decide) ?_
      cases some_e hf
      exact k_zret C w (by decide) d_BH_isMark_20
def f_BH_letter_38 (x1 : Int32) (x2 : Int32) (x3 : Int32) (σ : St) : Option (Int32) :=
  if x1 = 1 then
    bp (f_BH_isTrier x2 σ) fun r_2 =>
    if r_2 = 0 then
      some (-1)
    else
      gd (inB x2 8) <|
      bp (f_BH_letterOf (sA σ 23 x2.toNatClampNeg) x3 σ) fun r_5 =>
      some r_5
  else
    some (-1)
def f_BH_letter (x1 : Int32) (x2 : Int32) (x3 : Int32) (σ : St) : Option (Int32) :=
  if x3 < 0 then
    some (-1)
  else
    if x3 < 6 then
      if x1 = 0 then
        bp (f_BH_isMark x2 σ) fun r_2 =>
        if r_2 = 0 then
          f_BH_letter_38 x1 x2 x3 σ
        else
          gd (inB x2 6) <|
          bp (f_BH_letterOf (sA σ 21 x2.toNatClampNeg) x3 σ) fun r_5 =>
          some r_5
      else
        f_BH_letter_38 x1 x2 x3 σ
    else
      some (-1)
set_option maxHeartbeats 4000000 in
set_option maxRecDepth 20000 in
theorem t_BH_letter_38 {r : Int32} {σ : St} (C : Cx g A p s m av meth c prog_1_method_7_code 4 "BellHammer" (some .int))  {x1 : Int32} {x2 : Int32} {x3 : Int32} {H : Heap} {locs : List Loc} {ls : Array Slot} (hf : f_BH_letter_38   x1 x2 x3 σ = some r) (w : Wd g (wX g q) A s σ H locs) (hl : lv_has ls 4 [(0, .ref (q 0)), (1, .int x1), (2, .int x2), (3, .int x3)]) : WK p l e s m av below meth c 1 g (wX g q) A (some (.int r)) σ H locs (F0 m 38 ls []) := by
  obtain ⟨hx, hb, hml, hown, hts, hK, hA, hZ, hlocks, hr, hN⟩ := id C
  unfold f_BH_letter_38 at hf
  refine lv_iload_n hx hb d_BH_letter_38 rfl (lv_at hl 1 rfl) ?_
  refine lv_iconst (v := 1) hx hb d_BH_letter_39 (by decide) ?_
  refine lv_icmp_ne (tgt := 65) hx hb d_BH_letter_40 (by decide) (fun cd => ?_) (fun cd => ?_)
  · have hf := if_e cd hf
    refine lv_iconst (v := (-1)) hx hb d_BH_letter_65 (by decide) ?_
    cases some_e hf
    exact k_iret C w d_BH_letter_66
  · have hf := it_e cd hf
    refine lv_aload_n hx hb d_BH_letter_43 rfl (lv_at hl 0 rfl) ?_
    refine lv_iload_n hx hb d_BH_letter_44 rfl (lv_at hl 2 rfl) ?_
    obtain ⟨r_2, h_1, hf⟩ := bp_e hf
    refine k_callV (As := [.int x2]) (rest := []) C w (c_BH_isTrier (q := q) h_1) cv_BH_isTrier k726 (xr_0 C w) (by decide) hl.1 rfl (Nat.le_of_ble_eq_true rfl) d_BH_letter_45 (fun H locs w => ?_)
    show WK p l e s m av below meth c 1 g (wX g q) A (some (.int r)) σ H locs (F0 m 48 ls [.int r_2])
    refine lv_if_eq (tgt := 65) hx hb d_BH_letter_48 (by decide) (fun cd => ?_) (fun cd => ?_)
    · have hf := it_e cd hf
      refine lv_iconst (v := (-1)) hx hb d_BH_letter_65 (by decide) ?_
      cases some_e hf
      exact k_iret C w d_BH_letter_66
    · have hf := if_e cd hf
      refine lv_aload_n hx hb d_BH_letter_51 rfl (lv_at hl 0 rfl) ?_
      refine xg_0_fair C w k511 d_BH_letter_52 ?_
      refine xg_34_trierName C w k254 d_BH_letter_55 ?_
      refine lv_iload_n hx hb d_BH_letter_58 rfl (lv_at hl 2 rfl) ?_
      obtain ⟨g_3, hf⟩ := gd_e hf
      refine xl_37 C w g_3 d_BH_letter_59 ?_
      refine lv_iload_n hx hb d_BH_letter_60 rfl (lv_at hl 3 rfl) ?_
      obtain ⟨r_5, h_4, hf⟩ := bp_e hf
      refine k_callS (As := [.int (sA σ 23 x2.toNatClampNeg), .int x3]) (rest := []) C w (c_BH_letterOf (q := q) h_4) cv_BH_letterOf k723 (by decide) hl.1 rfl (Nat.le_of_ble_eq_true rfl) d_BH_letter_61 (fun H locs w => ?_)
      show WK p l e s m av below meth c 1 g (wX g q) A (some (.int r)) σ H locs (F0 m 64 ls [.int r_5])
      cases some_e hf
      exact k_iret C w d_BH_letter_64
set_option maxHeartbeats 4000000 in
set_option maxRecDepth 20000 in
theorem c_BH_letter {l : Launch} {g : GX} {q : Nat → Nat} {x1 : Int32} {x2 : Int32} {x3 : Int32}  {σ : St} {r : Int32} (hf : f_BH_letter  x1 x2 x3 σ = some r) : KK l y_BH_letter prog_1_method_7_code 4 (some .int) 1 g (wX g q) σ [.ref (q 0), .int x1, .int x2, .int x3] (some (.int r)) (wX g q) σ := by
  refine KK_of (plainFor_of_name (by decide)) (Nat.le_of_ble_eq_true rfl) (fun p e s m below meth c A ls C w hl => ?_)
  have hl : lv_has ls 4 [(0, .ref (q 0)), (1, .int x1), (2, .int x2), (3, .int x3)] := hl
  obtain ⟨hx, hb, hml, hown, hts, hK, hA, hZ, hlocks, hr, hN⟩ := id C
  unfold f_BH_letter at hf
  refine lv_iload_n hx hb d_BH_letter_0 rfl (lv_at hl 3 rfl) ?_
  refine lv_if_lt (tgt := 10) hx hb d_BH_letter_1 (by decide) (fun cd => ?_) (fun cd => ?_)
  · have hf := it_e cd hf
    refine lv_iconst (v := (-1)) hx hb d_BH_letter_10 (by decide) ?_
    cases some_e hf
    exact k_iret C w d_BH_letter_11
  · have hf := if_e cd hf
    refine lv_iload_n hx hb d_BH_letter_4 rfl (lv_at hl 3 rfl) ?_
    refine lv_bipush (v := 6) hx hb d_BH_letter_5 (by decide) ?_
    refine lv_icmp_lt (tgt := 12) hx hb d_BH_letter_7 (by decide) (fun cd => ?_) (fun cd => ?_)
    · have hf := it_e cd hf
      refine lv_iload_n hx hb d_BH_letter_12 rfl (lv_at hl 1 rfl) ?_
      refine lv_if_ne (tgt := 38) hx hb d_BH_letter_13 (by decide) (fun cd => ?_) (fun cd => ?_)
      · have hf := if_e cd hf
        exact t_BH_letter_38 C  hf w (lv_sub hl [0, 1, 2, 3] rfl)
      · have hf := it_e cd hf
        refine lv_aload_n hx hb d_BH_letter_16 rfl (lv_at hl 0 rfl) ?_
        refine lv_iload_n hx hb d_BH_letter_17 rfl (lv_at hl 2 rfl) ?_
        obtain ⟨r_2, h_1, hf⟩ := bp_e hf
        refine k_callV (As := [.int x2]) (rest := []) C w (c_BH_isMark (q := q) h_1) cv_BH_isMark k719 (xr_0 C w) (by decide) hl.1 rfl (Nat.le_of_ble_eq_true rfl) d_BH_letter_18 (fun H locs w => ?_)
        show WK p l e s m _ below meth c 1 g (wX g q) A (some (.int r)) σ H locs (F0 m 21 ls [.int r_2])
        refine lv_if_eq (tgt := 38) hx hb d_BH_letter_21 (by decide) (fun cd => ?_) (fun cd => ?_)
        · have hf := it_e cd hf
          exact t_BH_letter_38 C  hf w (lv_sub hl [0, 1, 2, 3] rfl)
        · have hf := if_e cd hf
          refine lv_aload_n hx hb d_BH_letter_24 rfl (lv_at hl 0 rfl) ?_
          refine xg_0_fair C w k511 d_BH_letter_25 ?_
          refine xg_34_markName C w k248 d_BH_letter_28 ?_
          refine lv_iload_n hx hb d_BH_letter_31 rfl (lv_at hl 2 rfl) ?_
          obtain ⟨g_3, hf⟩ := gd_e hf
          refine xl_35 C w g_3 d_BH_letter_32 ?_
          refine lv_iload_n hx hb d_BH_letter_33 rfl (lv_at hl 3 rfl) ?_
          obtain ⟨r_5, h_4, hf⟩ := bp_e hf
          refine k_callS (As := [.int (sA σ 21 x2.toNatClampNeg), .int x3]) (rest := []) C w (c_BH_letterOf (q := q) h_4) cv_BH_letterOf k723 (by decide) hl.1 rfl (Nat.le_of_ble_eq_true rfl) d_BH_letter_34 (fun H locs w => ?_)
          show WK p l e s m _ below meth c 1 g (wX g q) A (some (.int r)) σ H locs (F0 m 37 ls [.int r_5])
          cases some_e hf
          exact k_iret C w d_BH_letter_37
    · have hf := if_e cd hf
      refine lv_iconst (v := (-1)) hx hb d_BH_letter_10 (by decide) ?_
      cases some_e hf
      exact k_iret C w d_BH_letter_11
def f_Fair_trait (x1 : Int32) (x2 : Int32) (σ : St) : Option (Int32) :=
  lt (((x1 * 6) + x2)) fun x_1 =>
  if x_1 < 0 then
    some 0
  else
    if x_1 < 48 then
      gd (inB x_1 48) <|
      some (sA σ 24 x_1.toNatClampNeg)
    else
      some 0
set_option maxHeartbeats 4000000 in
set_option maxRecDepth 20000 in
theorem c_Fair_trait {l : Launch} {g : GX} {q : Nat → Nat} {x1 : Int32} {x2 : Int32}  {σ : St} {r : Int32} (hf : f_Fair_trait  x1 x2 σ = some r) : KK l y_Fair_trait prog_3_method_3_code 4 (some .int) 0 g (wX g q) σ [.ref (q 34), .int x1, .int x2] (some (.int r)) (wX g q) σ := by
  refine KK_of (plainFor_of_name (by decide)) (Nat.le_of_ble_eq_true rfl) (fun p e s m below meth c A ls C w hl => ?_)
  have hl : lv_has ls 4 [(0, .ref (q 34)), (1, .int x1), (2, .int x2)] := hl
  obtain ⟨hx, hb, hml, hown, hts, hK, hA, hZ, hlocks, hr, hN⟩ := id C
  unfold f_Fair_trait at hf
  refine lv_iload_n hx hb d_Fair_trait_0 rfl (lv_at hl 1 rfl) ?_
  refine lv_bipush (v := 6) hx hb d_Fair_trait_1 (by decide) ?_
  refine lv_imul hx hb d_Fair_trait_3 ?_
  refine lv_iload_n hx hb d_Fair_trait_4 rfl (lv_at hl 2 rfl) ?_
  refine lv_iadd hx hb d_Fair_trait_5 ?_
  refine lv_topi (fun x_1 ex_1 => ?_)
  have hf := lt_e ex_1 hf
  refine lv_istore_n (lv' := [(3, .int x_1), (0, .ref (q 34)), (1, .int x1), (2, .int x2)]) hx hb d_Fair_trait_6 rfl hl (by decide) rfl (fun ls hl => ?_)
  refine lv_iload_n hx hb d_Fair_trait_7 rfl (lv_at hl 0 rfl) ?_
  refine lv_if_lt (tgt := 20) hx hb d_Fair_trait_8 (by decide) (fun cd => ?_) (fun cd => ?_)
  · have hf := it_e cd hf
    refine lv_iconst (v := 0) hx hb d_Fair_trait_20 (by decide) ?_
    refine lv_goto (tgt := 30) hx hb d_Fair_trait_21 (by decide) ?_
    cases some_e hf
    exact k_iret C w d_Fair_trait_30
  · have hf := if_e cd hf
    refine lv_iload_n hx hb d_Fair_trait_11 rfl (lv_at hl 0 rfl) ?_
    refine lv_aload_n hx hb d_Fair_trait_12 rfl (lv_at hl 1 rfl) ?_
    refine xg_34_traits C w k256 d_Fair_trait_13 ?_
    refine xn_38 C w d_Fair_trait_16 ?_
    refine lv_icmp_lt (tgt := 24) hx hb d_Fair_trait_17 (by decide) (fun cd => ?_) (fun cd => ?_)
    · have hf := it_e cd hf
      refine lv_aload_n hx hb d_Fair_trait_24 rfl (lv_at hl 1 rfl) ?_
      refine xg_34_traits C w k256 d_Fair_trait_25 ?_
      refine lv_iload_n hx hb d_Fair_trait_28 rfl (lv_at hl 0 rfl) ?_
      obtain ⟨g_2, hf⟩ := gd_e hf
      refine xl_38 C w g_2 d_Fair_trait_29 ?_
      cases some_e hf
      exact k_iret C w d_Fair_trait_30
    · have hf := if_e cd hf
      refine lv_iconst (v := 0) hx hb d_Fair_trait_20 (by decide) ?_
      refine lv_goto (tgt := 30) hx hb d_Fair_trait_21 (by decide) ?_
      cases some_e hf
      exact k_iret C w d_Fair_trait_30
def f_BH_trier (x1 : Int32) (x2 : Int32) (σ : St) : Option (Int32) :=
  bp (f_BH_isTrier x1 σ) fun r_2 =>
  if r_2 = 0 then
    some (-1)
  else
    if x2 < 0 then
      some (-1)
    else
      if x2 < 6 then
        bp (f_Fair_trait x1 x2 σ) fun r_4 =>
        some r_4
      else
        some (-1)
set_option maxHeartbeats 4000000 in
set_option maxRecDepth 20000 in
theorem c_BH_trier {l : Launch} {g : GX} {q : Nat → Nat} {x1 : Int32} {x2 : Int32}  {σ : St} {r : Int32} (hf : f_BH_trier  x1 x2 σ = some r) : KK l y_BH_trier prog_1_method_8_code 3 (some .int) 1 g (wX g q) σ [.ref (q 0), .int x1, .int x2] (some (.int r)) (wX g q) σ := by
  refine KK_of (plainFor_of_name (by decide)) (Nat.le_of_ble_eq_true rfl) (fun p e s m below meth c A ls C w hl => ?_)
  have hl : lv_has ls 3 [(0, .ref (q 0)), (1, .int x1), (2, .int x2)] := hl
  obtain ⟨hx, hb, hml, hown, hts, hK, hA, hZ, hlocks, hr, hN⟩ := id C
  unfold f_BH_trier at hf
  refine lv_aload_n hx hb d_BH_trier_0 rfl (lv_at hl 0 rfl) ?_
  refine lv_iload_n hx hb d_BH_trier_1 rfl (lv_at hl 1 rfl) ?_
  obtain ⟨r_2, h_1, hf⟩ := bp_e hf
  refine k_callV (As := [.int x1]) (rest := []) C w (c_BH_isTrier (q := q) h_1) cv_BH_isTrier k726 (xr_0 C w) (by decide) hl.1 rfl (Nat.le_of_ble_eq_true rfl) d_BH_trier_2 (fun H locs w => ?_)
  show WK p l e s m _ below meth c 1 g (wX g q) A (some (.int r)) σ H locs (F0 m 5 ls [.int r_2])
  refine lv_if_eq (tgt := 18) hx hb d_BH_trier_5 (by decide) (fun cd => ?_) (fun cd => ?_)
  · have hf := it_e cd hf
    refine lv_iconst (v := (-1)) hx hb d_BH_trier_18 (by decide) ?_
    cases some_e hf
    exact k_iret C w d_BH_trier_19
  · have hf := if_e cd hf
    refine lv_iload_n hx hb d_BH_trier_8 rfl (lv_at hl 2 rfl) ?_
    refine lv_if_lt (tgt := 18) hx hb d_BH_trier_9 (by decide) (fun cd => ?_) (fun cd => ?_)
    · have hf := it_e cd hf
      refine lv_iconst (v := (-1)) hx hb d_BH_trier_18 (by decide) ?_
      cases some_e hf
      exact k_iret C w d_BH_trier_19
    · have hf := if_e cd hf
      refine lv_iload_n hx hb d_BH_trier_12 rfl (lv_at hl 2 rfl) ?_
      refine lv_bipush (v := 6) hx hb d_BH_trier_13 (by decide) ?_
      refine lv_icmp_lt (tgt := 20) hx hb d_BH_trier_15 (by decide) (fun cd => ?_) (fun cd => ?_)
      · have hf := it_e cd hf
        refine lv_aload_n hx hb d_BH_trier_20 rfl (lv_at hl 0 rfl) ?_
        refine xg_0_fair C w k511 d_BH_trier_21 ?_
        refine lv_iload_n hx hb d_BH_trier_24 rfl (lv_at hl 1 rfl) ?_
        refine lv_iload_n hx hb d_BH_trier_25 rfl (lv_at hl 2 rfl) ?_
        obtain ⟨r_4, h_3, hf⟩ := bp_e hf
        refine k_callV (As := [.int x1, .int x2]) (rest := []) C w (c_Fair_trait (q := q) h_3) cv_Fair_trait k734 (xr_34 C w) (by decide) hl.1 rfl (Nat.le_of_ble_eq_true rfl) d_BH_trier_26 (fun H locs w => ?_)
        show WK p l e s m _ below meth c 1 g (wX g q) A (some (.int r)) σ H locs (F0 m 29 ls [.int r_4])
        cases some_e hf
        exact k_iret C w d_BH_trier_29
      · have hf := if_e cd hf
        refine lv_iconst (v := (-1)) hx hb d_BH_trier_18 (by decide) ?_
        cases some_e hf
        exact k_iret C w d_BH_trier_19
def f_BH_mark (x1 : Int32) (σ : St) : Option (Int32) :=
  bp (f_BH_isMark x1 σ) fun r_2 =>
  if r_2 = 0 then
    some (-1)
  else
    gd (inB x1 6) <|
    some (sA σ 22 x1.toNatClampNeg)
set_option maxHeartbeats 4000000 in
set_option maxRecDepth 20000 in
theorem c_BH_mark {l : Launch} {g : GX} {q : Nat → Nat} {x1 : Int32}  {σ : St} {r : Int32} (hf : f_BH_mark  x1 σ = some r) : KK l y_BH_mark prog_1_method_9_code 2 (some .int) 1 g (wX g q) σ [.ref (q 0), .int x1] (some (.int r)) (wX g q) σ := by
  refine KK_of (plainFor_of_name (by decide)) (Nat.le_of_ble_eq_true rfl) (fun p e s m below meth c A ls C w hl => ?_)
  have hl : lv_has ls 2 [(0, .ref (q 0)), (1, .int x1)] := hl
  obtain ⟨hx, hb, hml, hown, hts, hK, hA, hZ, hlocks, hr, hN⟩ := id C
  unfold f_BH_mark at hf
  refine lv_aload_n hx hb d_BH_mark_0 rfl (lv_at hl 0 rfl) ?_
  refine lv_iload_n hx hb d_BH_mark_1 rfl (lv_at hl 1 rfl) ?_
  obtain ⟨r_2, h_1, hf⟩ := bp_e hf
  refine k_callV (As := [.int x1]) (rest := []) C w (c_BH_isMark (q := q) h_1) cv_BH_isMark k719 (xr_0 C w) (by decide) hl.1 rfl (Nat.le_of_ble_eq_true rfl) d_BH_mark_2 (fun H locs w => ?_)
  show WK p l e s m _ below meth c 1 g (wX g q) A (some (.int r)) σ H locs (F0 m 5 ls [.int r_2])
  refine lv_if_eq (tgt := 20) hx hb d_BH_mark_5 (by decide) (fun cd => ?_) (fun cd => ?_)
  · have hf := it_e cd hf
    refine lv_iconst (v := (-1)) hx hb d_BH_mark_20 (by decide) ?_
    cases some_e hf
    exact k_iret C w d_BH_mark_21
  · have hf := if_e cd hf
    refine lv_aload_n hx hb d_BH_mark_8 rfl (lv_at hl 0 rfl) ?_
    refine xg_0_fair C w k511 d_BH_mark_9 ?_
    refine xg_34_markHeight C w k251 d_BH_mark_12 ?_
    refine lv_iload_n hx hb d_BH_mark_15 rfl (lv_at hl 1 rfl) ?_
    obtain ⟨g_3, hf⟩ := gd_e hf
    refine xl_36 C w g_3 d_BH_mark_16 ?_
    refine lv_goto (tgt := 21) hx hb d_BH_mark_17 (by decide) ?_
    cases some_e hf
    exact k_iret C w d_BH_mark_21
def f_Fair_markOf_42 (k4 : Int32 → Int32 → Int32 → St → Option (Int32)) (x1 : Int32) (x3 : Int32) (σ : St) : Option (Int32) :=
  lt ((x3 + 1)) fun x_1 =>
  k4 x1 x3 x_1 σ
def f_Fair_markOf_4b (k4 : Int32 → Int32 → Int32 → St → Option (Int32)) (x1 : Int32) (x2 : Int32) (x3 : Int32) (σ : St) : Option (Int32) :=
  if (sI σ 53) ≤ x3 then
    some x2
  else
    gd (inB x3 6) <|
    if x1 < (sA σ 22 x3.toNatClampNeg) then
      lt ((x3 + 1)) fun x_2 =>
      k4 x1 x2 x_2 σ
    else
      if x2 = (-1) then
        f_Fair_markOf_42 k4 x1 x3 σ
      else
        gd (inB x3 6) <|
        gd (inB x2 6) <|
        if (sA σ 22 x3.toNatClampNeg) ≤ (sA σ 22 x2.toNatClampNeg) then
          lt ((x3 + 1)) fun x_5 =>
          k4 x1 x2 x_5 σ
        else
          f_Fair_markOf_42 k4 x1 x3 σ
def f_Fair_markOf_4 : Nat → Int32 → Int32 → Int32 → St → Option (Int32)
  | 0 => fun _ _ _ _ => none
  | n + 1 => f_Fair_markOf_4b   (f_Fair_markOf_4   n)
def f_Fair_markOf (x1 : Int32) (σ : St) : Option (Int32) :=
  f_Fair_markOf_4 FU x1 (-1) 0 σ
set_option maxHeartbeats 4000000 in
set_option maxRecDepth 20000 in
theorem t_Fair_markOf_42 {r : Int32} {σ : St} (C : Cx g A p s m av meth c prog_3_method_5_code 4 "BellHammer$Fair" (some .int)) {k4 : Int32 → Int32 → Int32 → St → Option (Int32)} (hk4 : ∀ (x1 : Int32) (x2 : Int32) (x3 : Int32) (H : Heap) (locs : List Loc) (ls : Array Slot), k4 x1 x2 x3 σ = some r → Wd g (wX g q) A s σ H locs → lv_has ls 4 [(0, .ref (q 34)), (1, .int x1), (2, .int x2), (3, .int x3)] → WK p l e s m av below meth c 0 g (wX g q) A (some (.int r)) σ H locs (F0 m 4 ls []))  {x1 : Int32} {x3 : Int32} {H : Heap} {locs : List Loc} {ls : Array Slot} (hf : f_Fair_markOf_42  k4 x1 x3 σ = some r) (w : Wd g (wX g q) A s σ H locs) (hl : lv_has ls 4 [(0, .ref (q 34)), (1, .int x1), (3, .int x3)]) : WK p l e s m av below meth c 0 g (wX g q) A (some (.int r)) σ H locs (F0 m 42 ls []) := by
  obtain ⟨hx, hb, hml, hown, hts, hK, hA, hZ, hlocks, hr, hN⟩ := id C
  unfold f_Fair_markOf_42 at hf
  refine lv_iload_n hx hb d_Fair_markOf_42 rfl (lv_at hl 2 rfl) ?_
  refine lv_istore_n (lv' := [(2, .int x3), (0, .ref (q 34)), (1, .int x1), (3, .int x3)]) hx hb d_Fair_markOf_43 rfl hl (by decide) rfl (fun ls hl => ?_)
  obtain ⟨x_1, ex_1⟩ : ∃ y : Int32, y = (x3 + 1) := ⟨_, rfl⟩
  have hf := lt_e ex_1 hf
  refine lv_iinc (v := x_1) (lv' := [(3, .int x_1), (2, .int x3), (0, .ref (q 34)), (1, .int x1)]) hx hb d_Fair_markOf_44 hl (k := 3) rfl (by rw [ex_1]; rfl) (by decide) rfl (fun ls hl => ?_)
  refine lv_goto (tgt := 4) hx hb d_Fair_markOf_47 (by decide) ?_
  exact hk4 x1 x3 x_1  _ _ _ hf w (lv_sub hl [2, 3, 1, 0] rfl)
set_option maxHeartbeats 4000000 in
set_option maxRecDepth 20000 in
theorem t_Fair_markOf_4b {r : Int32} {σ : St} (C : Cx g A p s m av meth c prog_3_method_5_code 4 "BellHammer$Fair" (some .int)) {k4 : Int32 → Int32 → Int32 → St → Option (Int32)} (hk4 : ∀ (x1 : Int32) (x2 : Int32) (x3 : Int32) (H : Heap) (locs : List Loc) (ls : Array Slot), k4 x1 x2 x3 σ = some r → Wd g (wX g q) A s σ H locs → lv_has ls 4 [(0, .ref (q 34)), (1, .int x1), (2, .int x2), (3, .int x3)] → WK p l e s m av below meth c 0 g (wX g q) A (some (.int r)) σ H locs (F0 m 4 ls []))  {x1 : Int32} {x2 : Int32} {x3 : Int32} {H : Heap} {locs : List Loc} {ls : Array Slot} (hf : f_Fair_markOf_4b  k4 x1 x2 x3 σ = some r) (w : Wd g (wX g q) A s σ H locs) (hl : lv_has ls 4 [(0, .ref (q 34)), (1, .int x1), (2, .int x2), (3, .int x3)]) : WK p l e s m av below meth c 0 g (wX g q) A (some (.int r)) σ H locs (F0 m 4 ls []) := by
  obtain ⟨hx, hb, hml, hown, hts, hK, hA, hZ, hlocks, hr, hN⟩ := id C
  unfold f_Fair_markOf_4b at hf
  refine lv_iload_n hx hb d_Fair_markOf_4 rfl (lv_at hl 3 rfl) ?_
  refine lv_aload_n hx hb d_Fair_markOf_5 rfl (lv_at hl 0 rfl) ?_
  refine xg_34_marks C w k270 d_Fair_markOf_6 ?_
  refine lv_icmp_ge (tgt := 50) hx hb d_Fair_markOf_9 (by decide) (fun cd => ?_) (fun cd => ?_)
  · have hf := it_e cd hf
    refine lv_iload_n hx hb d_Fair_markOf_50 rfl (lv_at hl 2 rfl) ?_
    cases some_e hf
    exact k_iret C w d_Fair_markOf_51
  · have hf := if_e cd hf
    refine lv_aload_n hx hb d_Fair_markOf_12 rfl (lv_at hl 0 rfl) ?_
    refine xg_34_markHeight C w k250 d_Fair_markOf_13 ?_
    refine lv_iload_n hx hb d_Fair_markOf_16 rfl (lv_at hl 3 rfl) ?_
    obtain ⟨g_1, hf⟩ := gd_e hf
    refine xl_36 C w g_1 d_Fair_markOf_17 ?_
    refine lv_iload_n hx hb d_Fair_markOf_18 rfl (lv_at hl 1 rfl) ?_
    refine lv_icmp_gt (tgt := 44) hx hb d_Fair_markOf_19 (by decide) (fun cd => ?_) (fun cd => ?_)
    · have hf := it_e cd hf
      obtain ⟨x_2, ex_2⟩ : ∃ y : Int32, y = (x3 + 1) := ⟨_, rfl⟩
      have hf := lt_e ex_2 hf
      refine lv_iinc (v := x_2) (lv' := [(3, .int x_2), (0, .ref (q 34)), (1, .int x1), (2, .int x2)]) hx hb d_Fair_markOf_44 hl (k := 3) rfl (by rw [ex_2]; rfl) (by decide) rfl (fun ls hl => ?_)
      refine lv_goto (tgt := 4) hx hb d_Fair_markOf_47 (by decide) ?_
      exact hk4 x1 x2 x_2  _ _ _ hf w (lv_sub hl [1, 2, 3, 0] rfl)
    · have hf := if_e cd hf
      refine lv_iload_n hx hb d_Fair_markOf_22 rfl (lv_at hl 2 rfl) ?_
      refine lv_iconst (v := (-1)) hx hb d_Fair_markOf_23 (by decide) ?_
      refine lv_icmp_eq (tgt := 42) hx hb d_Fair_markOf_24 (by decide) (fun cd => ?_) (fun cd => ?_)
      · have hf := it_e cd hf
        exact t_Fair_markOf_42 C hk4 hf w (lv_sub hl [0, 1, 3] rfl)
      · have hf := if_e cd hf
        refine lv_aload_n hx hb d_Fair_markOf_27 rfl (lv_at hl 0 rfl) ?_
        refine xg_34_markHeight C w k250 d_Fair_markOf_28 ?_
        refine lv_iload_n hx hb d_Fair_markOf_31 rfl (lv_at hl 3 rfl) ?_
        obtain ⟨g_3, hf⟩ := gd_e hf
        refine xl_36 C w g_3 d_Fair_markOf_32 ?_
        refine lv_aload_n hx hb d_Fair_markOf_33 rfl (lv_at hl 0 rfl) ?_
        refine xg_34_markHeight C w k250 d_Fair_markOf_34 ?_
        refine lv_iload_n hx hb d_Fair_markOf_37 rfl (lv_at hl 2 rfl) ?_
        obtain ⟨g_4, hf⟩ := gd_e hf
        refine xl_36 C w g_4 d_Fair_markOf_38 ?_
        refine lv_icmp_le (tgt := 44) hx hb d_Fair_markOf_39 (by decide) (fun cd => ?_) (fun cd => ?_)
        · have hf := it_e cd hf
          obtain ⟨x_5, ex_5⟩ : ∃ y : Int32, y = (x3 + 1) := ⟨_, rfl⟩
          have hf := lt_e ex_5 hf
          refine lv_iinc (v := x_5) (lv' := [(3, .int x_5), (0, .ref (q 34)), (1, .int x1), (2, .int x2)]) hx hb d_Fair_markOf_44 hl (k := 3) rfl (by rw [ex_5]; rfl) (by decide) rfl (fun ls hl => ?_)
          refine lv_goto (tgt := 4) hx hb d_Fair_markOf_47 (by decide) ?_
          exact hk4 x1 x2 x_5  _ _ _ hf w (lv_sub hl [1, 2, 3, 0] rfl)
        · have hf := if_e cd hf
          exact t_Fair_markOf_42 C hk4 hf w (lv_sub hl [0, 1, 3] rfl)
set_option maxHeartbeats 4000000 in
set_option maxRecDepth 20000 in
theorem t_Fair_markOf_4 {r : Int32} {σ : St} (C : Cx g A p s m av meth c prog_3_method_5_code 4 "BellHammer$Fair" (some .int))  : ∀ (n : Nat) (x1 : Int32) (x2 : Int32) (x3 : Int32) (H : Heap) (locs : List Loc) (ls : Array Slot), f_Fair_markOf_4   n x1 x2 x3 σ = some r → Wd g (wX g q) A s σ H locs → lv_has ls 4 [(0, .ref (q 34)), (1, .int x1), (2, .int x2), (3, .int x3)] → WK p l e s m av below meth c 0 g (wX g q) A (some (.int r)) σ H locs (F0 m 4 ls []) := by
  intro n
  induction n with
  | zero => intro x1 x2 x3 H locs ls hf; exact absurd hf (by intro z; cases z)
  | succ n ih => intro x1 x2 x3 H locs ls hf w hl; exact t_Fair_markOf_4b C  ih hf w hl
set_option maxHeartbeats 4000000 in
set_option maxRecDepth 20000 in
theorem c_Fair_markOf {l : Launch} {g : GX} {q : Nat → Nat} {x1 : Int32}  {σ : St} {r : Int32} (hf : f_Fair_markOf  x1 σ = some r) : KK l y_Fair_markOf prog_3_method_5_code 4 (some .int) 0 g (wX g q) σ [.ref (q 34), .int x1] (some (.int r)) (wX g q) σ := by
  refine KK_of (plainFor_of_name (by decide)) (Nat.le_of_ble_eq_true rfl) (fun p e s m below meth c A ls C w hl => ?_)
  have hl : lv_has ls 4 [(0, .ref (q 34)), (1, .int x1)] := hl
  obtain ⟨hx, hb, hml, hown, hts, hK, hA, hZ, hlocks, hr, hN⟩ := id C
  unfold f_Fair_markOf at hf
  refine lv_iconst (v := (-1)) hx hb d_Fair_markOf_0 (by decide) ?_
  refine lv_istore_n (lv' := [(2, .int (-1)), (0, .ref (q 34)), (1, .int x1)]) hx hb d_Fair_markOf_1 rfl hl (by decide) rfl (fun ls hl => ?_)
  refine lv_iconst (v := 0) hx hb d_Fair_markOf_2 (by decide) ?_
  refine lv_istore_n (lv' := [(3, .int 0), (2, .int (-1)), (0, .ref (q 34)), (1, .int x1)]) hx hb d_Fair_markOf_3 rfl hl (by decide) rfl (fun ls hl => ?_)
  exact t_Fair_markOf_4 C  FU x1 (-1) 0  _ _ _ hf w (lv_sub hl [2, 3, 1, 0] rfl)
def f_BH_past (x1 : Int32) (σ : St) : Option (Int32) :=
  if x1 < 0 then
    some (-1)
  else
    if x1 ≤ 99 then
      bp (f_Fair_markOf x1 σ) fun r_2 =>
      some r_2
    else
      some (-1)
set_option maxHeartbeats 4000000 in
set_option maxRecDepth 20000 in
theorem c_BH_past {l : Launch} {g : GX} {q : Nat → Nat} {x1 : Int32}  {σ : St} {r : Int32} (hf : f_BH_past  x1 σ = some r) : KK l y_BH_past prog_1_method_10_code 2 (some .int) 1 g (wX g q) σ [.ref (q 0), .int x1] (some (.int r)) (wX g q) σ := by
  refine KK_of (plainFor_of_name (by decide)) (Nat.le_of_ble_eq_true rfl) (fun p e s m below meth c A ls C w hl => ?_)
  have hl : lv_has ls 2 [(0, .ref (q 0)), (1, .int x1)] := hl
  obtain ⟨hx, hb, hml, hown, hts, hK, hA, hZ, hlocks, hr, hN⟩ := id C
  unfold f_BH_past at hf
  refine lv_iload_n hx hb d_BH_past_0 rfl (lv_at hl 1 rfl) ?_
  refine lv_if_lt (tgt := 10) hx hb d_BH_past_1 (by decide) (fun cd => ?_) (fun cd => ?_)
  · have hf := it_e cd hf
    refine lv_iconst (v := (-1)) hx hb d_BH_past_10 (by decide) ?_
    refine lv_goto (tgt := 22) hx hb d_BH_past_11 (by decide) ?_
    cases some_e hf
    exact k_iret C w d_BH_past_22
  · have hf := if_e cd hf
    refine lv_iload_n hx hb d_BH_past_4 rfl (lv_at hl 1 rfl) ?_
    refine lv_bipush (v := 99) hx hb d_BH_past_5 (by decide) ?_
    refine lv_icmp_le (tgt := 14) hx hb d_BH_past_7 (by decide) (fun cd => ?_) (fun cd => ?_)
    · have hf := it_e cd hf
      refine lv_aload_n hx hb d_BH_past_14 rfl (lv_at hl 0 rfl) ?_
      refine xg_0_fair C w k511 d_BH_past_15 ?_
      refine lv_iload_n hx hb d_BH_past_18 rfl (lv_at hl 1 rfl) ?_
      obtain ⟨r_2, h_1, hf⟩ := bp_e hf
      refine k_callV (As := [.int x1]) (rest := []) C w (c_Fair_markOf (q := q) h_1) cv_Fair_markOf k746 (xr_34 C w) (by decide) hl.1 rfl (Nat.le_of_ble_eq_true rfl) d_BH_past_19 (fun H locs w => ?_)
      show WK p l e s m _ below meth c 1 g (wX g q) A (some (.int r)) σ H locs (F0 m 22 ls [.int r_2])
      cases some_e hf
      exact k_iret C w d_BH_past_22
    · have hf := if_e cd hf
      refine lv_iconst (v := (-1)) hx hb d_BH_past_10 (by decide) ?_
      refine lv_goto (tgt := 22) hx hb d_BH_past_11 (by decide) ?_
      cases some_e hf
      exact k_iret C w d_BH_past_22
def f_BH_isWithin (x0 : Int32) (x1 : Int32) (σ : St) : Option (Int32) :=
  if x0 < 0 then
    some 0
  else
    if x1 < x0 then
      some 0
    else
      some 1
set_option maxHeartbeats 4000000 in
set_option maxRecDepth 20000 in
theorem c_BH_isWithin {l : Launch} {g : GX} {q : Nat → Nat} {x0 : Int32} {x1 : Int32}  {σ : St} {r : Int32} (hf : f_BH_isWithin  x0 x1 σ = some r) : KK l y_BH_isWithin prog_1_method_38_code 2 (some .boolean) 0 g (wX g q) σ [.int x0, .int x1] (some (.int r)) (wX g q) σ := by
  refine KK_of (plainFor_of_name (by decide)) (Nat.le_of_ble_eq_true rfl) (fun p e s m below meth c A ls C w hl => ?_)
  have hl : lv_has ls 2 [(0, .int x0), (1, .int x1)] := hl
  obtain ⟨hx, hb, hml, hown, hts, hK, hA, hZ, hlocks, hr, hN⟩ := id C
  unfold f_BH_isWithin at hf
  refine lv_iload_n hx hb d_BH_isWithin_0 rfl (lv_at hl 0 rfl) ?_
  refine lv_if_lt (tgt := 13) hx hb d_BH_isWithin_1 (by decide) (fun cd => ?_) (fun cd => ?_)
  · have hf := it_e cd hf
    refine lv_iconst (v := 0) hx hb d_BH_isWithin_13 (by decide) ?_
    cases some_e hf
    exact k_zret C w (by decide) d_BH_isWithin_14
  · have hf := if_e cd hf
    refine lv_iload_n hx hb d_BH_isWithin_4 rfl (lv_at hl 0 rfl) ?_
    refine lv_iload_n hx hb d_BH_isWithin_5 rfl (lv_at hl 1 rfl) ?_
    refine lv_icmp_gt (tgt := 13) hx hb d_BH_isWithin_6 (by decide) (fun cd => ?_) (fun cd => ?_)
    · have hf := it_e cd hf
      refine lv_iconst (v := 0) hx hb d_BH_isWithin_13 (by decide) ?_
      cases some_e hf
      exact k_zret C w (by decide) d_BH_isWithin_14
    · have hf := if_e cd hf
      refine lv_iconst (v := 1) hx hb d_BH_isWithin_9 (by decide) ?_
      refine lv_goto (tgt := 14) hx hb d_BH_isWithin_10 (by decide) ?_
      cases some_e hf
      exact k_zret C w (by decide) d_BH_isWithin_14
def f_BH_isOff (x0 : Int32) (σ : St) : Option (Int32) :=
  bp (f_BH_isWithin x0 9 σ) fun r_2 =>
  gd (isB r_2) <|
  some r_2
set_option maxHeartbeats 4000000 in
set_option maxRecDepth 20000 in
theorem c_BH_isOff {l : Launch} {g : GX} {q : Nat → Nat} {x0 : Int32}  {σ : St} {r : Int32} (hf : f_BH_isOff  x0 σ = some r) : KK l y_BH_isOff prog_1_method_37_code 1 (some .boolean) 1 g (wX g q) σ [.int x0] (some (.int r)) (wX g q) σ := by
  refine KK_of (plainFor_of_name (by decide)) (Nat.le_of_ble_eq_true rfl) (fun p e s m below meth c A ls C w hl => ?_)
  have hl : lv_has ls 1 [(0, .int x0)] := hl
  obtain ⟨hx, hb, hml, hown, hts, hK, hA, hZ, hlocks, hr, hN⟩ := id C
  unfold f_BH_isOff at hf
  refine lv_iload_n hx hb d_BH_isOff_0 rfl (lv_at hl 0 rfl) ?_
  refine lv_bipush (v := 9) hx hb d_BH_isOff_1 (by decide) ?_
  obtain ⟨r_2, h_1, hf⟩ := bp_e hf
  refine k_callS (As := [.int x0, .int 9]) (rest := []) C w (c_BH_isWithin (q := q) h_1) cv_BH_isWithin k757 (by decide) hl.1 rfl (Nat.le_of_ble_eq_true rfl) d_BH_isOff_3 (fun H locs w => ?_)
  show WK p l e s m _ below meth c 1 g (wX g q) A (some (.int r)) σ H locs (F0 m 6 ls [.int r_2])
  obtain ⟨g_3, hf⟩ := gd_e hf
  cases some_e hf
  exact k_zret C w g_3 d_BH_isOff_6
def f_Turn_load (x2 : Int32) (σ : St) : Option (St) :=
  bp (f_Fair_trait x2 0 σ) fun r_2 =>
  lt (uI σ 25 r_2) fun σ_3 =>
  bp (f_Fair_trait x2 1 σ_3) fun r_5 =>
  lt (uI σ_3 26 r_5) fun σ_6 =>
  bp (f_Fair_trait x2 2 σ_6) fun r_8 =>
  lt (uI σ_6 27 r_8) fun σ_9 =>
  bp (f_Fair_trait x2 3 σ_9) fun r_11 =>
  lt (uI σ_9 28 r_11) fun σ_12 =>
  bp (f_Fair_trait x2 4 σ_12) fun r_14 =>
  lt (uI σ_12 29 r_14) fun σ_15 =>
  bp (f_Fair_trait x2 5 σ_15) fun r_17 =>
  lt (uI σ_15 30 r_17) fun σ_18 =>
  lt (uI σ_18 31 (sA σ_18 9 (0 : Int32).toNatClampNeg)) fun σ_19 =>
  lt (uI σ_19 32 (sA σ_19 9 (1 : Int32).toNatClampNeg)) fun σ_20 =>
  lt (uI σ_20 33 (sA σ_20 9 (2 : Int32).toNatClampNeg)) fun σ_21 =>
  lt (uI σ_21 34 (sA σ_21 25 (3 : Int32).toNatClampNeg)) fun σ_22 =>
  lt (uI σ_22 35 (sA σ_22 25 (5 : Int32).toNatClampNeg)) fun σ_23 =>
  lt (uI σ_23 36 (sA σ_23 25 (4 : Int32).toNatClampNeg)) fun σ_24 =>
  lt (uA σ_24 16 (va_cpy (sA σ_24 25) (sA σ_24 16) (6 : Int32).toNatClampNeg (0 : Int32).toNatClampNeg (3 : Int32).toNatClampNeg)) fun σ_25 =>
  some σ_25
set_option maxHeartbeats 4000000 in
set_option maxRecDepth 20000 in
theorem c_Turn_load {l : Launch} {g : GX} {q : Nat → Nat} {x2 : Int32}  {σ : St} {σ2 : St} (hf : f_Turn_load  x2 σ = some σ2) : KK l y_Turn_load prog_10_method_2_code 4 none 1 g (wX g q) σ [.ref (q 23), .ref (q 34), .int x2, .ref (q 15)] none (wX g q) σ2 := by
  refine KK_of (plainFor_of_name (by decide)) (Nat.le_of_ble_eq_true rfl) (fun p e s m below meth c A ls C w hl => ?_)
  have hl : lv_has ls 4 [(0, .ref (q 23)), (1, .ref (q 34)), (2, .int x2), (3, .ref (q 15))] := hl
  obtain ⟨hx, hb, hml, hown, hts, hK, hA, hZ, hlocks, hr, hN⟩ := id C
  unfold f_Turn_load at hf
  refine lv_aload_n hx hb d_Turn_load_0 rfl (lv_at hl 0 rfl) ?_
  refine lv_aload_n hx hb d_Turn_load_1 rfl (lv_at hl 1 rfl) ?_
  refine lv_iload_n hx hb d_Turn_load_2 rfl (lv_at hl 2 rfl) ?_
  refine lv_iconst (v := 0) hx hb d_Turn_load_3 (by decide) ?_
  obtain ⟨r_2, h_1, hf⟩ := bp_e hf
  refine k_callV (As := [.int x2, .int 0]) (rest := [.ref (q 23)]) C w (c_Fair_trait (q := q) h_1) cv_Fair_trait k764 (xr_34 C w) (by decide) hl.1 rfl (Nat.le_of_ble_eq_true rfl) d_Turn_load_4 (fun H locs w => ?_)
  show WK p l e s m _ below meth c 1 g (wX g q) A none σ2 H locs (F0 m 7 ls [.int r_2, .ref (q 23)])
  refine xp_23_force C w k402 d_Turn_load_7 (fun σ_3 H locs eσ_3 w => ?_)
  have hf := lt_e eσ_3 hf
  refine lv_aload_n hx hb d_Turn_load_10 rfl (lv_at hl 0 rfl) ?_
  refine lv_aload_n hx hb d_Turn_load_11 rfl (lv_at hl 1 rfl) ?_
  refine lv_iload_n hx hb d_Turn_load_12 rfl (lv_at hl 2 rfl) ?_
  refine lv_iconst (v := 1) hx hb d_Turn_load_13 (by decide) ?_
  obtain ⟨r_5, h_4, hf⟩ := bp_e hf
  refine k_callV (As := [.int x2, .int 1]) (rest := [.ref (q 23)]) C w (c_Fair_trait (q := q) h_4) cv_Fair_trait k764 (xr_34 C w) (by decide) hl.1 rfl (Nat.le_of_ble_eq_true rfl) d_Turn_load_14 (fun H locs w => ?_)
  show WK p l e s m _ below meth c 1 g (wX g q) A none σ2 H locs (F0 m 17 ls [.int r_5, .ref (q 23)])
  refine xp_23_aim C w k404 d_Turn_load_17 (fun σ_6 H locs eσ_6 w => ?_)
  have hf := lt_e eσ_6 hf
  refine lv_aload_n hx hb d_Turn_load_20 rfl (lv_at hl 0 rfl) ?_
  refine lv_aload_n hx hb d_Turn_load_21 rfl (lv_at hl 1 rfl) ?_
  refine lv_iload_n hx hb d_Turn_load_22 rfl (lv_at hl 2 rfl) ?_
  refine lv_iconst (v := 2) hx hb d_Turn_load_23 (by decide) ?_
  obtain ⟨r_8, h_7, hf⟩ := bp_e hf
  refine k_callV (As := [.int x2, .int 2]) (rest := [.ref (q 23)]) C w (c_Fair_trait (q := q) h_7) cv_Fair_trait k764 (xr_34 C w) (by decide) hl.1 rfl (Nat.le_of_ble_eq_true rfl) d_Turn_load_24 (fun H locs w => ?_)
  show WK p l e s m _ below meth c 1 g (wX g q) A none σ2 H locs (F0 m 27 ls [.int r_8, .ref (q 23)])
  refine xp_23_tires C w k407 d_Turn_load_27 (fun σ_9 H locs eσ_9 w => ?_)
  have hf := lt_e eσ_9 hf
  refine lv_aload_n hx hb d_Turn_load_30 rfl (lv_at hl 0 rfl) ?_
  refine lv_aload_n hx hb d_Turn_load_31 rfl (lv_at hl 1 rfl) ?_
  refine lv_iload_n hx hb d_Turn_load_32 rfl (lv_at hl 2 rfl) ?_
  refine lv_iconst (v := 3) hx hb d_Turn_load_33 (by decide) ?_
  obtain ⟨r_11, h_10, hf⟩ := bp_e hf
  refine k_callV (As := [.int x2, .int 3]) (rest := [.ref (q 23)]) C w (c_Fair_trait (q := q) h_10) cv_Fair_trait k764 (xr_34 C w) (by decide) hl.1 rfl (Nat.le_of_ble_eq_true rfl) d_Turn_load_34 (fun H locs w => ?_)
  show WK p l e s m _ below meth c 1 g (wX g q) A none σ2 H locs (F0 m 37 ls [.int r_11, .ref (q 23)])
  refine xp_23_coins C w k408 d_Turn_load_37 (fun σ_12 H locs eσ_12 w => ?_)
  have hf := lt_e eσ_12 hf
  refine lv_aload_n hx hb d_Turn_load_40 rfl (lv_at hl 0 rfl) ?_
  refine lv_aload_n hx hb d_Turn_load_41 rfl (lv_at hl 1 rfl) ?_
  refine lv_iload_n hx hb d_Turn_load_42 rfl (lv_at hl 2 rfl) ?_
  refine lv_iconst (v := 4) hx hb d_Turn_load_43 (by decide) ?_
  obtain ⟨r_14, h_13, hf⟩ := bp_e hf
  refine k_callV (As := [.int x2, .int 4]) (rest := [.ref (q 23)]) C w (c_Fair_trait (q := q) h_13) cv_Fair_trait k764 (xr_34 C w) (by decide) hl.1 rfl (Nat.le_of_ble_eq_true rfl) d_Turn_load_44 (fun H locs w => ?_)
  show WK p l e s m _ below meth c 1 g (wX g q) A none σ2 H locs (F0 m 47 ls [.int r_14, .ref (q 23)])
  refine xp_23_stays C w k409 d_Turn_load_47 (fun σ_15 H locs eσ_15 w => ?_)
  have hf := lt_e eσ_15 hf
  refine lv_aload_n hx hb d_Turn_load_50 rfl (lv_at hl 0 rfl) ?_
  refine lv_aload_n hx hb d_Turn_load_51 rfl (lv_at hl 1 rfl) ?_
  refine lv_iload_n hx hb d_Turn_load_52 rfl (lv_at hl 2 rfl) ?_
  refine lv_iconst (v := 5) hx hb d_Turn_load_53 (by decide) ?_
  obtain ⟨r_17, h_16, hf⟩ := bp_e hf
  refine k_callV (As := [.int x2, .int 5]) (rest := [.ref (q 23)]) C w (c_Fair_trait (q := q) h_16) cv_Fair_trait k764 (xr_34 C w) (by decide) hl.1 rfl (Nat.le_of_ble_eq_true rfl) d_Turn_load_54 (fun H locs w => ?_)
  show WK p l e s m _ below meth c 1 g (wX g q) A none σ2 H locs (F0 m 57 ls [.int r_17, .ref (q 23)])
  refine xp_23_lady C w k410 d_Turn_load_57 (fun σ_18 H locs eσ_18 w => ?_)
  have hf := lt_e eσ_18 hf
  refine lv_aload_n hx hb d_Turn_load_60 rfl (lv_at hl 0 rfl) ?_
  refine lv_aload_n hx hb d_Turn_load_61 rfl (lv_at hl 3 rfl) ?_
  refine lv_iconst (v := 0) hx hb d_Turn_load_62 (by decide) ?_
  refine xl_15 C w (by decide) d_Turn_load_63 ?_
  refine xp_23_bell C w k413 d_Turn_load_64 (fun σ_19 H locs eσ_19 w => ?_)
  have hf := lt_e eσ_19 hf
  refine lv_aload_n hx hb d_Turn_load_67 rfl (lv_at hl 0 rfl) ?_
  refine lv_aload_n hx hb d_Turn_load_68 rfl (lv_at hl 3 rfl) ?_
  refine lv_iconst (v := 1) hx hb d_Turn_load_69 (by decide) ?_
  refine xl_15 C w (by decide) d_Turn_load_70 ?_
  refine xp_23_slack C w k415 d_Turn_load_71 (fun σ_20 H locs eσ_20 w => ?_)
  have hf := lt_e eσ_20 hf
  refine lv_aload_n hx hb d_Turn_load_74 rfl (lv_at hl 0 rfl) ?_
  refine lv_aload_n hx hb d_Turn_load_75 rfl (lv_at hl 3 rfl) ?_
  refine lv_iconst (v := 2) hx hb d_Turn_load_76 (by decide) ?_
  refine xl_15 C w (by decide) d_Turn_load_77 ?_
  refine xp_23_price C w k417 d_Turn_load_78 (fun σ_21 H locs eσ_21 w => ?_)
  have hf := lt_e eσ_21 hf
  refine lv_aload_n hx hb d_Turn_load_81 rfl (lv_at hl 0 rfl) ?_
  refine lv_aload_n hx hb d_Turn_load_82 rfl (lv_at hl 1 rfl) ?_
  refine xg_34_settings C w k260 d_Turn_load_83 ?_
  refine lv_iconst (v := 3) hx hb d_Turn_load_86 (by decide) ?_
  refine xl_39 C w (by decide) d_Turn_load_87 ?_
  refine xp_23_tries C w k418 d_Turn_load_88 (fun σ_22 H locs eσ_22 w => ?_)
  have hf := lt_e eσ_22 hf
  refine lv_aload_n hx hb d_Turn_load_91 rfl (lv_at hl 0 rfl) ?_
  refine lv_aload_n hx hb d_Turn_load_92 rfl (lv_at hl 1 rfl) ?_
  refine xg_34_settings C w k260 d_Turn_load_93 ?_
  refine lv_iconst (v := 5) hx hb d_Turn_load_96 (by decide) ?_
  refine xl_39 C w (by decide) d_Turn_load_97 ?_
  refine xp_23_near C w k419 d_Turn_load_98 (fun σ_23 H locs eσ_23 w => ?_)
  have hf := lt_e eσ_23 hf
  refine lv_aload_n hx hb d_Turn_load_101 rfl (lv_at hl 0 rfl) ?_
  refine lv_aload_n hx hb d_Turn_load_102 rfl (lv_at hl 1 rfl) ?_
  refine xg_34_settings C w k260 d_Turn_load_103 ?_
  refine lv_iconst (v := 4) hx hb d_Turn_load_106 (by decide) ?_
  refine xl_39 C w (by decide) d_Turn_load_107 ?_
  refine xp_23_crowd C w k420 d_Turn_load_108 (fun σ_24 H locs eσ_24 w => ?_)
  have hf := lt_e eσ_24 hf
  refine lv_aload_n hx hb d_Turn_load_111 rfl (lv_at hl 1 rfl) ?_
  refine xg_34_settings C w k260 d_Turn_load_112 ?_
  refine lv_bipush (v := 6) hx hb d_Turn_load_115 (by decide) ?_
  refine lv_aload_n hx hb d_Turn_load_117 rfl (lv_at hl 0 rfl) ?_
  refine xg_23_comes C w k422 d_Turn_load_118 ?_
  refine lv_iconst (v := 0) hx hb d_Turn_load_121 (by decide) ?_
  refine lv_aload_n hx hb d_Turn_load_122 rfl (lv_at hl 0 rfl) ?_
  refine xg_23_comes C w k422 d_Turn_load_123 ?_
  refine xn_24 C w d_Turn_load_126 ?_
  refine xc_39_24 C w hl.1 (by omega) (Nat.le_of_ble_eq_true rfl) (by decide) (by decide) (by decide) (by decide) (by decide) k765 d_Turn_load_127 (fun σ_25 H locs eσ_25 w => ?_)
  have hf := lt_e eσ_25 hf
  cases some_e hf
  exact k_vret C w d_Turn_load_130
def f_BH_rise (x0 : Int32) (x1 : Int32) (x2 : Int32) (σ : St) : Option (Int32) :=
  lt (((x0 * (100 - (10 * x1))) / 100)) fun x_1 =>
  some ((x_1 * (100 - x2)) / 100)
set_option maxHeartbeats 4000000 in
set_option maxRecDepth 20000 in
theorem c_BH_rise {l : Launch} {g : GX} {q : Nat → Nat} {x0 : Int32} {x1 : Int32} {x2 : Int32}  {σ : St} {r : Int32} (hf : f_BH_rise  x0 x1 x2 σ = some r) : KK l y_BH_rise prog_1_method_39_code 4 (some .int) 0 g (wX g q) σ [.int x0, .int x1, .int x2] (some (.int r)) (wX g q) σ := by
  refine KK_of (plainFor_of_name (by decide)) (Nat.le_of_ble_eq_true rfl) (fun p e s m below meth c A ls C w hl => ?_)
  have hl : lv_has ls 4 [(0, .int x0), (1, .int x1), (2, .int x2)] := hl
  obtain ⟨hx, hb, hml, hown, hts, hK, hA, hZ, hlocks, hr, hN⟩ := id C
  unfold f_BH_rise at hf
  refine lv_iload_n hx hb d_BH_rise_0 rfl (lv_at hl 0 rfl) ?_
  refine lv_bipush (v := 100) hx hb d_BH_rise_1 (by decide) ?_
  refine lv_bipush (v := 10) hx hb d_BH_rise_3 (by decide) ?_
  refine lv_iload_n hx hb d_BH_rise_5 rfl (lv_at hl 1 rfl) ?_
  refine lv_imul hx hb d_BH_rise_6 ?_
  refine lv_isub hx hb d_BH_rise_7 ?_
  refine lv_imul hx hb d_BH_rise_8 ?_
  refine lv_bipush (v := 100) hx hb d_BH_rise_9 (by decide) ?_
  refine lv_idiv hx hb d_BH_rise_11 (by decide) ?_
  refine lv_topi (fun x_1 ex_1 => ?_)
  have hf := lt_e ex_1 hf
  refine lv_istore_n (lv' := [(3, .int x_1), (0, .int x0), (1, .int x1), (2, .int x2)]) hx hb d_BH_rise_12 rfl hl (by decide) rfl (fun ls hl => ?_)
  refine lv_iload_n hx hb d_BH_rise_13 rfl (lv_at hl 0 rfl) ?_
  refine lv_bipush (v := 100) hx hb d_BH_rise_14 (by decide) ?_
  refine lv_iload_n hx hb d_BH_rise_16 rfl (lv_at hl 3 rfl) ?_
  refine lv_isub hx hb d_BH_rise_17 ?_
  refine lv_imul hx hb d_BH_rise_18 ?_
  refine lv_bipush (v := 100) hx hb d_BH_rise_19 (by decide) ?_
  refine lv_idiv hx hb d_BH_rise_21 (by decide) ?_
  cases some_e hf
  exact k_iret C w d_BH_rise_22
def f_Turn_height_36 (t0 : Int32) (t1 : Int32) (t2 : Int32) (t3 : Int32) (σ : St) : Option (Int32) :=
  bp (f_BH_rise t2 t1 t0 σ) fun r_2 =>
  some (iMin t3 r_2)
def f_Turn_height (x1 : Int32) (x2 : Int32) (x3 : Int32) (σ : St) : Option (Int32) :=
  lt ((iMax 1 ((sI σ 25) - (x1 * (sI σ 27))))) fun x_1 =>
  if x3 = 0 then
    f_Turn_height_36 0 x2 x_1 (sI σ 31) σ
  else
    f_Turn_height_36 (sI σ 32) x2 x_1 (sI σ 31) σ
set_option maxHeartbeats 4000000 in
set_option maxRecDepth 20000 in
theorem t_Turn_height_36 {r : Int32} {σ : St} (C : Cx g A p s m av meth c prog_10_method_5_code 5 "BellHammer$Turn" (some .int))  {t0 : Int32} {t1 : Int32} {t2 : Int32} {t3 : Int32} {H : Heap} {locs : List Loc} {ls : Array Slot} (hf : f_Turn_height_36   t0 t1 t2 t3 σ = some r) (w : Wd g (wX g q) A s σ H locs) (hl : lv_has ls 5 []) : WK p l e s m av below meth c 1 g (wX g q) A (some (.int r)) σ H locs (F0 m 36 ls [.int t0, .int t1, .int t2, .int t3]) := by
  obtain ⟨hx, hb, hml, hown, hts, hK, hA, hZ, hlocks, hr, hN⟩ := id C
  unfold f_Turn_height_36 at hf
  obtain ⟨r_2, h_1, hf⟩ := bp_e hf
  refine k_callSN (As := [.int t2, .int t1, .int t0]) (rest := [.int t3]) C w (c_BH_rise (q := q) h_1) cv_BH_rise (List.mem_of_getElem? (l := nestM) (i := 7) rfl) (by decide) hl.1 rfl (Nat.le_of_ble_eq_true rfl) d_Turn_height_36 (fun H locs w => ?_)
  show WK p l e s m av below meth c 1 g (wX g q) A (some (.int r)) σ H locs (F0 m 39 ls [.int r_2, .int t3])
  refine r_min C hl.1 (by omega) (Nat.le_of_ble_eq_true rfl) k776 d_Turn_height_39 ?_
  cases some_e hf
  exact k_iret C w d_Turn_height_42
set_option maxHeartbeats 4000000 in
set_option maxRecDepth 20000 in
theorem c_Turn_height {l : Launch} {g : GX} {q : Nat → Nat} {x1 : Int32} {x2 : Int32} {x3 : Int32}  {σ : St} {r : Int32} (hf : f_Turn_height  x1 x2 x3 σ = some r) : KK l y_Turn_height prog_10_method_5_code 5 (some .int) 1 g (wX g q) σ [.ref (q 23), .int x1, .int x2, .int x3] (some (.int r)) (wX g q) σ := by
  refine KK_of (plainFor_of_name (by decide)) (Nat.le_of_ble_eq_true rfl) (fun p e s m below meth c A ls C w hl => ?_)
  have hl : lv_has ls 5 [(0, .ref (q 23)), (1, .int x1), (2, .int x2), (3, .int x3)] := hl
  obtain ⟨hx, hb, hml, hown, hts, hK, hA, hZ, hlocks, hr, hN⟩ := id C
  unfold f_Turn_height at hf
  refine lv_iconst (v := 1) hx hb d_Turn_height_0 (by decide) ?_
  refine lv_aload_n hx hb d_Turn_height_1 rfl (lv_at hl 0 rfl) ?_
  refine xg_23_force C w k402 d_Turn_height_2 ?_
  refine lv_iload_n hx hb d_Turn_height_5 rfl (lv_at hl 1 rfl) ?_
  refine lv_aload_n hx hb d_Turn_height_6 rfl (lv_at hl 0 rfl) ?_
  refine xg_23_tires C w k407 d_Turn_height_7 ?_
  refine lv_imul hx hb d_Turn_height_10 ?_
  refine lv_isub hx hb d_Turn_height_11 ?_
  refine r_max C hl.1 (by omega) (Nat.le_of_ble_eq_true rfl) k770 d_Turn_height_12 ?_
  refine lv_topi (fun x_1 ex_1 => ?_)
  have hf := lt_e ex_1 hf
  refine lv_istore (lv' := [(4, .int x_1), (0, .ref (q 23)), (1, .int x1), (2, .int x2), (3, .int x3)]) hx hb d_Turn_height_15 hl (by decide) rfl (fun ls hl => ?_)
  refine lv_aload_n hx hb d_Turn_height_17 rfl (lv_at hl 1 rfl) ?_
  refine xg_23_bell C w k413 d_Turn_height_18 ?_
  refine lv_iload hx hb d_Turn_height_21 (lv_at hl 0 rfl) ?_
  refine lv_iload_n hx hb d_Turn_height_23 rfl (lv_at hl 3 rfl) ?_
  refine lv_iload_n hx hb d_Turn_height_24 rfl (lv_at hl 4 rfl) ?_
  refine lv_if_eq (tgt := 35) hx hb d_Turn_height_25 (by decide) (fun cd => ?_) (fun cd => ?_)
  · have hf := it_e cd hf
    refine lv_iconst (v := 0) hx hb d_Turn_height_35 (by decide) ?_
    exact t_Turn_height_36 C  hf w (lv_sub hl [] rfl)
  · have hf := if_e cd hf
    refine lv_aload_n hx hb d_Turn_height_28 rfl (lv_at hl 1 rfl) ?_
    refine xg_23_slack C w k415 d_Turn_height_29 ?_
    refine lv_goto (tgt := 36) hx hb d_Turn_height_32 (by decide) ?_
    exact t_Turn_height_36 C  hf w (lv_sub hl [] rfl)
def f_BH_high (x1 : Int32) (x2 : Int32) (x3 : Int32) (x4 : Int32) (σ : St) : Option (Int32 × St) :=
  bp (f_BH_isTrier x1 σ) fun r_2 =>
  if r_2 = 0 then
    some ((-1), σ)
  else
    if x2 < 0 then
      some ((-1), σ)
    else
      if 4 ≤ x2 then
        some ((-1), σ)
      else
        bp (f_BH_isOff x3 σ) fun r_4 =>
        if r_4 = 0 then
          some ((-1), σ)
        else
          bp (f_Turn_load x1 σ) fun σ_6 =>
          bp (f_Turn_height x2 x3 x4 σ_6) fun r_8 =>
          some (r_8, σ_6)
set_option maxHeartbeats 4000000 in
set_option maxRecDepth 20000 in
theorem c_BH_high {l : Launch} {g : GX} {q : Nat → Nat} {x1 : Int32} {x2 : Int32} {x3 : Int32} {x4 : Int32}  {σ : St} {r : Int32} {σ2 : St} (hf : f_BH_high  x1 x2 x3 x4 σ = some (r, σ2)) : KK l y_BH_high prog_1_method_11_code 5 (some .int) 2 g (wX g q) σ [.ref (q 0), .int x1, .int x2, .int x3, .int x4] (some (.int r)) (wX g q) σ2 := by
  refine KK_of (plainFor_of_name (by decide)) (Nat.le_of_ble_eq_true rfl) (fun p e s m below meth c A ls C w hl => ?_)
  have hl : lv_has ls 5 [(0, .ref (q 0)), (1, .int x1), (2, .int x2), (3, .int x3), (4, .int x4)] := hl
  obtain ⟨hx, hb, hml, hown, hts, hK, hA, hZ, hlocks, hr, hN⟩ := id C
  unfold f_BH_high at hf
  refine lv_aload_n hx hb d_BH_high_0 rfl (lv_at hl 0 rfl) ?_
  refine lv_iload_n hx hb d_BH_high_1 rfl (lv_at hl 1 rfl) ?_
  obtain ⟨r_2, h_1, hf⟩ := bp_e hf
  refine k_callV (As := [.int x1]) (rest := []) C w (c_BH_isTrier (q := q) h_1) cv_BH_isTrier k726 (xr_0 C w) (by decide) hl.1 rfl (Nat.le_of_ble_eq_true rfl) d_BH_high_2 (fun H locs w => ?_)
  show WK p l e s m _ below meth c 2 g (wX g q) A (some (.int r)) σ2 H locs (F0 m 5 ls [.int r_2])
  refine lv_if_eq (tgt := 24) hx hb d_BH_high_5 (by decide) (fun cd => ?_) (fun cd => ?_)
  · have hf := it_e cd hf
    refine lv_iconst (v := (-1)) hx hb d_BH_high_24 (by decide) ?_
    obtain ⟨rfl, rfl⟩ := some2_e hf
    exact k_iret C w d_BH_high_25
  · have hf := if_e cd hf
    refine lv_iload_n hx hb d_BH_high_8 rfl (lv_at hl 2 rfl) ?_
    refine lv_if_lt (tgt := 24) hx hb d_BH_high_9 (by decide) (fun cd => ?_) (fun cd => ?_)
    · have hf := it_e cd hf
      refine lv_iconst (v := (-1)) hx hb d_BH_high_24 (by decide) ?_
      obtain ⟨rfl, rfl⟩ := some2_e hf
      exact k_iret C w d_BH_high_25
    · have hf := if_e cd hf
      refine lv_iload_n hx hb d_BH_high_12 rfl (lv_at hl 2 rfl) ?_
      refine lv_iconst (v := 4) hx hb d_BH_high_13 (by decide) ?_
      refine lv_icmp_ge (tgt := 24) hx hb d_BH_high_14 (by decide) (fun cd => ?_) (fun cd => ?_)
      · have hf := it_e cd hf
        refine lv_iconst (v := (-1)) hx hb d_BH_high_24 (by decide) ?_
        obtain ⟨rfl, rfl⟩ := some2_e hf
        exact k_iret C w d_BH_high_25
      · have hf := if_e cd hf
        refine lv_iload_n hx hb d_BH_high_17 rfl (lv_at hl 3 rfl) ?_
        obtain ⟨r_4, h_3, hf⟩ := bp_e hf
        refine k_callS (As := [.int x3]) (rest := []) C w (c_BH_isOff (q := q) h_3) cv_BH_isOff k754 (by decide) hl.1 rfl (Nat.le_of_ble_eq_true rfl) d_BH_high_18 (fun H locs w => ?_)
        show WK p l e s m _ below meth c 2 g (wX g q) A (some (.int r)) σ2 H locs (F0 m 21 ls [.int r_4])
        refine lv_if_ne (tgt := 26) hx hb d_BH_high_21 (by decide) (fun cd => ?_) (fun cd => ?_)
        · have hf := if_e cd hf
          refine lv_aload_n hx hb d_BH_high_26 rfl (lv_at hl 0 rfl) ?_
          refine xg_0_turn C w k509 d_BH_high_27 ?_
          refine lv_aload_n hx hb d_BH_high_30 rfl (lv_at hl 0 rfl) ?_
          refine xg_0_fair C w k511 d_BH_high_31 ?_
          refine lv_iload_n hx hb d_BH_high_34 rfl (lv_at hl 1 rfl) ?_
          refine lv_aload_n hx hb d_BH_high_35 rfl (lv_at hl 0 rfl) ?_
          refine xg_0_book C w k507 d_BH_high_36 ?_
          refine xg_14_now C w k342 d_BH_high_39 ?_
          obtain ⟨σ_6, h_5, hf⟩ := bp_e hf
          refine k_callV (As := [.ref (q 34), .int x1, .ref (q 15)]) (rest := []) C w (c_Turn_load (q := q) h_5) cv_Turn_load k760 (xr_23 C w) (by decide) hl.1 rfl (Nat.le_of_ble_eq_true rfl) d_BH_high_42 (fun H locs w => ?_)
          show WK p l e s m _ below meth c 2 g (wX g q) A (some (.int r)) σ2 H locs (F0 m 45 ls [])
          refine lv_aload_n hx hb d_BH_high_45 rfl (lv_at hl 0 rfl) ?_
          refine xg_0_turn C w k509 d_BH_high_46 ?_
          refine lv_iload_n hx hb d_BH_high_49 rfl (lv_at hl 2 rfl) ?_
          refine lv_iload_n hx hb d_BH_high_50 rfl (lv_at hl 3 rfl) ?_
          refine lv_iload hx hb d_BH_high_51 (lv_at hl 4 rfl) ?_
          obtain ⟨r_8, h_7, hf⟩ := bp_e hf
          refine k_callV (As := [.int x2, .int x3, .int x4]) (rest := []) C w (c_Turn_height (q := q) h_7) cv_Turn_height k766 (xr_23 C w) (by decide) hl.1 rfl (Nat.le_of_ble_eq_true rfl) d_BH_high_53 (fun H locs w => ?_)
          show WK p l e s m _ below meth c 2 g (wX g q) A (some (.int r)) σ2 H locs (F0 m 56 ls [.int r_8])
          obtain ⟨rfl, rfl⟩ := some2_e hf
          exact k_iret C w d_BH_high_56
        · have hf := it_e cd hf
          refine lv_iconst (v := (-1)) hx hb d_BH_high_24 (by decide) ?_
          obtain ⟨rfl, rfl⟩ := some2_e hf
          exact k_iret C w d_BH_high_25
def f_BH_wouldRing_19 (t0 : Int32) (t1 : Int32) (t2 : Int32) (σ : St) : Option (Int32) :=
  bp (f_BH_rise t2 t1 t0 σ) fun r_2 =>
  if r_2 < (sA σ 9 (0 : Int32).toNatClampNeg) then
    some 0
  else
    some 1
def f_BH_wouldRing (x1 : Int32) (x2 : Int32) (x3 : Int32) (σ : St) : Option (Int32) :=
  if x3 = 0 then
    f_BH_wouldRing_19 0 x2 x1 σ
  else
    f_BH_wouldRing_19 (sA σ 9 (1 : Int32).toNatClampNeg) x2 x1 σ
set_option maxHeartbeats 4000000 in
set_option maxRecDepth 20000 in
theorem t_BH_wouldRing_19 {r : Int32} {σ : St} (C : Cx g A p s m av meth c prog_1_method_40_code 4 "BellHammer" (some .boolean))  {t0 : Int32} {t1 : Int32} {t2 : Int32} {H : Heap} {locs : List Loc} {ls : Array Slot} (hf : f_BH_wouldRing_19   t0 t1 t2 σ = some r) (w : Wd g (wX g q) A s σ H locs) (hl : lv_has ls 4 [(0, .ref (q 0))]) : WK p l e s m av below meth c 1 g (wX g q) A (some (.int r)) σ H locs (F0 m 19 ls [.int t0, .int t1, .int t2]) := by
  obtain ⟨hx, hb, hml, hown, hts, hK, hA, hZ, hlocks, hr, hN⟩ := id C
  unfold f_BH_wouldRing_19 at hf
  obtain ⟨r_2, h_1, hf⟩ := bp_e hf
  refine k_callS (As := [.int t2, .int t1, .int t0]) (rest := []) C w (c_BH_rise (q := q) h_1) cv_BH_rise k785 (by decide) hl.1 rfl (Nat.le_of_ble_eq_true rfl) d_BH_wouldRing_19 (fun H locs w => ?_)
  show WK p l e s m av below meth c 1 g (wX g q) A (some (.int r)) σ H locs (F0 m 22 ls [.int r_2])
  refine lv_aload_n hx hb d_BH_wouldRing_22 rfl (lv_at hl 0 rfl) ?_
  refine xg_0_book C w k507 d_BH_wouldRing_23 ?_
  refine xg_14_now C w k342 d_BH_wouldRing_26 ?_
  refine lv_iconst (v := 0) hx hb d_BH_wouldRing_29 (by decide) ?_
  refine xl_15 C w (by decide) d_BH_wouldRing_30 ?_
  refine lv_icmp_lt (tgt := 38) hx hb d_BH_wouldRing_31 (by decide) (fun cd => ?_) (fun cd => ?_)
  · have hf := it_e cd hf
    refine lv_iconst (v := 0) hx hb d_BH_wouldRing_38 (by decide) ?_
    cases some_e hf
    exact k_zret C w (by decide) d_BH_wouldRing_39
  · have hf := if_e cd hf
    refine lv_iconst (v := 1) hx hb d_BH_wouldRing_34 (by decide) ?_
    refine lv_goto (tgt := 39) hx hb d_BH_wouldRing_35 (by decide) ?_
    cases some_e hf
    exact k_zret C w (by decide) d_BH_wouldRing_39
set_option maxHeartbeats 4000000 in
set_option maxRecDepth 20000 in
theorem c_BH_wouldRing {l : Launch} {g : GX} {q : Nat → Nat} {x1 : Int32} {x2 : Int32} {x3 : Int32}  {σ : St} {r : Int32} (hf : f_BH_wouldRing  x1 x2 x3 σ = some r) : KK l y_BH_wouldRing prog_1_method_40_code 4 (some .boolean) 1 g (wX g q) σ [.ref (q 0), .int x1, .int x2, .int x3] (some (.int r)) (wX g q) σ := by
  refine KK_of (plainFor_of_name (by decide)) (Nat.le_of_ble_eq_true rfl) (fun p e s m below meth c A ls C w hl => ?_)
  have hl : lv_has ls 4 [(0, .ref (q 0)), (1, .int x1), (2, .int x2), (3, .int x3)] := hl
  obtain ⟨hx, hb, hml, hown, hts, hK, hA, hZ, hlocks, hr, hN⟩ := id C
  unfold f_BH_wouldRing at hf
  refine lv_iload_n hx hb d_BH_wouldRing_0 rfl (lv_at hl 1 rfl) ?_
  refine lv_iload_n hx hb d_BH_wouldRing_1 rfl (lv_at hl 2 rfl) ?_
  refine lv_iload_n hx hb d_BH_wouldRing_2 rfl (lv_at hl 3 rfl) ?_
  refine lv_if_eq (tgt := 18) hx hb d_BH_wouldRing_3 (by decide) (fun cd => ?_) (fun cd => ?_)
  · have hf := it_e cd hf
    refine lv_iconst (v := 0) hx hb d_BH_wouldRing_18 (by decide) ?_
    exact t_BH_wouldRing_19 C  hf w (lv_sub hl [0] rfl)
  · have hf := if_e cd hf
    refine lv_aload_n hx hb d_BH_wouldRing_6 rfl (lv_at hl 0 rfl) ?_
    refine xg_0_book C w k507 d_BH_wouldRing_7 ?_
    refine xg_14_now C w k342 d_BH_wouldRing_10 ?_
    refine lv_iconst (v := 1) hx hb d_BH_wouldRing_13 (by decide) ?_
    refine xl_15 C w (by decide) d_BH_wouldRing_14 ?_
    refine lv_goto (tgt := 19) hx hb d_BH_wouldRing_15 (by decide) ?_
    exact t_BH_wouldRing_19 C  hf w (lv_sub hl [0] rfl)
def f_BH_hard_11b (k11 : Int32 → Int32 → Int32 → St → Option (Int32)) (x1 : Int32) (x2 : Int32) (x3 : Int32) (σ : St) : Option (Int32) :=
  if 99 < x3 then
    some (-1)
  else
    bp (f_BH_wouldRing x3 x1 x2 σ) fun r_2 =>
    if r_2 = 0 then
      lt ((x3 + 1)) fun x_3 =>
      k11 x1 x2 x_3 σ
    else
      some x3
def f_BH_hard_11 : Nat → Int32 → Int32 → Int32 → St → Option (Int32)
  | 0 => fun _ _ _ _ => none
  | n + 1 => f_BH_hard_11b   (f_BH_hard_11   n)
def f_BH_hard (x1 : Int32) (x2 : Int32) (σ : St) : Option (Int32) :=
  bp (f_BH_isOff x1 σ) fun r_2 =>
  if r_2 = 0 then
    some (-1)
  else
    f_BH_hard_11 FU x1 x2 1 σ
set_option maxHeartbeats 4000000 in
set_option maxRecDepth 20000 in
theorem t_BH_hard_11b {r : Int32} {σ : St} (C : Cx g A p s m av meth c prog_1_method_12_code 4 "BellHammer" (some .int)) {k11 : Int32 → Int32 → Int32 → St → Option (Int32)} (hk11 : ∀ (x1 : Int32) (x2 : Int32) (x3 : Int32) (H : Heap) (locs : List Loc) (ls : Array Slot), k11 x1 x2 x3 σ = some r → Wd g (wX g q) A s σ H locs → lv_has ls 4 [(0, .ref (q 0)), (1, .int x1), (2, .int x2), (3, .int x3)] → WK p l e s m av below meth c 2 g (wX g q) A (some (.int r)) σ H locs (F0 m 11 ls []))  {x1 : Int32} {x2 : Int32} {x3 : Int32} {H : Heap} {locs : List Loc} {ls : Array Slot} (hf : f_BH_hard_11b  k11 x1 x2 x3 σ = some r) (w : Wd g (wX g q) A s σ H locs) (hl : lv_has ls 4 [(0, .ref (q 0)), (1, .int x1), (2, .int x2), (3, .int x3)]) : WK p l e s m av below meth c 2 g (wX g q) A (some (.int r)) σ H locs (F0 m 11 ls []) := by
  obtain ⟨hx, hb, hml, hown, hts, hK, hA, hZ, hlocks, hr, hN⟩ := id C
  unfold f_BH_hard_11b at hf
  refine lv_iload_n hx hb d_BH_hard_11 rfl (lv_at hl 3 rfl) ?_
  refine lv_bipush (v := 99) hx hb d_BH_hard_12 (by decide) ?_
  refine lv_icmp_gt (tgt := 35) hx hb d_BH_hard_14 (by decide) (fun cd => ?_) (fun cd => ?_)
  · have hf := it_e cd hf
    refine lv_iconst (v := (-1)) hx hb d_BH_hard_35 (by decide) ?_
    cases some_e hf
    exact k_iret C w d_BH_hard_36
  · have hf := if_e cd hf
    refine lv_aload_n hx hb d_BH_hard_17 rfl (lv_at hl 0 rfl) ?_
    refine lv_iload_n hx hb d_BH_hard_18 rfl (lv_at hl 3 rfl) ?_
    refine lv_iload_n hx hb d_BH_hard_19 rfl (lv_at hl 1 rfl) ?_
    refine lv_iload_n hx hb d_BH_hard_20 rfl (lv_at hl 2 rfl) ?_
    obtain ⟨r_2, h_1, hf⟩ := bp_e hf
    refine k_callV (As := [.int x3, .int x1, .int x2]) (rest := []) C w (c_BH_wouldRing (q := q) h_1) cv_BH_wouldRing k781 (xr_0 C w) (by decide) hl.1 rfl (Nat.le_of_ble_eq_true rfl) d_BH_hard_21 (fun H locs w => ?_)
    show WK p l e s m av below meth c 2 g (wX g q) A (some (.int r)) σ H locs (F0 m 24 ls [.int r_2])
    refine lv_if_eq (tgt := 29) hx hb d_BH_hard_24 (by decide) (fun cd => ?_) (fun cd => ?_)
    · have hf := it_e cd hf
      obtain ⟨x_3, ex_3⟩ : ∃ y : Int32, y = (x3 + 1) := ⟨_, rfl⟩
      have hf := lt_e ex_3 hf
      refine lv_iinc (v := x_3) (lv' := [(3, .int x_3), (0, .ref (q 0)), (1, .int x1), (2, .int x2)]) hx hb d_BH_hard_29 hl (k := 3) rfl (by rw [ex_3]; rfl) (by decide) rfl (fun ls hl => ?_)
      refine lv_goto (tgt := 11) hx hb d_BH_hard_32 (by decide) ?_
      exact hk11 x1 x2 x_3  _ _ _ hf w (lv_sub hl [1, 2, 3, 0] rfl)
    · have hf := if_e cd hf
      refine lv_iload_n hx hb d_BH_hard_27 rfl (lv_at hl 3 rfl) ?_
      cases some_e hf
      exact k_iret C w d_BH_hard_28
set_option maxHeartbeats 4000000 in
set_option maxRecDepth 20000 in
theorem t_BH_hard_11 {r : Int32} {σ : St} (C : Cx g A p s m av meth c prog_1_method_12_code 4 "BellHammer" (some .int))  : ∀ (n : Nat) (x1 : Int32) (x2 : Int32) (x3 : Int32) (H : Heap) (locs : List Loc) (ls : Array Slot), f_BH_hard_11   n x1 x2 x3 σ = some r → Wd g (wX g q) A s σ H locs → lv_has ls 4 [(0, .ref (q 0)), (1, .int x1), (2, .int x2), (3, .int x3)] → WK p l e s m av below meth c 2 g (wX g q) A (some (.int r)) σ H locs (F0 m 11 ls []) := by
  intro n
  induction n with
  | zero => intro x1 x2 x3 H locs ls hf; exact absurd hf (by intro z; cases z)
  | succ n ih => intro x1 x2 x3 H locs ls hf w hl; exact t_BH_hard_11b C  ih hf w hl
set_option maxHeartbeats 4000000 in
set_option maxRecDepth 20000 in
theorem c_BH_hard {l : Launch} {g : GX} {q : Nat → Nat} {x1 : Int32} {x2 : Int32}  {σ : St} {r : Int32} (hf : f_BH_hard  x1 x2 σ = some r) : KK l y_BH_hard prog_1_method_12_code 4 (some .int) 2 g (wX g q) σ [.ref (q 0), .int x1, .int x2] (some (.int r)) (wX g q) σ := by
  refine KK_of (plainFor_of_name (by decide)) (Nat.le_of_ble_eq_true rfl) (fun p e s m below meth c A ls C w hl => ?_)
  have hl : lv_has ls 4 [(0, .ref (q 0)), (1, .int x1), (2, .int x2)] := hl
  obtain ⟨hx, hb, hml, hown, hts, hK, hA, hZ, hlocks, hr, hN⟩ := id C
  unfold f_BH_hard at hf
  refine lv_iload_n hx hb d_BH_hard_0 rfl (lv_at hl 1 rfl) ?_
  obtain ⟨r_2, h_1, hf⟩ := bp_e hf
  refine k_callS (As := [.int x1]) (rest := []) C w (c_BH_isOff (q := q) h_1) cv_BH_isOff k754 (by decide) hl.1 rfl (Nat.le_of_ble_eq_true rfl) d_BH_hard_1 (fun H locs w => ?_)
  show WK p l e s m _ below meth c 2 g (wX g q) A (some (.int r)) σ H locs (F0 m 4 ls [.int r_2])
  refine lv_if_ne (tgt := 9) hx hb d_BH_hard_4 (by decide) (fun cd => ?_) (fun cd => ?_)
  · have hf := if_e cd hf
    refine lv_iconst (v := 1) hx hb d_BH_hard_9 (by decide) ?_
    refine lv_istore_n (lv' := [(3, .int 1), (0, .ref (q 0)), (1, .int x1), (2, .int x2)]) hx hb d_BH_hard_10 rfl hl (by decide) rfl (fun ls hl => ?_)
    exact t_BH_hard_11 C  FU x1 x2 1  _ _ _ hf w (lv_sub hl [1, 2, 3, 0] rfl)
  · have hf := it_e cd hf
    refine lv_iconst (v := (-1)) hx hb d_BH_hard_7 (by decide) ?_
    cases some_e hf
    exact k_iret C w d_BH_hard_8
def f_BH_wide_16b (k16 : Int32 → Int32 → Int32 → St → Option (Int32)) (x1 : Int32) (x2 : Int32) (x3 : Int32) (σ : St) : Option (Int32) :=
  if x3 < 0 then
    some (-1)
  else
    bp (f_BH_wouldRing x1 x3 x2 σ) fun r_2 =>
    if r_2 = 0 then
      lt ((x3 + (-1))) fun x_3 =>
      k16 x1 x2 x_3 σ
    else
      some x3
def f_BH_wide_16 : Nat → Int32 → Int32 → Int32 → St → Option (Int32)
  | 0 => fun _ _ _ _ => none
  | n + 1 => f_BH_wide_16b   (f_BH_wide_16   n)
def f_BH_wide (x1 : Int32) (x2 : Int32) (σ : St) : Option (Int32) :=
  if x1 < 1 then
    some (-1)
  else
    if x1 ≤ 99 then
      f_BH_wide_16 FU x1 x2 9 σ
    else
      some (-1)
set_option maxHeartbeats 4000000 in
set_option maxRecDepth 20000 in
theorem t_BH_wide_16b {r : Int32} {σ : St} (C : Cx g A p s m av meth c prog_1_method_13_code 4 "BellHammer" (some .int)) {k16 : Int32 → Int32 → Int32 → St → Option (Int32)} (hk16 : ∀ (x1 : Int32) (x2 : Int32) (x3 : Int32) (H : Heap) (locs : List Loc) (ls : Array Slot), k16 x1 x2 x3 σ = some r → Wd g (wX g q) A s σ H locs → lv_has ls 4 [(0, .ref (q 0)), (1, .int x1), (2, .int x2), (3, .int x3)] → WK p l e s m av below meth c 2 g (wX g q) A (some (.int r)) σ H locs (F0 m 16 ls []))  {x1 : Int32} {x2 : Int32} {x3 : Int32} {H : Heap} {locs : List Loc} {ls : Array Slot} (hf : f_BH_wide_16b  k16 x1 x2 x3 σ = some r) (w : Wd g (wX g q) A s σ H locs) (hl : lv_has ls 4 [(0, .ref (q 0)), (1, .int x1), (2, .int x2), (3, .int x3)]) : WK p l e s m av below meth c 2 g (wX g q) A (some (.int r)) σ H locs (F0 m 16 ls []) := by
  obtain ⟨hx, hb, hml, hown, hts, hK, hA, hZ, hlocks, hr, hN⟩ := id C
  unfold f_BH_wide_16b at hf
  refine lv_iload_n hx hb d_BH_wide_16 rfl (lv_at hl 3 rfl) ?_
  refine lv_if_lt (tgt := 38) hx hb d_BH_wide_17 (by decide) (fun cd => ?_) (fun cd => ?_)
  · have hf := it_e cd hf
    refine lv_iconst (v := (-1)) hx hb d_BH_wide_38 (by decide) ?_
    cases some_e hf
    exact k_iret C w d_BH_wide_39
  · have hf := if_e cd hf
    refine lv_aload_n hx hb d_BH_wide_20 rfl (lv_at hl 0 rfl) ?_
    refine lv_iload_n hx hb d_BH_wide_21 rfl (lv_at hl 1 rfl) ?_
    refine lv_iload_n hx hb d_BH_wide_22 rfl (lv_at hl 3 rfl) ?_
    refine lv_iload_n hx hb d_BH_wide_23 rfl (lv_at hl 2 rfl) ?_
    obtain ⟨r_2, h_1, hf⟩ := bp_e hf
    refine k_callV (As := [.int x1, .int x3, .int x2]) (rest := []) C w (c_BH_wouldRing (q := q) h_1) cv_BH_wouldRing k781 (xr_0 C w) (by decide) hl.1 rfl (Nat.le_of_ble_eq_true rfl) d_BH_wide_24 (fun H locs w => ?_)
    show WK p l e s m av below meth c 2 g (wX g q) A (some (.int r)) σ H locs (F0 m 27 ls [.int r_2])
    refine lv_if_eq (tgt := 32) hx hb d_BH_wide_27 (by decide) (fun cd => ?_) (fun cd => ?_)
    · have hf := it_e cd hf
      obtain ⟨x_3, ex_3⟩ : ∃ y : Int32, y = (x3 + (-1)) := ⟨_, rfl⟩
      have hf := lt_e ex_3 hf
      refine lv_iinc (v := x_3) (lv' := [(3, .int x_3), (0, .ref (q 0)), (1, .int x1), (2, .int x2)]) hx hb d_BH_wide_32 hl (k := 3) rfl (by rw [ex_3]; rfl) (by decide) rfl (fun ls hl => ?_)
      refine lv_goto (tgt := 16) hx hb d_BH_wide_35 (by decide) ?_
      exact hk16 x1 x2 x_3  _ _ _ hf w (lv_sub hl [1, 2, 3, 0] rfl)
    · have hf := if_e cd hf
      refine lv_iload_n hx hb d_BH_wide_30 rfl (lv_at hl 3 rfl) ?_
      cases some_e hf
      exact k_iret C w d_BH_wide_31
set_option maxHeartbeats 4000000 in
set_option maxRecDepth 20000 in
theorem t_BH_wide_16 {r : Int32} {σ : St} (C : Cx g A p s m av meth c prog_1_method_13_code 4 "BellHammer" (some .int))  : ∀ (n : Nat) (x1 : Int32) (x2 : Int32) (x3 : Int32) (H : Heap) (locs : List Loc) (ls : Array Slot), f_BH_wide_16   n x1 x2 x3 σ = some r → Wd g (wX g q) A s σ H locs → lv_has ls 4 [(0, .ref (q 0)), (1, .int x1), (2, .int x2), (3, .int x3)] → WK p l e s m av below meth c 2 g (wX g q) A (some (.int r)) σ H locs (F0 m 16 ls []) := by
  intro n
  induction n with
  | zero => intro x1 x2 x3 H locs ls hf; exact absurd hf (by intro z; cases z)
  | succ n ih => intro x1 x2 x3 H locs ls hf w hl; exact t_BH_wide_16b C  ih hf w hl
set_option maxHeartbeats 4000000 in
set_option maxRecDepth 20000 in
theorem c_BH_wide {l : Launch} {g : GX} {q : Nat → Nat} {x1 : Int32} {x2 : Int32}  {σ : St} {r : Int32} (hf : f_BH_wide  x1 x2 σ = some r) : KK l y_BH_wide prog_1_method_13_code 4 (some .int) 2 g (wX g q) σ [.ref (q 0), .int x1, .int x2] (some (.int r)) (wX g q) σ := by
  refine KK_of (plainFor_of_name (by decide)) (Nat.le_of_ble_eq_true rfl) (fun p e s m below meth c A ls C w hl => ?_)
  have hl : lv_has ls 4 [(0, .ref (q 0)), (1, .int x1), (2, .int x2)] := hl
  obtain ⟨hx, hb, hml, hown, hts, hK, hA, hZ, hlocks, hr, hN⟩ := id C
  unfold f_BH_wide at hf
  refine lv_iload_n hx hb d_BH_wide_0 rfl (lv_at hl 1 rfl) ?_
  refine lv_iconst (v := 1) hx hb d_BH_wide_1 (by decide) ?_
  refine lv_icmp_lt (tgt := 11) hx hb d_BH_wide_2 (by decide) (fun cd => ?_) (fun cd => ?_)
  · have hf := it_e cd hf
    refine lv_iconst (v := (-1)) hx hb d_BH_wide_11 (by decide) ?_
    cases some_e hf
    exact k_iret C w d_BH_wide_12
  · have hf := if_e cd hf
    refine lv_iload_n hx hb d_BH_wide_5 rfl (lv_at hl 1 rfl) ?_
    refine lv_bipush (v := 99) hx hb d_BH_wide_6 (by decide) ?_
    refine lv_icmp_le (tgt := 13) hx hb d_BH_wide_8 (by decide) (fun cd => ?_) (fun cd => ?_)
    · have hf := it_e cd hf
      refine lv_bipush (v := 9) hx hb d_BH_wide_13 (by decide) ?_
      refine lv_istore_n (lv' := [(3, .int 9), (0, .ref (q 0)), (1, .int x1), (2, .int x2)]) hx hb d_BH_wide_15 rfl hl (by decide) rfl (fun ls hl => ?_)
      exact t_BH_wide_16 C  FU x1 x2 9  _ _ _ hf w (lv_sub hl [1, 2, 3, 0] rfl)
    · have hf := if_e cd hf
      refine lv_iconst (v := (-1)) hx hb d_BH_wide_11 (by decide) ?_
      cases some_e hf
      exact k_iret C w d_BH_wide_12
def f_Showman_look (x1 : Int32) (x2 : Int32) (x3 : Int32) (x4 : Int32) (σ : St) : Option (St) :=
  lt (uA σ 14 (upd (sA σ 14) (0 : Int32).toNatClampNeg x1)) fun σ_1 =>
  lt (uA σ_1 14 (upd (sA σ_1 14) (1 : Int32).toNatClampNeg x2)) fun σ_2 =>
  lt (uA σ_2 14 (upd (sA σ_2 14) (2 : Int32).toNatClampNeg x3)) fun σ_3 =>
  lt (uA σ_3 14 (upd (sA σ_3 14) (4 : Int32).toNatClampNeg x4)) fun σ_4 =>
  some σ_4
set_option maxHeartbeats 4000000 in
set_option maxRecDepth 20000 in
theorem c_Showman_look {l : Launch} {g : GX} {q : Nat → Nat} {x1 : Int32} {x2 : Int32} {x3 : Int32} {x4 : Int32}  {σ : St} {σ2 : St} (hf : f_Showman_look  x1 x2 x3 x4 σ = some σ2) : KK l y_Showman_look prog_7_method_2_code 5 none 0 g (wX g q) σ [.ref (q 20), .int x1, .int x2, .int x3, .int x4] none (wX g q) σ2 := by
  refine KK_of (plainFor_of_name (by decide)) (Nat.le_of_ble_eq_true rfl) (fun p e s m below meth c A ls C w hl => ?_)
  have hl : lv_has ls 5 [(0, .ref (q 20)), (1, .int x1), (2, .int x2), (3, .int x3), (4, .int x4)] := hl
  obtain ⟨hx, hb, hml, hown, hts, hK, hA, hZ, hlocks, hr, hN⟩ := id C
  unfold f_Showman_look at hf
  refine lv_aload_n hx hb d_Showman_look_0 rfl (lv_at hl 0 rfl) ?_
  refine xg_20_facts C w k389 d_Showman_look_1 ?_
  refine lv_iconst (v := 0) hx hb d_Showman_look_4 (by decide) ?_
  refine lv_iload_n hx hb d_Showman_look_5 rfl (lv_at hl 1 rfl) ?_
  refine xs_21 C w (by decide) d_Showman_look_6 (fun σ_1 H locs eσ_1 w => ?_)
  have hf := lt_e eσ_1 hf
  refine lv_aload_n hx hb d_Showman_look_7 rfl (lv_at hl 0 rfl) ?_
  refine xg_20_facts C w k389 d_Showman_look_8 ?_
  refine lv_iconst (v := 1) hx hb d_Showman_look_11 (by decide) ?_
  refine lv_iload_n hx hb d_Showman_look_12 rfl (lv_at hl 2 rfl) ?_
  refine xs_21 C w (by decide) d_Showman_look_13 (fun σ_2 H locs eσ_2 w => ?_)
  have hf := lt_e eσ_2 hf
  refine lv_aload_n hx hb d_Showman_look_14 rfl (lv_at hl 0 rfl) ?_
  refine xg_20_facts C w k389 d_Showman_look_15 ?_
  refine lv_iconst (v := 2) hx hb d_Showman_look_18 (by decide) ?_
  refine lv_iload_n hx hb d_Showman_look_19 rfl (lv_at hl 3 rfl) ?_
  refine xs_21 C w (by decide) d_Showman_look_20 (fun σ_3 H locs eσ_3 w => ?_)
  have hf := lt_e eσ_3 hf
  refine lv_aload_n hx hb d_Showman_look_21 rfl (lv_at hl 0 rfl) ?_
  refine xg_20_facts C w k389 d_Showman_look_22 ?_
  refine lv_iconst (v := 4) hx hb d_Showman_look_25 (by decide) ?_
  refine lv_iload hx hb d_Showman_look_26 (lv_at hl 4 rfl) ?_
  refine xs_21 C w (by decide) d_Showman_look_28 (fun σ_4 H locs eσ_4 w => ?_)
  have hf := lt_e eσ_4 hf
  cases some_e hf
  exact k_vret C w d_Showman_look_29
def f_Showman_lookAt (x1 : Int32) (x2 : Int32) (σ : St) : Option (St) :=
  lt (uA σ 14 (upd (sA σ 14) (3 : Int32).toNatClampNeg x1)) fun σ_1 =>
  lt (uA σ_1 14 (upd (sA σ_1 14) (5 : Int32).toNatClampNeg x2)) fun σ_2 =>
  some σ_2
set_option maxHeartbeats 4000000 in
set_option maxRecDepth 20000 in
theorem c_Showman_lookAt {l : Launch} {g : GX} {q : Nat → Nat} {x1 : Int32} {x2 : Int32}  {σ : St} {σ2 : St} (hf : f_Showman_lookAt  x1 x2 σ = some σ2) : KK l y_Showman_lookAt prog_7_method_3_code 3 none 0 g (wX g q) σ [.ref (q 20), .int x1, .int x2] none (wX g q) σ2 := by
  refine KK_of (plainFor_of_name (by decide)) (Nat.le_of_ble_eq_true rfl) (fun p e s m below meth c A ls C w hl => ?_)
  have hl : lv_has ls 3 [(0, .ref (q 20)), (1, .int x1), (2, .int x2)] := hl
  obtain ⟨hx, hb, hml, hown, hts, hK, hA, hZ, hlocks, hr, hN⟩ := id C
  unfold f_Showman_lookAt at hf
  refine lv_aload_n hx hb d_Showman_lookAt_0 rfl (lv_at hl 0 rfl) ?_
  refine xg_20_facts C w k389 d_Showman_lookAt_1 ?_
  refine lv_iconst (v := 3) hx hb d_Showman_lookAt_4 (by decide) ?_
  refine lv_iload_n hx hb d_Showman_lookAt_5 rfl (lv_at hl 1 rfl) ?_
  refine xs_21 C w (by decide) d_Showman_lookAt_6 (fun σ_1 H locs eσ_1 w => ?_)
  have hf := lt_e eσ_1 hf
  refine lv_aload_n hx hb d_Showman_lookAt_7 rfl (lv_at hl 0 rfl) ?_
  refine xg_20_facts C w k389 d_Showman_lookAt_8 ?_
  refine lv_iconst (v := 5) hx hb d_Showman_lookAt_11 (by decide) ?_
  refine lv_iload_n hx hb d_Showman_lookAt_12 rfl (lv_at hl 2 rfl) ?_
  refine xs_21 C w (by decide) d_Showman_lookAt_13 (fun σ_2 H locs eσ_2 w => ?_)
  have hf := lt_e eσ_2 hf
  cases some_e hf
  exact k_vret C w d_Showman_lookAt_14
def f_Showman_reckon_29 (t0 : Int64) (σ : St) : Option (Int32) :=
  if (lg_cmp t0 1000000) ≤ 0 then
    if 0 ≤ (lg_cmp t0 (-1000000)) then
      some (t0).toInt32
    else
      some ((-1000000)).toInt32
  else
    some (1000000).toInt32
def f_Showman_reckon (x0 : Int32) (x1 : Int64) (x3 : Int64) (σ : St) : Option (Int32) :=
  if x0 = 10016 then
    f_Showman_reckon_29 (x1 + x3) σ
  else
    if x0 = 10017 then
      f_Showman_reckon_29 (x1 - x3) σ
    else
      f_Showman_reckon_29 (x1 * x3) σ
set_option maxHeartbeats 4000000 in
set_option maxRecDepth 20000 in
theorem t_Showman_reckon_29 {r : Int32} {σ : St} (C : Cx g A p s m av meth c prog_7_method_8_code 7 "BellHammer$Showman" (some .int))  {t0 : Int64} {H : Heap} {locs : List Loc} {ls : Array Slot} (hf : f_Showman_reckon_29   t0 σ = some r) (w : Wd g (wX g q) A s σ H locs) (hl : lv_has ls 7 []) : WK p l e s m av below meth c 0 g (wX g q) A (some (.int r)) σ H locs (F0 m 29 ls [.long t0]) := by
  obtain ⟨hx, hb, hml, hown, hts, hK, hA, hZ, hlocks, hr, hN⟩ := id C
  unfold f_Showman_reckon_29 at hf
  refine lv_lstore (lv' := [(5, .long t0)]) hx hb d_Showman_reckon_29 hl (by decide) rfl (fun ls hl => ?_)
  refine lv_lload hx hb d_Showman_reckon_31 (lv_at hl 0 rfl) ?_
  refine lv_ldc2 (v := 1000000) hx hb hown (hts _ k825) d_Showman_reckon_33 ?_
  refine W.lcmp hx hb d_Showman_reckon_36 ?_
  refine lv_if_le (tgt := 46) hx hb d_Showman_reckon_37 (by decide) (fun cd => ?_) (fun cd => ?_)
  · have hf := it_e cd hf
    refine lv_lload hx hb d_Showman_reckon_46 (lv_at hl 0 rfl) ?_
    refine lv_ldc2 (v := (-1000000)) hx hb hown (hts _ k826) d_Showman_reckon_48 ?_
    refine W.lcmp hx hb d_Showman_reckon_51 ?_
    refine lv_if_ge (tgt := 61) hx hb d_Showman_reckon_52 (by decide) (fun cd => ?_) (fun cd => ?_)
    · have hf := it_e cd hf
      refine lv_lload hx hb d_Showman_reckon_61 (lv_at hl 0 rfl) ?_
      refine lv_l2i hx hb d_Showman_reckon_63 rfl ?_
      cases some_e hf
      exact k_iret C w d_Showman_reckon_64
    · have hf := if_e cd hf
      refine lv_ldc2 (v := (-1000000)) hx hb hown (hts _ k826) d_Showman_reckon_55 ?_
      refine lv_goto (tgt := 63) hx hb d_Showman_reckon_58 (by decide) ?_
      refine lv_l2i hx hb d_Showman_reckon_63 rfl ?_
      cases some_e hf
      exact k_iret C w d_Showman_reckon_64
  · have hf := if_e cd hf
    refine lv_ldc2 (v := 1000000) hx hb hown (hts _ k825) d_Showman_reckon_40 ?_
    refine lv_goto (tgt := 63) hx hb d_Showman_reckon_43 (by decide) ?_
    refine lv_l2i hx hb d_Showman_reckon_63 rfl ?_
    cases some_e hf
    exact k_iret C w d_Showman_reckon_64
set_option maxHeartbeats 4000000 in
set_option maxRecDepth 20000 in
theorem c_Showman_reckon {l : Launch} {g : GX} {q : Nat → Nat} {x0 : Int32} {x1 : Int64} {x3 : Int64}  {σ : St} {r : Int32} (hf : f_Showman_reckon  x0 x1 x3 σ = some r) : KK l y_Showman_reckon prog_7_method_8_code 7 (some .int) 0 g (wX g q) σ [.int x0, .long x1, .long x3] (some (.int r)) (wX g q) σ := by
  refine KK_of (plainFor_of_name (by decide)) (Nat.le_of_ble_eq_true rfl) (fun p e s m below meth c A ls C w hl => ?_)
  have hl : lv_has ls 7 [(0, .int x0), (1, .long x1), (3, .long x3)] := hl
  obtain ⟨hx, hb, hml, hown, hts, hK, hA, hZ, hlocks, hr, hN⟩ := id C
  unfold f_Showman_reckon at hf
  refine lv_iload_n hx hb d_Showman_reckon_0 rfl (lv_at hl 0 rfl) ?_
  refine lv_sipush (v := 10016) hx hb d_Showman_reckon_1 (by decide) ?_
  refine lv_icmp_ne (tgt := 13) hx hb d_Showman_reckon_4 (by decide) (fun cd => ?_) (fun cd => ?_)
  · have hf := if_e cd hf
    refine lv_iload_n hx hb d_Showman_reckon_13 rfl (lv_at hl 0 rfl) ?_
    refine lv_sipush (v := 10017) hx hb d_Showman_reckon_14 (by decide) ?_
    refine lv_icmp_ne (tgt := 26) hx hb d_Showman_reckon_17 (by decide) (fun cd => ?_) (fun cd => ?_)
    · have hf := if_e cd hf
      refine lv_lload_n hx hb d_Showman_reckon_26 rfl (lv_at hl 1 rfl) ?_
      refine lv_lload_n hx hb d_Showman_reckon_27 rfl (lv_at hl 2 rfl) ?_
      refine lv_lmul hx hb d_Showman_reckon_28 ?_
      exact t_Showman_reckon_29 C  hf w (lv_sub hl [] rfl)
    · have hf := it_e cd hf
      refine lv_lload_n hx hb d_Showman_reckon_20 rfl (lv_at hl 1 rfl) ?_
      refine lv_lload_n hx hb d_Showman_reckon_21 rfl (lv_at hl 2 rfl) ?_
      refine lv_lsub hx hb d_Showman_reckon_22 ?_
      refine lv_goto (tgt := 29) hx hb d_Showman_reckon_23 (by decide) ?_
      exact t_Showman_reckon_29 C  hf w (lv_sub hl [] rfl)
  · have hf := it_e cd hf
    refine lv_lload_n hx hb d_Showman_reckon_7 rfl (lv_at hl 1 rfl) ?_
    refine lv_lload_n hx hb d_Showman_reckon_8 rfl (lv_at hl 2 rfl) ?_
    refine lv_ladd hx hb d_Showman_reckon_9 ?_
    refine lv_goto (tgt := 29) hx hb d_Showman_reckon_10 (by decide) ?_
    exact t_Showman_reckon_29 C  hf w (lv_sub hl [] rfl)
def f_Math_floorDiv (x0 : Int32) (x1 : Int32) (σ : St) : Option (Int32) :=
  gd (nz x1) <|
  lt ((x0 / x1)) fun x_2 =>
  if 0 ≤ (x0 ^^^ x1) then
    some x_2
  else
    if (x_2 * x1) = x0 then
      some x_2
    else
      some (x_2 - 1)
set_option maxHeartbeats 4000000 in
set_option maxRecDepth 20000 in
theorem c_Math_floorDiv {l : Launch} {g : GX} {q : Nat → Nat} {x0 : Int32} {x1 : Int32}  {σ : St} {r : Int32} (hf : f_Math_floorDiv  x0 x1 σ = some r) : KK l y_Math_floorDiv prog_14_method_47_code 3 (some .int) 0 g (wX g q) σ [.int x0, .int x1] (some (.int r)) (wX g q) σ := by
  refine KK_of (by decide +kernel) (Nat.le_of_ble_eq_true rfl) (fun p e s m below meth c A ls C w hl => ?_)
  have hl : lv_has ls 3 [(0, .int x0), (1, .int x1)] := hl
  obtain ⟨hx, hb, hml, hown, hts, hK, hA, hZ, hlocks, hr, hN⟩ := id C
  unfold f_Math_floorDiv at hf
  refine lv_iload_n hx hb d_Math_floorDiv_0 rfl (lv_at hl 0 rfl) ?_
  refine lv_iload_n hx hb d_Math_floorDiv_1 rfl (lv_at hl 1 rfl) ?_
  obtain ⟨g_1, hf⟩ := gd_e hf
  refine lv_idiv hx hb d_Math_floorDiv_2 (nz_e g_1) ?_
  refine lv_topi (fun x_2 ex_2 => ?_)
  have hf := lt_e ex_2 hf
  refine lv_istore_n (lv' := [(2, .int x_2), (0, .int x0), (1, .int x1)]) hx hb d_Math_floorDiv_3 rfl hl (by decide) rfl (fun ls hl => ?_)
  refine lv_iload_n hx hb d_Math_floorDiv_4 rfl (lv_at hl 1 rfl) ?_
  refine lv_iload_n hx hb d_Math_floorDiv_5 rfl (lv_at hl 2 rfl) ?_
  refine lv_ixor hx hb d_Math_floorDiv_6 ?_
  refine lv_if_ge (tgt := 21) hx hb d_Math_floorDiv_7 (by decide) (fun cd => ?_) (fun cd => ?_)
  · have hf := it_e cd hf
    refine lv_iload_n hx hb d_Math_floorDiv_21 rfl (lv_at hl 0 rfl) ?_
    cases some_e hf
    exact k_iret C w d_Math_floorDiv_22
  · have hf := if_e cd hf
    refine lv_iload_n hx hb d_Math_floorDiv_10 rfl (lv_at hl 0 rfl) ?_
    refine lv_iload_n hx hb d_Math_floorDiv_11 rfl (lv_at hl 2 rfl) ?_
    refine lv_imul hx hb d_Math_floorDiv_12 ?_
    refine lv_iload_n hx hb d_Math_floorDiv_13 rfl (lv_at hl 1 rfl) ?_
    refine lv_icmp_eq (tgt := 21) hx hb d_Math_floorDiv_14 (by decide) (fun cd => ?_) (fun cd => ?_)
    · have hf := it_e cd hf
      refine lv_iload_n hx hb d_Math_floorDiv_21 rfl (lv_at hl 0 rfl) ?_
      cases some_e hf
      exact k_iret C w d_Math_floorDiv_22
    · have hf := if_e cd hf
      refine lv_iload_n hx hb d_Math_floorDiv_17 rfl (lv_at hl 0 rfl) ?_
      refine lv_iconst (v := 1) hx hb d_Math_floorDiv_18 (by decide) ?_
      refine lv_isub hx hb d_Math_floorDiv_19 ?_
      cases some_e hf
      exact k_iret C w d_Math_floorDiv_20
def f_Showman_join (x0 : Int32) (x1 : Int32) (x2 : Int32) (σ : St) : Option (Int32) :=
  if x0 = 10011 then
    some (x1 &&& x2)
  else
    if x0 = 10012 then
      some (x1 ||| x2)
    else
      if x0 = 10013 then
        if x2 ≤ x1 then
          some 0
        else
          some 1
      else
        if x0 = 10014 then
          if x1 ≤ x2 then
            some 0
          else
            some 1
        else
          if x0 = 10015 then
            if x1 = x2 then
              some 1
            else
              some 0
          else
            if x0 = 10019 then
              if x2 = 0 then
                some 0
              else
                bp (f_Math_floorDiv x1 x2 σ) fun r_2 =>
                some r_2
            else
              if x0 = 10020 then
                some (iMin x1 x2)
              else
                if x0 = 10021 then
                  some (iMax x1 x2)
                else
                  bp (f_Showman_reckon x0 ((x1).toInt64) ((x2).toInt64) σ) fun r_10 =>
                  some r_10
set_option maxHeartbeats 4000000 in
set_option maxRecDepth 20000 in
theorem c_Showman_join {l : Launch} {g : GX} {q : Nat → Nat} {x0 : Int32} {x1 : Int32} {x2 : Int32}  {σ : St} {r : Int32} (hf : f_Showman_join  x0 x1 x2 σ = some r) : KK l y_Showman_join prog_7_method_7_code 3 (some .int) 1 g (wX g q) σ [.int x0, .int x1, .int x2] (some (.int r)) (wX g q) σ := by
  refine KK_of (plainFor_of_name (by decide)) (Nat.le_of_ble_eq_true rfl) (fun p e s m below meth c A ls C w hl => ?_)
  have hl : lv_has ls 3 [(0, .int x0), (1, .int x1), (2, .int x2)] := hl
  obtain ⟨hx, hb, hml, hown, hts, hK, hA, hZ, hlocks, hr, hN⟩ := id C
  unfold f_Showman_join at hf
  refine lv_iload_n hx hb d_Showman_join_0 rfl (lv_at hl 0 rfl) ?_
  by_cases c10011 : x0 = 10011
  · have hf := it_e c10011 hf
    refine lv_tableIn (tgt := 60) hx hb d_Showman_join_1 (by rw [c10011]; decide) (by rw [c10011]; decide) (by rw [c10011]; rfl) (by decide) ?_
    refine lv_iload_n hx hb d_Showman_join_60 rfl (lv_at hl 1 rfl) ?_
    refine lv_iload_n hx hb d_Showman_join_61 rfl (lv_at hl 2 rfl) ?_
    refine lv_iand hx hb d_Showman_join_62 ?_
    cases some_e hf
    exact k_iret C w d_Showman_join_63
  have hf := if_e c10011 hf
  have n10011 := lv_neT c10011 (a := 10011) rfl
  by_cases c10012 : x0 = 10012
  · have hf := it_e c10012 hf
    refine lv_tableIn (tgt := 64) hx hb d_Showman_join_1 (by rw [c10012]; decide) (by rw [c10012]; decide) (by rw [c10012]; rfl) (by decide) ?_
    refine lv_iload_n hx hb d_Showman_join_64 rfl (lv_at hl 1 rfl) ?_
    refine lv_iload_n hx hb d_Showman_join_65 rfl (lv_at hl 2 rfl) ?_
    refine lv_ior hx hb d_Showman_join_66 ?_
    cases some_e hf
    exact k_iret C w d_Showman_join_67
  have hf := if_e c10012 hf
  have n10012 := lv_neT c10012 (a := 10012) rfl
  by_cases c10013 : x0 = 10013
  · have hf := it_e c10013 hf
    refine lv_tableIn (tgt := 68) hx hb d_Showman_join_1 (by rw [c10013]; decide) (by rw [c10013]; decide) (by rw [c10013]; rfl) (by decide) ?_
    refine lv_iload_n hx hb d_Showman_join_68 rfl (lv_at hl 1 rfl) ?_
    refine lv_iload_n hx hb d_Showman_join_69 rfl (lv_at hl 2 rfl) ?_
    refine lv_icmp_ge (tgt := 77) hx hb d_Showman_join_70 (by decide) (fun cd => ?_) (fun cd => ?_)
    · have hf := it_e cd hf
      refine lv_iconst (v := 0) hx hb d_Showman_join_77 (by decide) ?_
      cases some_e hf
      exact k_iret C w d_Showman_join_78
    · have hf := if_e cd hf
      refine lv_iconst (v := 1) hx hb d_Showman_join_73 (by decide) ?_
      refine lv_goto (tgt := 78) hx hb d_Showman_join_74 (by decide) ?_
      cases some_e hf
      exact k_iret C w d_Showman_join_78
  have hf := if_e c10013 hf
  have n10013 := lv_neT c10013 (a := 10013) rfl
  by_cases c10014 : x0 = 10014
  · have hf := it_e c10014 hf
    refine lv_tableIn (tgt := 79) hx hb d_Showman_join_1 (by rw [c10014]; decide) (by rw [c10014]; decide) (by rw [c10014]; rfl) (by decide) ?_
    refine lv_iload_n hx hb d_Showman_join_79 rfl (lv_at hl 1 rfl) ?_
    refine lv_iload_n hx hb d_Showman_join_80 rfl (lv_at hl 2 rfl) ?_
    refine lv_icmp_le (tgt := 88) hx hb d_Showman_join_81 (by decide) (fun cd => ?_) (fun cd => ?_)
    · have hf := it_e cd hf
      refine lv_iconst (v := 0) hx hb d_Showman_join_88 (by decide) ?_
      cases some_e hf
      exact k_iret C w d_Showman_join_89
    · have hf := if_e cd hf
      refine lv_iconst (v := 1) hx hb d_Showman_join_84 (by decide) ?_
      refine lv_goto (tgt := 89) hx hb d_Showman_join_85 (by decide) ?_
      cases some_e hf
      exact k_iret C w d_Showman_join_89
  have hf := if_e c10014 hf
  have n10014 := lv_neT c10014 (a := 10014) rfl
  by_cases c10015 : x0 = 10015
  · have hf := it_e c10015 hf
    refine lv_tableIn (tgt := 90) hx hb d_Showman_join_1 (by rw [c10015]; decide) (by rw [c10015]; decide) (by rw [c10015]; rfl) (by decide) ?_
    refine lv_iload_n hx hb d_Showman_join_90 rfl (lv_at hl 1 rfl) ?_
    refine lv_iload_n hx hb d_Showman_join_91 rfl (lv_at hl 2 rfl) ?_
    refine lv_icmp_ne (tgt := 99) hx hb d_Showman_join_92 (by decide) (fun cd => ?_) (fun cd => ?_)
    · have hf := if_e cd hf
      refine lv_iconst (v := 0) hx hb d_Showman_join_99 (by decide) ?_
      cases some_e hf
      exact k_iret C w d_Showman_join_100
    · have hf := it_e cd hf
      refine lv_iconst (v := 1) hx hb d_Showman_join_95 (by decide) ?_
      refine lv_goto (tgt := 100) hx hb d_Showman_join_96 (by decide) ?_
      cases some_e hf
      exact k_iret C w d_Showman_join_100
  have hf := if_e c10015 hf
  have n10015 := lv_neT c10015 (a := 10015) rfl
  by_cases c10019 : x0 = 10019
  · have hf := it_e c10019 hf
    refine lv_tableIn (tgt := 113) hx hb d_Showman_join_1 (by rw [c10019]; decide) (by rw [c10019]; decide) (by rw [c10019]; rfl) (by decide) ?_
    refine lv_iload_n hx hb d_Showman_join_113 rfl (lv_at hl 2 rfl) ?_
    refine lv_if_ne (tgt := 121) hx hb d_Showman_join_114 (by decide) (fun cd => ?_) (fun cd => ?_)
    · have hf := if_e cd hf
      refine lv_iload_n hx hb d_Showman_join_121 rfl (lv_at hl 1 rfl) ?_
      refine lv_iload_n hx hb d_Showman_join_122 rfl (lv_at hl 2 rfl) ?_
      obtain ⟨r_2, h_1, hf⟩ := bp_e hf
      refine k_callS (As := [.int x1, .int x2]) (rest := []) C w (c_Math_floorDiv (q := q) h_1) cv_Math_floorDiv k819 (by decide) hl.1 rfl (Nat.le_of_ble_eq_true rfl) d_Showman_join_123 (fun H locs w => ?_)
      show WK p l e s m _ below meth c 1 g (wX g q) A (some (.int r)) σ H locs (F0 m 126 ls [.int r_2])
      cases some_e hf
      exact k_iret C w d_Showman_join_126
    · have hf := it_e cd hf
      refine lv_iconst (v := 0) hx hb d_Showman_join_117 (by decide) ?_
      refine lv_goto (tgt := 126) hx hb d_Showman_join_118 (by decide) ?_
      cases some_e hf
      exact k_iret C w d_Showman_join_126
  have hf := if_e c10019 hf
  have n10019 := lv_neT c10019 (a := 10019) rfl
  by_cases c10020 : x0 = 10020
  · have hf := it_e c10020 hf
    refine lv_tableIn (tgt := 101) hx hb d_Showman_join_1 (by rw [c10020]; decide) (by rw [c10020]; decide) (by rw [c10020]; rfl) (by decide) ?_
    refine lv_iload_n hx hb d_Showman_join_101 rfl (lv_at hl 1 rfl) ?_
    refine lv_iload_n hx hb d_Showman_join_102 rfl (lv_at hl 2 rfl) ?_
    refine r_min C hl.1 (by omega) (Nat.le_of_ble_eq_true rfl) k817 d_Showman_join_103 ?_
    cases some_e hf
    exact k_iret C w d_Showman_join_106
  have hf := if_e c10020 hf
  have n10020 := lv_neT c10020 (a := 10020) rfl
  by_cases c10021 : x0 = 10021
  · have hf := it_e c10021 hf
    refine lv_tableIn (tgt := 107) hx hb d_Showman_join_1 (by rw [c10021]; decide) (by rw [c10021]; decide) (by rw [c10021]; rfl) (by decide) ?_
    refine lv_iload_n hx hb d_Showman_join_107 rfl (lv_at hl 1 rfl) ?_
    refine lv_iload_n hx hb d_Showman_join_108 rfl (lv_at hl 2 rfl) ?_
    refine r_max C hl.1 (by omega) (Nat.le_of_ble_eq_true rfl) k818 d_Showman_join_109 ?_
    cases some_e hf
    exact k_iret C w d_Showman_join_112
  have hf := if_e c10021 hf
  have n10021 := lv_neT c10021 (a := 10021) rfl
  by_cases c10016 : x0 = 10016
  · refine lv_tableIn (tgt := 127) hx hb d_Showman_join_1 (by rw [c10016]; decide) (by rw [c10016]; decide) (by rw [c10016]; rfl) (by decide) ?_
    refine lv_iload_n hx hb d_Showman_join_127 rfl (lv_at hl 0 rfl) ?_
    refine lv_iload_n hx hb d_Showman_join_128 rfl (lv_at hl 1 rfl) ?_
    refine lv_i2l hx hb d_Showman_join_129 rfl ?_
    refine lv_iload_n hx hb d_Showman_join_130 rfl (lv_at hl 2 rfl) ?_
    refine lv_i2l hx hb d_Showman_join_131 rfl ?_
    obtain ⟨r_4, h_3, hf⟩ := bp_e hf
    refine k_callS (As := [.int x0, .long (x1).toInt64, .long (x2).toInt64]) (rest := []) C w (c_Showman_reckon (q := q) h_3) cv_Showman_reckon k822 (by decide) hl.1 rfl (Nat.le_of_ble_eq_true rfl) d_Showman_join_132 (fun H locs w => ?_)
    show WK p l e s m _ below meth c 1 g (wX g q) A (some (.int r)) σ H locs (F0 m 135 ls [.int r_4])
    cases some_e hf
    exact k_iret C w d_Showman_join_135
  have n10016 := lv_neT c10016 (a := 10016) rfl
  by_cases c10017 : x0 = 10017
  · refine lv_tableIn (tgt := 127) hx hb d_Showman_join_1 (by rw [c10017]; decide) (by rw [c10017]; decide) (by rw [c10017]; rfl) (by decide) ?_
    refine lv_iload_n hx hb d_Showman_join_127 rfl (lv_at hl 0 rfl) ?_
    refine lv_iload_n hx hb d_Showman_join_128 rfl (lv_at hl 1 rfl) ?_
    refine lv_i2l hx hb d_Showman_join_129 rfl ?_
    refine lv_iload_n hx hb d_Showman_join_130 rfl (lv_at hl 2 rfl) ?_
    refine lv_i2l hx hb d_Showman_join_131 rfl ?_
    obtain ⟨r_6, h_5, hf⟩ := bp_e hf
    refine k_callS (As := [.int x0, .long (x1).toInt64, .long (x2).toInt64]) (rest := []) C w (c_Showman_reckon (q := q) h_5) cv_Showman_reckon k822 (by decide) hl.1 rfl (Nat.le_of_ble_eq_true rfl) d_Showman_join_132 (fun H locs w => ?_)
    show WK p l e s m _ below meth c 1 g (wX g q) A (some (.int r)) σ H locs (F0 m 135 ls [.int r_6])
    cases some_e hf
    exact k_iret C w d_Showman_join_135
  have n10017 := lv_neT c10017 (a := 10017) rfl
  by_cases c10018 : x0 = 10018
  · refine lv_tableIn (tgt := 127) hx hb d_Showman_join_1 (by rw [c10018]; decide) (by rw [c10018]; decide) (by rw [c10018]; rfl) (by decide) ?_
    refine lv_iload_n hx hb d_Showman_join_127 rfl (lv_at hl 0 rfl) ?_
    refine lv_iload_n hx hb d_Showman_join_128 rfl (lv_at hl 1 rfl) ?_
    refine lv_i2l hx hb d_Showman_join_129 rfl ?_
    refine lv_iload_n hx hb d_Showman_join_130 rfl (lv_at hl 2 rfl) ?_
    refine lv_i2l hx hb d_Showman_join_131 rfl ?_
    obtain ⟨r_8, h_7, hf⟩ := bp_e hf
    refine k_callS (As := [.int x0, .long (x1).toInt64, .long (x2).toInt64]) (rest := []) C w (c_Showman_reckon (q := q) h_7) cv_Showman_reckon k822 (by decide) hl.1 rfl (Nat.le_of_ble_eq_true rfl) d_Showman_join_132 (fun H locs w => ?_)
    show WK p l e s m _ below meth c 1 g (wX g q) A (some (.int r)) σ H locs (F0 m 135 ls [.int r_8])
    cases some_e hf
    exact k_iret C w d_Showman_join_135
  have n10018 := lv_neT c10018 (a := 10018) rfl
  refine lv_tableOut (tgt := 127) hx hb d_Showman_join_1 (by omega) (by decide) ?_
  refine lv_iload_n hx hb d_Showman_join_127 rfl (lv_at hl 0 rfl) ?_
  refine lv_iload_n hx hb d_Showman_join_128 rfl (lv_at hl 1 rfl) ?_
  refine lv_i2l hx hb d_Showman_join_129 rfl ?_
  refine lv_iload_n hx hb d_Showman_join_130 rfl (lv_at hl 2 rfl) ?_
  refine lv_i2l hx hb d_Showman_join_131 rfl ?_
  obtain ⟨r_10, h_9, hf⟩ := bp_e hf
  refine k_callS (As := [.int x0, .long (x1).toInt64, .long (x2).toInt64]) (rest := []) C w (c_Showman_reckon (q := q) h_9) cv_Showman_reckon k822 (by decide) hl.1 rfl (Nat.le_of_ble_eq_true rfl) d_Showman_join_132 (fun H locs w => ?_)
  show WK p l e s m _ below meth c 1 g (wX g q) A (some (.int r)) σ H locs (F0 m 135 ls [.int r_10])
  cases some_e hf
  exact k_iret C w d_Showman_join_135
def f_Showman_valueOf (x1 : Int32) (σ : St) : Option (Int32) :=
  lt ((x1 - 10000)) fun x_1 =>
  if 0 ≤ x_1 then
    if 6 ≤ x_1 then
      some 0
    else
      gd (inB x_1 6) <|
      some (sA σ 14 x_1.toNatClampNeg)
  else
    some x1
set_option maxHeartbeats 4000000 in
set_option maxRecDepth 20000 in
theorem c_Showman_valueOf {l : Launch} {g : GX} {q : Nat → Nat} {x1 : Int32}  {σ : St} {r : Int32} (hf : f_Showman_valueOf  x1 σ = some r) : KK l y_Showman_valueOf prog_7_method_6_code 3 (some .int) 0 g (wX g q) σ [.ref (q 20), .int x1] (some (.int r)) (wX g q) σ := by
  refine KK_of (plainFor_of_name (by decide)) (Nat.le_of_ble_eq_true rfl) (fun p e s m below meth c A ls C w hl => ?_)
  have hl : lv_has ls 3 [(0, .ref (q 20)), (1, .int x1)] := hl
  obtain ⟨hx, hb, hml, hown, hts, hK, hA, hZ, hlocks, hr, hN⟩ := id C
  unfold f_Showman_valueOf at hf
  refine lv_iload_n hx hb d_Showman_valueOf_0 rfl (lv_at hl 1 rfl) ?_
  refine lv_sipush (v := 10000) hx hb d_Showman_valueOf_1 (by decide) ?_
  refine lv_isub hx hb d_Showman_valueOf_4 ?_
  refine lv_topi (fun x_1 ex_1 => ?_)
  have hf := lt_e ex_1 hf
  refine lv_istore_n (lv' := [(2, .int x_1), (0, .ref (q 20)), (1, .int x1)]) hx hb d_Showman_valueOf_5 rfl hl (by decide) rfl (fun ls hl => ?_)
  refine lv_iload_n hx hb d_Showman_valueOf_6 rfl (lv_at hl 0 rfl) ?_
  refine lv_if_ge (tgt := 12) hx hb d_Showman_valueOf_7 (by decide) (fun cd => ?_) (fun cd => ?_)
  · have hf := it_e cd hf
    refine lv_iload_n hx hb d_Showman_valueOf_12 rfl (lv_at hl 0 rfl) ?_
    refine lv_aload_n hx hb d_Showman_valueOf_13 rfl (lv_at hl 1 rfl) ?_
    refine xg_20_facts C w k389 d_Showman_valueOf_14 ?_
    refine xn_21 C w d_Showman_valueOf_17 ?_
    refine lv_icmp_ge (tgt := 30) hx hb d_Showman_valueOf_18 (by decide) (fun cd => ?_) (fun cd => ?_)
    · have hf := it_e cd hf
      refine lv_iconst (v := 0) hx hb d_Showman_valueOf_30 (by decide) ?_
      cases some_e hf
      exact k_iret C w d_Showman_valueOf_31
    · have hf := if_e cd hf
      refine lv_aload_n hx hb d_Showman_valueOf_21 rfl (lv_at hl 1 rfl) ?_
      refine xg_20_facts C w k389 d_Showman_valueOf_22 ?_
      refine lv_iload_n hx hb d_Showman_valueOf_25 rfl (lv_at hl 0 rfl) ?_
      obtain ⟨g_2, hf⟩ := gd_e hf
      refine xl_21 C w g_2 d_Showman_valueOf_26 ?_
      refine lv_goto (tgt := 31) hx hb d_Showman_valueOf_27 (by decide) ?_
      cases some_e hf
      exact k_iret C w d_Showman_valueOf_31
  · have hf := if_e cd hf
    refine lv_iload_n hx hb d_Showman_valueOf_10 rfl (lv_at hl 2 rfl) ?_
    cases some_e hf
    exact k_iret C w d_Showman_valueOf_11
def f_Showman_holds_145 (x4 : Int32) (σ : St) : Option (Int32 × St) :=
  if x4 ≤ 0 then
    some (0, σ)
  else
    gd (inB (x4 - 1) 64) <|
    if (sA σ 15 (x4 - 1).toNatClampNeg) = 0 then
      some (0, σ)
    else
      some (1, σ)
def f_Showman_holds_6b (k6 : Int32 → Int32 → Int32 → St → Option (Int32 × St)) (x3 : Int32) (x4 : Int32) (x5 : Int32) (σ : St) : Option (Int32 × St) :=
  if x3 ≤ x5 then
    f_Showman_holds_145 x4 σ
  else
    if 1600 ≤ x5 then
      f_Showman_holds_145 x4 σ
    else
      gd (inB x5 1600) <|
      lt ((sA σ 26 x5.toNatClampNeg)) fun x_2 =>
      if 10010 ≤ x_2 then
        if x_2 = 10010 then
          if x4 ≤ 0 then
            lt ((x5 + 1)) fun x_12 =>
            k6 x3 x4 x_12 σ
          else
            gd (inB (x4 - 1) 64) <|
            gd (inB (x4 - 1) 64) <|
            lt (uA σ 15 (upd (sA σ 15) (x4 - 1).toNatClampNeg (1 - (sA σ 15 (x4 - 1).toNatClampNeg)))) fun σ_15 =>
            lt ((x5 + 1)) fun x_16 =>
            k6 x3 x4 x_16 σ_15
        else
          if x4 ≤ 1 then
            lt ((x5 + 1)) fun x_3 =>
            k6 x3 x4 x_3 σ
          else
            gd (inB (x4 - 2) 64) <|
            gd (inB (x4 - 1) 64) <|
            bp (f_Showman_join x_2 (sA σ 15 (x4 - 2).toNatClampNeg) (sA σ 15 (x4 - 1).toNatClampNeg) σ) fun r_7 =>
            gd (inB (x4 - 2) 64) <|
            lt (uA σ 15 (upd (sA σ 15) (x4 - 2).toNatClampNeg r_7)) fun σ_9 =>
            lt ((x4 + (-1))) fun x_10 =>
            lt ((x5 + 1)) fun x_11 =>
            k6 x3 x_10 x_11 σ_9
      else
        if 64 ≤ x4 then
          lt ((x5 + 1)) fun x_17 =>
          k6 x3 x4 x_17 σ
        else
          bp (f_Showman_valueOf x_2 σ) fun r_19 =>
          gd (inB x4 64) <|
          lt (uA σ 15 (upd (sA σ 15) x4.toNatClampNeg r_19)) fun σ_21 =>
          lt ((x4 + 1)) fun x_22 =>
          lt ((x5 + 1)) fun x_23 =>
          k6 x3 x_22 x_23 σ_21
def f_Showman_holds_6 : Nat → Int32 → Int32 → Int32 → St → Option (Int32 × St)
  | 0 => fun _ _ _ _ => none
  | n + 1 => f_Showman_holds_6b   (f_Showman_holds_6   n)
def f_Showman_holds (x2 : Int32) (x3 : Int32) (σ : St) : Option (Int32 × St) :=
  f_Showman_holds_6 FU x3 0 x2 σ
set_option maxHeartbeats 4000000 in
set_option maxRecDepth 20000 in
theorem t_Showman_holds_145 {r : Int32} {σ2 : St} (C : Cx g A p s m av meth c prog_7_method_5_code 7 "BellHammer$Showman" (some .boolean))  {x4 : Int32} {σ : St} {H : Heap} {locs : List Loc} {ls : Array Slot} (hf : f_Showman_holds_145   x4 σ = some (r, σ2)) (w : Wd g (wX g q) A s σ H locs) (hl : lv_has ls 7 [(0, .ref (q 20)), (4, .int x4)]) : WK p l e s m av below meth c 2 g (wX g q) A (some (.int r)) σ2 H locs (F0 m 145 ls []) := by
  obtain ⟨hx, hb, hml, hown, hts, hK, hA, hZ, hlocks, hr, hN⟩ := id C
  unfold f_Showman_holds_145 at hf
  refine lv_iload hx hb d_Showman_holds_145 (lv_at hl 1 rfl) ?_
  refine lv_if_le (tgt := 166) hx hb d_Showman_holds_147 (by decide) (fun cd => ?_) (fun cd => ?_)
  · have hf := it_e cd hf
    refine lv_iconst (v := 0) hx hb d_Showman_holds_166 (by decide) ?_
    obtain ⟨rfl, rfl⟩ := some2_e hf
    exact k_zret C w (by decide) d_Showman_holds_167
  · have hf := if_e cd hf
    refine lv_aload_n hx hb d_Showman_holds_150 rfl (lv_at hl 0 rfl) ?_
    refine xg_20_stack C w k390 d_Showman_holds_151 ?_
    refine lv_iload hx hb d_Showman_holds_154 (lv_at hl 1 rfl) ?_
    refine lv_iconst (v := 1) hx hb d_Showman_holds_156 (by decide) ?_
    refine lv_isub hx hb d_Showman_holds_157 ?_
    obtain ⟨g_1, hf⟩ := gd_e hf
    refine xl_22 C w g_1 d_Showman_holds_158 ?_
    refine lv_if_eq (tgt := 166) hx hb d_Showman_holds_159 (by decide) (fun cd => ?_) (fun cd => ?_)
    · have hf := it_e cd hf
      refine lv_iconst (v := 0) hx hb d_Showman_holds_166 (by decide) ?_
      obtain ⟨rfl, rfl⟩ := some2_e hf
      exact k_zret C w (by decide) d_Showman_holds_167
    · have hf := if_e cd hf
      refine lv_iconst (v := 1) hx hb d_Showman_holds_162 (by decide) ?_
      refine lv_goto (tgt := 167) hx hb d_Showman_holds_163 (by decide) ?_
      obtain ⟨rfl, rfl⟩ := some2_e hf
      exact k_zret C w (by decide) d_Showman_holds_167
set_option maxHeartbeats 4000000 in
set_option maxRecDepth 20000 in
theorem t_Showman_holds_6b {r : Int32} {σ2 : St} (C : Cx g A p s m av meth c prog_7_method_5_code 7 "BellHammer$Showman" (some .boolean)) {k6 : Int32 → Int32 → Int32 → St → Option (Int32 × St)} (hk6 : ∀ (x3 : Int32) (x4 : Int32) (x5 : Int32) (σ : St) (H : Heap) (locs : List Loc) (ls : Array Slot), k6 x3 x4 x5 σ = some (r, σ2) → Wd g (wX g q) A s σ H locs → lv_has ls 7 [(0, .ref (q 20)), (1, .ref (q 40)), (3, .int x3), (4, .int x4), (5, .int x5)] → WK p l e s m av below meth c 2 g (wX g q) A (some (.int r)) σ2 H locs (F0 m 6 ls []))  {x3 : Int32} {x4 : Int32} {x5 : Int32} {σ : St} {H : Heap} {locs : List Loc} {ls : Array Slot} (hf : f_Showman_holds_6b  k6 x3 x4 x5 σ = some (r, σ2)) (w : Wd g (wX g q) A s σ H locs) (hl : lv_has ls 7 [(0, .ref (q 20)), (1, .ref (q 40)), (3, .int x3), (4, .int x4), (5, .int x5)]) : WK p l e s m av below meth c 2 g (wX g q) A (some (.int r)) σ2 H locs (F0 m 6 ls []) := by
  obtain ⟨hx, hb, hml, hown, hts, hK, hA, hZ, hlocks, hr, hN⟩ := id C
  unfold f_Showman_holds_6b at hf
  refine lv_iload hx hb d_Showman_holds_6 (lv_at hl 4 rfl) ?_
  refine lv_iload_n hx hb d_Showman_holds_8 rfl (lv_at hl 2 rfl) ?_
  refine lv_icmp_ge (tgt := 145) hx hb d_Showman_holds_9 (by decide) (fun cd => ?_) (fun cd => ?_)
  · have hf := it_e cd hf
    exact t_Showman_holds_145 C  hf w (lv_sub hl [0, 3] rfl)
  · have hf := if_e cd hf
    refine lv_iload hx hb d_Showman_holds_12 (lv_at hl 4 rfl) ?_
    refine lv_aload_n hx hb d_Showman_holds_14 rfl (lv_at hl 1 rfl) ?_
    refine xn_40 C w d_Showman_holds_15 ?_
    refine lv_icmp_ge (tgt := 145) hx hb d_Showman_holds_16 (by decide) (fun cd => ?_) (fun cd => ?_)
    · have hf := it_e cd hf
      exact t_Showman_holds_145 C  hf w (lv_sub hl [0, 3] rfl)
    · have hf := if_e cd hf
      refine lv_aload_n hx hb d_Showman_holds_19 rfl (lv_at hl 1 rfl) ?_
      refine lv_iload hx hb d_Showman_holds_20 (lv_at hl 4 rfl) ?_
      obtain ⟨g_1, hf⟩ := gd_e hf
      refine xl_40 C w g_1 d_Showman_holds_22 ?_
      refine lv_topi (fun x_2 ex_2 => ?_)
      have hf := lt_e ex_2 hf
      refine lv_istore (lv' := [(6, .int x_2), (0, .ref (q 20)), (1, .ref (q 40)), (3, .int x3), (4, .int x4), (5, .int x5)]) hx hb d_Showman_holds_23 hl (by decide) rfl (fun ls hl => ?_)
      refine lv_iload hx hb d_Showman_holds_25 (lv_at hl 0 rfl) ?_
      refine lv_sipush (v := 10010) hx hb d_Showman_holds_27 (by decide) ?_
      refine lv_icmp_ge (tgt := 62) hx hb d_Showman_holds_30 (by decide) (fun cd => ?_) (fun cd => ?_)
      · have hf := it_e cd hf
        refine lv_iload hx hb d_Showman_holds_62 (lv_at hl 0 rfl) ?_
        refine lv_sipush (v := 10010) hx hb d_Showman_holds_64 (by decide) ?_
        refine lv_icmp_ne (tgt := 98) hx hb d_Showman_holds_67 (by decide) (fun cd => ?_) (fun cd => ?_)
        · have hf := if_e cd hf
          refine lv_iload hx hb d_Showman_holds_98 (lv_at hl 4 rfl) ?_
          refine lv_iconst (v := 1) hx hb d_Showman_holds_100 (by decide) ?_
          refine lv_icmp_le (tgt := 139) hx hb d_Showman_holds_101 (by decide) (fun cd => ?_) (fun cd => ?_)
          · have hf := it_e cd hf
            obtain ⟨x_3, ex_3⟩ : ∃ y : Int32, y = (x5 + 1) := ⟨_, rfl⟩
            have hf := lt_e ex_3 hf
            refine lv_iinc (v := x_3) (lv' := [(5, .int x_3), (6, .int x_2), (0, .ref (q 20)), (1, .ref (q 40)), (3, .int x3), (4, .int x4)]) hx hb d_Showman_holds_139 hl (k := 5) rfl (by rw [ex_3]; rfl) (by decide) rfl (fun ls hl => ?_)
            refine lv_goto (tgt := 6) hx hb d_Showman_holds_142 (by decide) ?_
            exact hk6 x3 x4 x_3 σ _ _ _ hf w (lv_sub hl [2, 3, 4, 5, 0] rfl)
          · have hf := if_e cd hf
            refine lv_aload_n hx hb d_Showman_holds_104 rfl (lv_at hl 1 rfl) ?_
            refine xg_20_stack C w k390 d_Showman_holds_105 ?_
            refine lv_iload hx hb d_Showman_holds_108 (lv_at hl 4 rfl) ?_
            refine lv_iconst (v := 2) hx hb d_Showman_holds_110 (by decide) ?_
            refine lv_isub hx hb d_Showman_holds_111 ?_
            refine lv_iload hx hb d_Showman_holds_112 (lv_at hl 0 rfl) ?_
            refine lv_aload_n hx hb d_Showman_holds_114 rfl (lv_at hl 1 rfl) ?_
            refine xg_20_stack C w k390 d_Showman_holds_115 ?_
            refine lv_iload hx hb d_Showman_holds_118 (lv_at hl 4 rfl) ?_
            refine lv_iconst (v := 2) hx hb d_Showman_holds_120 (by decide) ?_
            refine lv_isub hx hb d_Showman_holds_121 ?_
            obtain ⟨g_4, hf⟩ := gd_e hf
            refine xl_22 C w g_4 d_Showman_holds_122 ?_
            refine lv_aload_n hx hb d_Showman_holds_123 rfl (lv_at hl 1 rfl) ?_
            refine xg_20_stack C w k390 d_Showman_holds_124 ?_
            refine lv_iload hx hb d_Showman_holds_127 (lv_at hl 4 rfl) ?_
            refine lv_iconst (v := 1) hx hb d_Showman_holds_129 (by decide) ?_
            refine lv_isub hx hb d_Showman_holds_130 ?_
            obtain ⟨g_5, hf⟩ := gd_e hf
            refine xl_22 C w g_5 d_Showman_holds_131 ?_
            obtain ⟨r_7, h_6, hf⟩ := bp_e hf
            refine k_callS (As := [.int x_2, .int (sA σ 15 (x4 - 2).toNatClampNeg), .int (sA σ 15 (x4 - 1).toNatClampNeg)]) (rest := [.int (x4 - 2), .ref (q 22)]) C w (c_Showman_join (q := q) h_6) cv_Showman_join k814 (by decide) hl.1 rfl (Nat.le_of_ble_eq_true rfl) d_Showman_holds_132 (fun H locs w => ?_)
            show WK p l e s m av below meth c 2 g (wX g q) A (some (.int r)) σ2 H locs (F0 m 135 ls [.int r_7, .int (x4 - 2), .ref (q 22)])
            obtain ⟨g_8, hf⟩ := gd_e hf
            refine xs_22 C w g_8 d_Showman_holds_135 (fun σ_9 H locs eσ_9 w => ?_)
            have hf := lt_e eσ_9 hf
            obtain ⟨x_10, ex_10⟩ : ∃ y : Int32, y = (x4 + (-1)) := ⟨_, rfl⟩
            have hf := lt_e ex_10 hf
            refine lv_iinc (v := x_10) (lv' := [(4, .int x_10), (6, .int x_2), (0, .ref (q 20)), (1, .ref (q 40)), (3, .int x3), (5, .int x5)]) hx hb d_Showman_holds_136 hl (k := 4) rfl (by rw [ex_10]; rfl) (by decide) rfl (fun ls hl => ?_)
            obtain ⟨x_11, ex_11⟩ : ∃ y : Int32, y = (x5 + 1) := ⟨_, rfl⟩
            have hf := lt_e ex_11 hf
            refine lv_iinc (v := x_11) (lv' := [(5, .int x_11), (4, .int x_10), (6, .int x_2), (0, .ref (q 20)), (1, .ref (q 40)), (3, .int x3)]) hx hb d_Showman_holds_139 hl (k := 5) rfl (by rw [ex_11]; rfl) (by decide) rfl (fun ls hl => ?_)
            refine lv_goto (tgt := 6) hx hb d_Showman_holds_142 (by decide) ?_
            exact hk6 x3 x_10 x_11 σ_9 _ _ _ hf w (lv_sub hl [3, 4, 5, 1, 0] rfl)
        · have hf := it_e cd hf
          refine lv_iload hx hb d_Showman_holds_70 (lv_at hl 4 rfl) ?_
          refine lv_if_le (tgt := 139) hx hb d_Showman_holds_72 (by decide) (fun cd => ?_) (fun cd => ?_)
          · have hf := it_e cd hf
            obtain ⟨x_12, ex_12⟩ : ∃ y : Int32, y = (x5 + 1) := ⟨_, rfl⟩
            have hf := lt_e ex_12 hf
            refine lv_iinc (v := x_12) (lv' := [(5, .int x_12), (6, .int x_2), (0, .ref (q 20)), (1, .ref (q 40)), (3, .int x3), (4, .int x4)]) hx hb d_Showman_holds_139 hl (k := 5) rfl (by rw [ex_12]; rfl) (by decide) rfl (fun ls hl => ?_)
            refine lv_goto (tgt := 6) hx hb d_Showman_holds_142 (by decide) ?_
            exact hk6 x3 x4 x_12 σ _ _ _ hf w (lv_sub hl [2, 3, 4, 5, 0] rfl)
          · have hf := if_e cd hf
            refine lv_aload_n hx hb d_Showman_holds_75 rfl (lv_at hl 1 rfl) ?_
            refine xg_20_stack C w k390 d_Showman_holds_76 ?_
            refine lv_iload hx hb d_Showman_holds_79 (lv_at hl 4 rfl) ?_
            refine lv_iconst (v := 1) hx hb d_Showman_holds_81 (by decide) ?_
            refine lv_isub hx hb d_Showman_holds_82 ?_
            refine lv_iconst (v := 1) hx hb d_Showman_holds_83 (by decide) ?_
            refine lv_aload_n hx hb d_Showman_holds_84 rfl (lv_at hl 1 rfl) ?_
            refine xg_20_stack C w k390 d_Showman_holds_85 ?_
            refine lv_iload hx hb d_Showman_holds_88 (lv_at hl 4 rfl) ?_
            refine lv_iconst (v := 1) hx hb d_Showman_holds_90 (by decide) ?_
            refine lv_isub hx hb d_Showman_holds_91 ?_
            obtain ⟨g_13, hf⟩ := gd_e hf
            refine xl_22 C w g_13 d_Showman_holds_92 ?_
            refine lv_isub hx hb d_Showman_holds_93 ?_
            obtain ⟨g_14, hf⟩ := gd_e hf
            refine xs_22 C w g_14 d_Showman_holds_94 (fun σ_15 H locs eσ_15 w => ?_)
            have hf := lt_e eσ_15 hf
            refine lv_goto (tgt := 139) hx hb d_Showman_holds_95 (by decide) ?_
            obtain ⟨x_16, ex_16⟩ : ∃ y : Int32, y = (x5 + 1) := ⟨_, rfl⟩
            have hf := lt_e ex_16 hf
            refine lv_iinc (v := x_16) (lv' := [(5, .int x_16), (6, .int x_2), (0, .ref (q 20)), (1, .ref (q 40)), (3, .int x3), (4, .int x4)]) hx hb d_Showman_holds_139 hl (k := 5) rfl (by rw [ex_16]; rfl) (by decide) rfl (fun ls hl => ?_)
            refine lv_goto (tgt := 6) hx hb d_Showman_holds_142 (by decide) ?_
            exact hk6 x3 x4 x_16 σ_15 _ _ _ hf w (lv_sub hl [2, 3, 4, 5, 0] rfl)
      · have hf := if_e cd hf
        refine lv_iload hx hb d_Showman_holds_33 (lv_at hl 4 rfl) ?_
        refine lv_aload_n hx hb d_Showman_holds_35 rfl (lv_at hl 1 rfl) ?_
        refine xg_20_stack C w k390 d_Showman_holds_36 ?_
        refine xn_22 C w d_Showman_holds_39 ?_
        refine lv_icmp_ge (tgt := 139) hx hb d_Showman_holds_40 (by decide) (fun cd => ?_) (fun cd => ?_)
        · have hf := it_e cd hf
          obtain ⟨x_17, ex_17⟩ : ∃ y : Int32, y = (x5 + 1) := ⟨_, rfl⟩
          have hf := lt_e ex_17 hf
          refine lv_iinc (v := x_17) (lv' := [(5, .int x_17), (6, .int x_2), (0, .ref (q 20)), (1, .ref (q 40)), (3, .int x3), (4, .int x4)]) hx hb d_Showman_holds_139 hl (k := 5) rfl (by rw [ex_17]; rfl) (by decide) rfl (fun ls hl => ?_)
          refine lv_goto (tgt := 6) hx hb d_Showman_holds_142 (by decide) ?_
          exact hk6 x3 x4 x_17 σ _ _ _ hf w (lv_sub hl [2, 3, 4, 5, 0] rfl)
        · have hf := if_e cd hf
          refine lv_aload_n hx hb d_Showman_holds_43 rfl (lv_at hl 1 rfl) ?_
          refine xg_20_stack C w k390 d_Showman_holds_44 ?_
          refine lv_iload hx hb d_Showman_holds_47 (lv_at hl 4 rfl) ?_
          refine lv_aload_n hx hb d_Showman_holds_49 rfl (lv_at hl 1 rfl) ?_
          refine lv_iload hx hb d_Showman_holds_50 (lv_at hl 0 rfl) ?_
          obtain ⟨r_19, h_18, hf⟩ := bp_e hf
          refine k_callV (As := [.int x_2]) (rest := [.int x4, .ref (q 22)]) C w (c_Showman_valueOf (q := q) h_18) cv_Showman_valueOf k810 (xr_20 C w) (by decide) hl.1 rfl (Nat.le_of_ble_eq_true rfl) d_Showman_holds_52 (fun H locs w => ?_)
          show WK p l e s m av below meth c 2 g (wX g q) A (some (.int r)) σ2 H locs (F0 m 55 ls [.int r_19, .int x4, .ref (q 22)])
          obtain ⟨g_20, hf⟩ := gd_e hf
          refine xs_22 C w g_20 d_Showman_holds_55 (fun σ_21 H locs eσ_21 w => ?_)
          have hf := lt_e eσ_21 hf
          obtain ⟨x_22, ex_22⟩ : ∃ y : Int32, y = (x4 + 1) := ⟨_, rfl⟩
          have hf := lt_e ex_22 hf
          refine lv_iinc (v := x_22) (lv' := [(4, .int x_22), (6, .int x_2), (0, .ref (q 20)), (1, .ref (q 40)), (3, .int x3), (5, .int x5)]) hx hb d_Showman_holds_56 hl (k := 4) rfl (by rw [ex_22]; rfl) (by decide) rfl (fun ls hl => ?_)
          refine lv_goto (tgt := 139) hx hb d_Showman_holds_59 (by decide) ?_
          obtain ⟨x_23, ex_23⟩ : ∃ y : Int32, y = (x5 + 1) := ⟨_, rfl⟩
          have hf := lt_e ex_23 hf
          refine lv_iinc (v := x_23) (lv' := [(5, .int x_23), (4, .int x_22), (6, .int x_2), (0, .ref (q 20)), (1, .ref (q 40)), (3, .int x3)]) hx hb d_Showman_holds_139 hl (k := 5) rfl (by rw [ex_23]; rfl) (by decide) rfl (fun ls hl => ?_)
          refine lv_goto (tgt := 6) hx hb d_Showman_holds_142 (by decide) ?_
          exact hk6 x3 x_22 x_23 σ_21 _ _ _ hf w (lv_sub hl [3, 4, 5, 1, 0] rfl)
set_option maxHeartbeats 4000000 in
set_option maxRecDepth 20000 in
theorem t_Showman_holds_6 {r : Int32} {σ2 : St} (C : Cx g A p s m av meth c prog_7_method_5_code 7 "BellHammer$Showman" (some .boolean))  : ∀ (n : Nat) (x3 : Int32) (x4 : Int32) (x5 : Int32) (σ : St) (H : Heap) (locs : List Loc) (ls : Array Slot), f_Showman_holds_6   n x3 x4 x5 σ = some (r, σ2) → Wd g (wX g q) A s σ H locs → lv_has ls 7 [(0, .ref (q 20)), (1, .ref (q 40)), (3, .int x3), (4, .int x4), (5, .int x5)] → WK p l e s m av below meth c 2 g (wX g q) A (some (.int r)) σ2 H locs (F0 m 6 ls []) := by
  intro n
  induction n with
  | zero => intro x3 x4 x5 σ H locs ls hf; exact absurd hf (by intro z; cases z)
  | succ n ih => intro x3 x4 x5 σ H locs ls hf w hl; exact t_Showman_holds_6b C  ih hf w hl
set_option maxHeartbeats 4000000 in
set_option maxRecDepth 20000 in
theorem c_Showman_holds {l : Launch} {g : GX} {q : Nat → Nat} {x2 : Int32} {x3 : Int32}  {σ : St} {r : Int32} {σ2 : St} (hf : f_Showman_holds  x2 x3 σ = some (r, σ2)) : KK l y_Showman_holds prog_7_method_5_code 7 (some .boolean) 2 g (wX g q) σ [.ref (q 20), .ref (q 40), .int x2, .int x3] (some (.int r)) (wX g q) σ2 := by
  refine KK_of (plainFor_of_name (by decide)) (Nat.le_of_ble_eq_true rfl) (fun p e s m below meth c A ls C w hl => ?_)
  have hl : lv_has ls 7 [(0, .ref (q 20)), (1, .ref (q 40)), (2, .int x2), (3, .int x3)] := hl
  obtain ⟨hx, hb, hml, hown, hts, hK, hA, hZ, hlocks, hr, hN⟩ := id C
  unfold f_Showman_holds at hf
  refine lv_iconst (v := 0) hx hb d_Showman_holds_0 (by decide) ?_
  refine lv_istore (lv' := [(4, .int 0), (0, .ref (q 20)), (1, .ref (q 40)), (2, .int x2), (3, .int x3)]) hx hb d_Showman_holds_1 hl (by decide) rfl (fun ls hl => ?_)
  refine lv_iload_n hx hb d_Showman_holds_3 rfl (lv_at hl 3 rfl) ?_
  refine lv_istore (lv' := [(5, .int x2), (4, .int 0), (0, .ref (q 20)), (1, .ref (q 40)), (2, .int x2), (3, .int x3)]) hx hb d_Showman_holds_4 hl (by decide) rfl (fun ls hl => ?_)
  exact t_Showman_holds_6 C  FU x3 0 x2 σ _ _ _ hf w (lv_sub hl [2, 3, 5, 1, 0] rfl)
def f_Showman_rulesThatHold_42 (k7 : Int32 → Int32 → Int32 → St → Option (Int32 × St)) (x2 : Int32) (x4 : Int32) (σ : St) : Option (Int32 × St) :=
  gd (inB x4 6) <|
  lt ((sA σ 27 x4.toNatClampNeg)) fun x_2 =>
  lt ((x4 + 1)) fun x_3 =>
  k7 x2 x_2 x_3 σ
def f_Showman_rulesThatHold_7b (k7 : Int32 → Int32 → Int32 → St → Option (Int32 × St)) (x2 : Int32) (x3 : Int32) (x4 : Int32) (σ : St) : Option (Int32 × St) :=
  if (sI σ 55) ≤ x4 then
    some (x2, σ)
  else
    gd (inB x4 6) <|
    bd (f_Showman_holds x3 (sA σ 27 x4.toNatClampNeg) σ) fun r_3 σ_4 =>
    if r_3 = 0 then
      f_Showman_rulesThatHold_42 k7 x2 x4 σ_4
    else
      lt ((x2 ||| (1 <<< (x4 &&& 31)))) fun x_5 =>
      f_Showman_rulesThatHold_42 k7 x_5 x4 σ_4
def f_Showman_rulesThatHold_7 : Nat → Int32 → Int32 → Int32 → St → Option (Int32 × St)
  | 0 => fun _ _ _ _ => none
  | n + 1 => f_Showman_rulesThatHold_7b   (f_Showman_rulesThatHold_7   n)
def f_Showman_rulesThatHold (σ : St) : Option (Int32 × St) :=
  f_Showman_rulesThatHold_7 FU 0 0 0 σ
set_option maxHeartbeats 4000000 in
set_option maxRecDepth 20000 in
theorem t_Showman_rulesThatHold_42 {r : Int32} {σ2 : St} (C : Cx g A p s m av meth c prog_7_method_4_code 5 "BellHammer$Showman" (some .int)) {k7 : Int32 → Int32 → Int32 → St → Option (Int32 × St)} (hk7 : ∀ (x2 : Int32) (x3 : Int32) (x4 : Int32) (σ : St) (H : Heap) (locs : List Loc) (ls : Array Slot), k7 x2 x3 x4 σ = some (r, σ2) → Wd g (wX g q) A s σ H locs → lv_has ls 5 [(0, .ref (q 20)), (1, .ref (q 34)), (2, .int x2), (3, .int x3), (4, .int x4)] → WK p l e s m av below meth c 3 g (wX g q) A (some (.int r)) σ2 H locs (F0 m 7 ls []))  {x2 : Int32} {x4 : Int32} {σ : St} {H : Heap} {locs : List Loc} {ls : Array Slot} (hf : f_Showman_rulesThatHold_42  k7 x2 x4 σ = some (r, σ2)) (w : Wd g (wX g q) A s σ H locs) (hl : lv_has ls 5 [(0, .ref (q 20)), (1, .ref (q 34)), (2, .int x2), (4, .int x4)]) : WK p l e s m av below meth c 3 g (wX g q) A (some (.int r)) σ2 H locs (F0 m 42 ls []) := by
  obtain ⟨hx, hb, hml, hown, hts, hK, hA, hZ, hlocks, hr, hN⟩ := id C
  unfold f_Showman_rulesThatHold_42 at hf
  refine lv_aload_n hx hb d_Showman_rulesThatHold_42 rfl (lv_at hl 1 rfl) ?_
  refine xg_34_ruleEnd C w k266 d_Showman_rulesThatHold_43 ?_
  refine lv_iload hx hb d_Showman_rulesThatHold_46 (lv_at hl 3 rfl) ?_
  obtain ⟨g_1, hf⟩ := gd_e hf
  refine xl_41 C w g_1 d_Showman_rulesThatHold_48 ?_
  refine lv_topi (fun x_2 ex_2 => ?_)
  have hf := lt_e ex_2 hf
  refine lv_istore_n (lv' := [(3, .int x_2), (0, .ref (q 20)), (1, .ref (q 34)), (2, .int x2), (4, .int x4)]) hx hb d_Showman_rulesThatHold_49 rfl hl (by decide) rfl (fun ls hl => ?_)
  obtain ⟨x_3, ex_3⟩ : ∃ y : Int32, y = (x4 + 1) := ⟨_, rfl⟩
  have hf := lt_e ex_3 hf
  refine lv_iinc (v := x_3) (lv' := [(4, .int x_3), (3, .int x_2), (0, .ref (q 20)), (1, .ref (q 34)), (2, .int x2)]) hx hb d_Showman_rulesThatHold_50 hl (k := 4) rfl (by rw [ex_3]; rfl) (by decide) rfl (fun ls hl => ?_)
  refine lv_goto (tgt := 7) hx hb d_Showman_rulesThatHold_53 (by decide) ?_
  exact hk7 x2 x_2 x_3 σ _ _ _ hf w (lv_sub hl [2, 3, 4, 1, 0] rfl)
set_option maxHeartbeats 4000000 in
set_option maxRecDepth 20000 in
theorem t_Showman_rulesThatHold_7b {r : Int32} {σ2 : St} (C : Cx g A p s m av meth c prog_7_method_4_code 5 "BellHammer$Showman" (some .int)) {k7 : Int32 → Int32 → Int32 → St → Option (Int32 × St)} (hk7 : ∀ (x2 : Int32) (x3 : Int32) (x4 : Int32) (σ : St) (H : Heap) (locs : List Loc) (ls : Array Slot), k7 x2 x3 x4 σ = some (r, σ2) → Wd g (wX g q) A s σ H locs → lv_has ls 5 [(0, .ref (q 20)), (1, .ref (q 34)), (2, .int x2), (3, .int x3), (4, .int x4)] → WK p l e s m av below meth c 3 g (wX g q) A (some (.int r)) σ2 H locs (F0 m 7 ls []))  {x2 : Int32} {x3 : Int32} {x4 : Int32} {σ : St} {H : Heap} {locs : List Loc} {ls : Array Slot} (hf : f_Showman_rulesThatHold_7b  k7 x2 x3 x4 σ = some (r, σ2)) (w : Wd g (wX g q) A s σ H locs) (hl : lv_has ls 5 [(0, .ref (q 20)), (1, .ref (q 34)), (2, .int x2), (3, .int x3), (4, .int x4)]) : WK p l e s m av below meth c 3 g (wX g q) A (some (.int r)) σ2 H locs (F0 m 7 ls []) := by
  obtain ⟨hx, hb, hml, hown, hts, hK, hA, hZ, hlocks, hr, hN⟩ := id C
  unfold f_Showman_rulesThatHold_7b at hf
  refine lv_iload hx hb d_Showman_rulesThatHold_7 (lv_at hl 4 rfl) ?_
  refine lv_aload_n hx hb d_Showman_rulesThatHold_9 rfl (lv_at hl 1 rfl) ?_
  refine xg_34_rules C w k279 d_Showman_rulesThatHold_10 ?_
  refine lv_icmp_ge (tgt := 56) hx hb d_Showman_rulesThatHold_13 (by decide) (fun cd => ?_) (fun cd => ?_)
  · have hf := it_e cd hf
    refine lv_iload_n hx hb d_Showman_rulesThatHold_56 rfl (lv_at hl 2 rfl) ?_
    obtain ⟨rfl, rfl⟩ := some2_e hf
    exact k_iret C w d_Showman_rulesThatHold_57
  · have hf := if_e cd hf
    refine lv_aload_n hx hb d_Showman_rulesThatHold_16 rfl (lv_at hl 0 rfl) ?_
    refine lv_aload_n hx hb d_Showman_rulesThatHold_17 rfl (lv_at hl 1 rfl) ?_
    refine xg_34_code C w k264 d_Showman_rulesThatHold_18 ?_
    refine lv_iload_n hx hb d_Showman_rulesThatHold_21 rfl (lv_at hl 3 rfl) ?_
    refine lv_aload_n hx hb d_Showman_rulesThatHold_22 rfl (lv_at hl 1 rfl) ?_
    refine xg_34_ruleEnd C w k266 d_Showman_rulesThatHold_23 ?_
    refine lv_iload hx hb d_Showman_rulesThatHold_26 (lv_at hl 4 rfl) ?_
    obtain ⟨g_1, hf⟩ := gd_e hf
    refine xl_41 C w g_1 d_Showman_rulesThatHold_28 ?_
    obtain ⟨r_3, σ_4, h_2, hf⟩ := bd_e hf
    refine k_callV (As := [.ref (q 40), .int x3, .int (sA σ 27 x4.toNatClampNeg)]) (rest := []) C w (c_Showman_holds (q := q) h_2) cv_Showman_holds k806 (xr_20 C w) (by decide) hl.1 rfl (Nat.le_of_ble_eq_true rfl) d_Showman_rulesThatHold_29 (fun H locs w => ?_)
    show WK p l e s m av below meth c 3 g (wX g q) A (some (.int r)) σ2 H locs (F0 m 32 ls [.int r_3])
    refine lv_if_eq (tgt := 42) hx hb d_Showman_rulesThatHold_32 (by decide) (fun cd => ?_) (fun cd => ?_)
    · have hf := it_e cd hf
      exact t_Showman_rulesThatHold_42 C hk7 hf w (lv_sub hl [0, 1, 2, 4] rfl)
    · have hf := if_e cd hf
      refine lv_iload_n hx hb d_Showman_rulesThatHold_35 rfl (lv_at hl 2 rfl) ?_
      refine lv_iconst (v := 1) hx hb d_Showman_rulesThatHold_36 (by decide) ?_
      refine lv_iload hx hb d_Showman_rulesThatHold_37 (lv_at hl 4 rfl) ?_
      refine lv_ishl hx hb d_Showman_rulesThatHold_39 ?_
      refine lv_ior hx hb d_Showman_rulesThatHold_40 ?_
      refine lv_topi (fun x_5 ex_5 => ?_)
      have hf := lt_e ex_5 hf
      refine lv_istore_n (lv' := [(2, .int x_5), (0, .ref (q 20)), (1, .ref (q 34)), (3, .int x3), (4, .int x4)]) hx hb d_Showman_rulesThatHold_41 rfl hl (by decide) rfl (fun ls hl => ?_)
      exact t_Showman_rulesThatHold_42 C hk7 hf w (lv_sub hl [1, 2, 0, 4] rfl)
set_option maxHeartbeats 4000000 in
set_option maxRecDepth 20000 in
theorem t_Showman_rulesThatHold_7 {r : Int32} {σ2 : St} (C : Cx g A p s m av meth c prog_7_method_4_code 5 "BellHammer$Showman" (some .int))  : ∀ (n : Nat) (x2 : Int32) (x3 : Int32) (x4 : Int32) (σ : St) (H : Heap) (locs : List Loc) (ls : Array Slot), f_Showman_rulesThatHold_7   n x2 x3 x4 σ = some (r, σ2) → Wd g (wX g q) A s σ H locs → lv_has ls 5 [(0, .ref (q 20)), (1, .ref (q 34)), (2, .int x2), (3, .int x3), (4, .int x4)] → WK p l e s m av below meth c 3 g (wX g q) A (some (.int r)) σ2 H locs (F0 m 7 ls []) := by
  intro n
  induction n with
  | zero => intro x2 x3 x4 σ H locs ls hf; exact absurd hf (by intro z; cases z)
  | succ n ih => intro x2 x3 x4 σ H locs ls hf w hl; exact t_Showman_rulesThatHold_7b C  ih hf w hl
set_option maxHeartbeats 4000000 in
set_option maxRecDepth 20000 in
theorem c_Showman_rulesThatHold {l : Launch} {g : GX} {q : Nat → Nat}  {σ : St} {r : Int32} {σ2 : St} (hf : f_Showman_rulesThatHold   σ = some (r, σ2)) : KK l y_Showman_rulesThatHold prog_7_method_4_code 5 (some .int) 3 g (wX g q) σ [.ref (q 20), .ref (q 34)] (some (.int r)) (wX g q) σ2 := by
  refine KK_of (plainFor_of_name (by decide)) (Nat.le_of_ble_eq_true rfl) (fun p e s m below meth c A ls C w hl => ?_)
  have hl : lv_has ls 5 [(0, .ref (q 20)), (1, .ref (q 34))] := hl
  obtain ⟨hx, hb, hml, hown, hts, hK, hA, hZ, hlocks, hr, hN⟩ := id C
  unfold f_Showman_rulesThatHold at hf
  refine lv_iconst (v := 0) hx hb d_Showman_rulesThatHold_0 (by decide) ?_
  refine lv_istore_n (lv' := [(2, .int 0), (0, .ref (q 20)), (1, .ref (q 34))]) hx hb d_Showman_rulesThatHold_1 rfl hl (by decide) rfl (fun ls hl => ?_)
  refine lv_iconst (v := 0) hx hb d_Showman_rulesThatHold_2 (by decide) ?_
  refine lv_istore_n (lv' := [(3, .int 0), (2, .int 0), (0, .ref (q 20)), (1, .ref (q 34))]) hx hb d_Showman_rulesThatHold_3 rfl hl (by decide) rfl (fun ls hl => ?_)
  refine lv_iconst (v := 0) hx hb d_Showman_rulesThatHold_4 (by decide) ?_
  refine lv_istore (lv' := [(4, .int 0), (3, .int 0), (2, .int 0), (0, .ref (q 20)), (1, .ref (q 34))]) hx hb d_Showman_rulesThatHold_5 hl (by decide) rfl (fun ls hl => ?_)
  exact t_Showman_rulesThatHold_7 C  FU 0 0 0 σ _ _ _ hf w (lv_sub hl [3, 4, 2, 1, 0] rfl)
