variable {p : Program} {l : Launch} {e : Env} {s : State} {m : MethodId} {av : Array Value} {below : List Frame} {meth : Method} {c : Code} {g : GX} {q : Nat → Nat} {A : Nat → Prop}
theorem d_M_feed_0 : decode prog_13_method_3_code 0 = .ok (.aload_n 0, 1) := by decide +kernel
theorem d_M_feed_1 : decode prog_13_method_3_code 1 = .ok (.getfield 155, 3) := by decide +kernel
theorem d_M_feed_4 : decode prog_13_method_3_code 4 = .ok (.bipush 20, 2) := by decide +kernel
theorem d_M_feed_6 : decode prog_13_method_3_code 6 = .ok (.iadd, 1) := by decide +kernel
theorem d_M_feed_7 : decode prog_13_method_3_code 7 = .ok (.sipush 1600, 3) := by decide +kernel
theorem d_M_feed_10 : decode prog_13_method_3_code 10 = .ok (.if_icmp .le 15, 3) := by decide +kernel
theorem d_M_feed_13 : decode prog_13_method_3_code 13 = .ok (.aload_n 0, 1) := by decide +kernel
theorem d_M_feed_14 : decode prog_13_method_3_code 14 = .ok (.getfield 17, 3) := by decide +kernel
theorem d_M_feed_17 : decode prog_13_method_3_code 17 = .ok (.iconst 0, 1) := by decide +kernel
theorem d_M_feed_18 : decode prog_13_method_3_code 18 = .ok (.dup2, 1) := by decide +kernel
theorem d_M_feed_19 : decode prog_13_method_3_code 19 = .ok (.iaload, 1) := by decide +kernel
theorem d_M_feed_20 : decode prog_13_method_3_code 20 = .ok (.iconst 1, 1) := by decide +kernel
theorem d_M_feed_21 : decode prog_13_method_3_code 21 = .ok (.iadd, 1) := by decide +kernel
theorem d_M_feed_22 : decode prog_13_method_3_code 22 = .ok (.iastore, 1) := by decide +kernel
theorem d_M_feed_23 : decode prog_13_method_3_code 23 = .ok (.iconst (-1), 1) := by decide +kernel
theorem d_M_feed_24 : decode prog_13_method_3_code 24 = .ok (.ireturn, 1) := by decide +kernel
theorem d_M_feed_25 : decode prog_13_method_3_code 25 = .ok (.iconst 0, 1) := by decide +kernel
theorem d_M_feed_26 : decode prog_13_method_3_code 26 = .ok (.istore 6, 2) := by decide +kernel
theorem d_M_feed_28 : decode prog_13_method_3_code 28 = .ok (.iload 6, 2) := by decide +kernel
theorem d_M_feed_30 : decode prog_13_method_3_code 30 = .ok (.bipush 20, 2) := by decide +kernel
theorem d_M_feed_32 : decode prog_13_method_3_code 32 = .ok (.if_icmp .ge 92, 3) := by decide +kernel
theorem d_M_feed_35 : decode prog_13_method_3_code 35 = .ok (.iload 6, 2) := by decide +kernel
theorem d_M_feed_37 : decode prog_13_method_3_code 37 = .ok (.iconst 4, 1) := by decide +kernel
theorem d_M_feed_38 : decode prog_13_method_3_code 38 = .ok (.if_icmp .ge 7, 3) := by decide +kernel
theorem d_M_feed_41 : decode prog_13_method_3_code 41 = .ok (.iload_n 1, 1) := by decide +kernel
theorem d_M_feed_42 : decode prog_13_method_3_code 42 = .ok (.goto 39, 3) := by decide +kernel
theorem d_M_feed_45 : decode prog_13_method_3_code 45 = .ok (.iload 6, 2) := by decide +kernel
theorem d_M_feed_47 : decode prog_13_method_3_code 47 = .ok (.bipush 8, 2) := by decide +kernel
theorem d_M_feed_49 : decode prog_13_method_3_code 49 = .ok (.if_icmp .ge 7, 3) := by decide +kernel
theorem d_M_feed_52 : decode prog_13_method_3_code 52 = .ok (.iload_n 2, 1) := by decide +kernel
theorem d_M_feed_53 : decode prog_13_method_3_code 53 = .ok (.goto 28, 3) := by decide +kernel
theorem d_M_feed_56 : decode prog_13_method_3_code 56 = .ok (.iload 6, 2) := by decide +kernel
theorem d_M_feed_58 : decode prog_13_method_3_code 58 = .ok (.bipush 12, 2) := by decide +kernel
theorem d_M_feed_60 : decode prog_13_method_3_code 60 = .ok (.if_icmp .ge 7, 3) := by decide +kernel
theorem d_M_feed_63 : decode prog_13_method_3_code 63 = .ok (.iload_n 3, 1) := by decide +kernel
theorem d_M_feed_64 : decode prog_13_method_3_code 64 = .ok (.goto 17, 3) := by decide +kernel
theorem d_M_feed_67 : decode prog_13_method_3_code 67 = .ok (.iload 6, 2) := by decide +kernel
theorem d_M_feed_69 : decode prog_13_method_3_code 69 = .ok (.bipush 16, 2) := by decide +kernel
theorem d_M_feed_71 : decode prog_13_method_3_code 71 = .ok (.if_icmp .ge 8, 3) := by decide +kernel
theorem d_M_feed_74 : decode prog_13_method_3_code 74 = .ok (.iload 4, 2) := by decide +kernel
theorem d_M_feed_76 : decode prog_13_method_3_code 76 = .ok (.goto 5, 3) := by decide +kernel
theorem d_M_feed_79 : decode prog_13_method_3_code 79 = .ok (.iload 5, 2) := by decide +kernel
theorem d_M_feed_81 : decode prog_13_method_3_code 81 = .ok (.istore 7, 2) := by decide +kernel
theorem d_M_feed_83 : decode prog_13_method_3_code 83 = .ok (.aload_n 0, 1) := by decide +kernel
theorem d_M_feed_84 : decode prog_13_method_3_code 84 = .ok (.getfield 7, 3) := by decide +kernel
theorem d_M_feed_87 : decode prog_13_method_3_code 87 = .ok (.aload_n 0, 1) := by decide +kernel
theorem d_M_feed_88 : decode prog_13_method_3_code 88 = .ok (.getfield 155, 3) := by decide +kernel
theorem d_M_feed_91 : decode prog_13_method_3_code 91 = .ok (.iload 7, 2) := by decide +kernel
theorem d_M_feed_93 : decode prog_13_method_3_code 93 = .ok (.bipush 8, 2) := by decide +kernel
theorem d_M_feed_95 : decode prog_13_method_3_code 95 = .ok (.iconst 3, 1) := by decide +kernel
theorem d_M_feed_96 : decode prog_13_method_3_code 96 = .ok (.iload 6, 2) := by decide +kernel
theorem d_M_feed_98 : decode prog_13_method_3_code 98 = .ok (.iconst 4, 1) := by decide +kernel
theorem d_M_feed_99 : decode prog_13_method_3_code 99 = .ok (.irem, 1) := by decide +kernel
theorem d_M_feed_100 : decode prog_13_method_3_code 100 = .ok (.isub, 1) := by decide +kernel
theorem d_M_feed_101 : decode prog_13_method_3_code 101 = .ok (.imul, 1) := by decide +kernel
theorem d_M_feed_102 : decode prog_13_method_3_code 102 = .ok (.ishr, 1) := by decide +kernel
theorem d_M_feed_103 : decode prog_13_method_3_code 103 = .ok (.sipush 255, 3) := by decide +kernel
theorem d_M_feed_106 : decode prog_13_method_3_code 106 = .ok (.iand, 1) := by decide +kernel
theorem d_M_feed_107 : decode prog_13_method_3_code 107 = .ok (.iastore, 1) := by decide +kernel
theorem d_M_feed_108 : decode prog_13_method_3_code 108 = .ok (.aload_n 0, 1) := by decide +kernel
theorem d_M_feed_109 : decode prog_13_method_3_code 109 = .ok (.dup, 1) := by decide +kernel
theorem d_M_feed_110 : decode prog_13_method_3_code 110 = .ok (.getfield 155, 3) := by decide +kernel
theorem d_M_feed_113 : decode prog_13_method_3_code 113 = .ok (.iconst 1, 1) := by decide +kernel
theorem d_M_feed_114 : decode prog_13_method_3_code 114 = .ok (.iadd, 1) := by decide +kernel
theorem d_M_feed_115 : decode prog_13_method_3_code 115 = .ok (.putfield 155, 3) := by decide +kernel
theorem d_M_feed_118 : decode prog_13_method_3_code 118 = .ok (.iinc 6 1, 3) := by decide +kernel
theorem d_M_feed_121 : decode prog_13_method_3_code 121 = .ok (.goto (-93), 3) := by decide +kernel
theorem d_M_feed_124 : decode prog_13_method_3_code 124 = .ok (.aload_n 0, 1) := by decide +kernel
theorem d_M_feed_125 : decode prog_13_method_3_code 125 = .ok (.getfield 155, 3) := by decide +kernel
theorem d_M_feed_128 : decode prog_13_method_3_code 128 = .ok (.ireturn, 1) := by decide +kernel
theorem d_M_end_0 : decode prog_13_method_4_code 0 = .ok (.iload_n 1, 1) := by decide +kernel
theorem d_M_end_1 : decode prog_13_method_4_code 1 = .ok (.ifCond .lt 11, 3) := by decide +kernel
theorem d_M_end_4 : decode prog_13_method_4_code 4 = .ok (.iload_n 1, 1) := by decide +kernel
theorem d_M_end_5 : decode prog_13_method_4_code 5 = .ok (.aload_n 0, 1) := by decide +kernel
theorem d_M_end_6 : decode prog_13_method_4_code 6 = .ok (.getfield 155, 3) := by decide +kernel
theorem d_M_end_9 : decode prog_13_method_4_code 9 = .ok (.if_icmp .le 15, 3) := by decide +kernel
theorem d_M_end_12 : decode prog_13_method_4_code 12 = .ok (.aload_n 0, 1) := by decide +kernel
theorem d_M_end_13 : decode prog_13_method_4_code 13 = .ok (.getfield 17, 3) := by decide +kernel
theorem d_M_end_16 : decode prog_13_method_4_code 16 = .ok (.iconst 0, 1) := by decide +kernel
theorem d_M_end_17 : decode prog_13_method_4_code 17 = .ok (.dup2, 1) := by decide +kernel
theorem d_M_end_18 : decode prog_13_method_4_code 18 = .ok (.iaload, 1) := by decide +kernel
theorem d_M_end_19 : decode prog_13_method_4_code 19 = .ok (.iconst 1, 1) := by decide +kernel
theorem d_M_end_20 : decode prog_13_method_4_code 20 = .ok (.iadd, 1) := by decide +kernel
theorem d_M_end_21 : decode prog_13_method_4_code 21 = .ok (.iastore, 1) := by decide +kernel
theorem d_M_end_22 : decode prog_13_method_4_code 22 = .ok (.iconst 0, 1) := by decide +kernel
theorem d_M_end_23 : decode prog_13_method_4_code 23 = .ok (.ireturn, 1) := by decide +kernel
theorem d_M_end_24 : decode prog_13_method_4_code 24 = .ok (.aload_n 0, 1) := by decide +kernel
theorem d_M_end_25 : decode prog_13_method_4_code 25 = .ok (.iload_n 1, 1) := by decide +kernel
theorem d_M_end_26 : decode prog_13_method_4_code 26 = .ok (.putfield 155, 3) := by decide +kernel
theorem d_M_end_29 : decode prog_13_method_4_code 29 = .ok (.iconst 1, 1) := by decide +kernel
theorem d_M_end_30 : decode prog_13_method_4_code 30 = .ok (.ireturn, 1) := by decide +kernel
theorem d_M_stands_0 : decode prog_13_method_26_code 0 = .ok (.iconst 0, 1) := by decide +kernel
theorem d_M_stands_1 : decode prog_13_method_26_code 1 = .ok (.istore_n 1, 1) := by decide +kernel
theorem d_M_stands_2 : decode prog_13_method_26_code 2 = .ok (.iload_n 1, 1) := by decide +kernel
theorem d_M_stands_3 : decode prog_13_method_26_code 3 = .ok (.iconst 3, 1) := by decide +kernel
theorem d_M_stands_4 : decode prog_13_method_26_code 4 = .ok (.if_icmp .ge 23, 3) := by decide +kernel
theorem d_M_stands_7 : decode prog_13_method_26_code 7 = .ok (.aload_n 0, 1) := by decide +kernel
theorem d_M_stands_8 : decode prog_13_method_26_code 8 = .ok (.getfield 102, 3) := by decide +kernel
theorem d_M_stands_11 : decode prog_13_method_26_code 11 = .ok (.iconst 3, 1) := by decide +kernel
theorem d_M_stands_12 : decode prog_13_method_26_code 12 = .ok (.iload_n 1, 1) := by decide +kernel
theorem d_M_stands_13 : decode prog_13_method_26_code 13 = .ok (.iadd, 1) := by decide +kernel
theorem d_M_stands_14 : decode prog_13_method_26_code 14 = .ok (.aload_n 0, 1) := by decide +kernel
theorem d_M_stands_15 : decode prog_13_method_26_code 15 = .ok (.getfield 102, 3) := by decide +kernel
theorem d_M_stands_18 : decode prog_13_method_26_code 18 = .ok (.iload_n 1, 1) := by decide +kernel
theorem d_M_stands_19 : decode prog_13_method_26_code 19 = .ok (.iaload, 1) := by decide +kernel
theorem d_M_stands_20 : decode prog_13_method_26_code 20 = .ok (.iastore, 1) := by decide +kernel
theorem d_M_stands_21 : decode prog_13_method_26_code 21 = .ok (.iinc 1 1, 3) := by decide +kernel
theorem d_M_stands_24 : decode prog_13_method_26_code 24 = .ok (.goto (-22), 3) := by decide +kernel
theorem d_M_stands_27 : decode prog_13_method_26_code 27 = .ok (.iconst 0, 1) := by decide +kernel
theorem d_M_stands_28 : decode prog_13_method_26_code 28 = .ok (.istore_n 1, 1) := by decide +kernel
theorem d_M_stands_29 : decode prog_13_method_26_code 29 = .ok (.iload_n 1, 1) := by decide +kernel
theorem d_M_stands_30 : decode prog_13_method_26_code 30 = .ok (.bipush 16, 2) := by decide +kernel
theorem d_M_stands_32 : decode prog_13_method_26_code 32 = .ok (.if_icmp .ge 24, 3) := by decide +kernel
theorem d_M_stands_35 : decode prog_13_method_26_code 35 = .ok (.aload_n 0, 1) := by decide +kernel
theorem d_M_stands_36 : decode prog_13_method_26_code 36 = .ok (.getfield 105, 3) := by decide +kernel
theorem d_M_stands_39 : decode prog_13_method_26_code 39 = .ok (.bipush 16, 2) := by decide +kernel
theorem d_M_stands_41 : decode prog_13_method_26_code 41 = .ok (.iload_n 1, 1) := by decide +kernel
theorem d_M_stands_42 : decode prog_13_method_26_code 42 = .ok (.iadd, 1) := by decide +kernel
theorem d_M_stands_43 : decode prog_13_method_26_code 43 = .ok (.aload_n 0, 1) := by decide +kernel
theorem d_M_stands_44 : decode prog_13_method_26_code 44 = .ok (.getfield 105, 3) := by decide +kernel
theorem d_M_stands_47 : decode prog_13_method_26_code 47 = .ok (.iload_n 1, 1) := by decide +kernel
theorem d_M_stands_48 : decode prog_13_method_26_code 48 = .ok (.laload, 1) := by decide +kernel
theorem d_M_stands_49 : decode prog_13_method_26_code 49 = .ok (.lastore, 1) := by decide +kernel
theorem d_M_stands_50 : decode prog_13_method_26_code 50 = .ok (.iinc 1 1, 3) := by decide +kernel
theorem d_M_stands_53 : decode prog_13_method_26_code 53 = .ok (.goto (-24), 3) := by decide +kernel
theorem d_M_stands_56 : decode prog_13_method_26_code 56 = .ok (.iconst 0, 1) := by decide +kernel
theorem d_M_stands_57 : decode prog_13_method_26_code 57 = .ok (.istore_n 1, 1) := by decide +kernel
theorem d_M_stands_58 : decode prog_13_method_26_code 58 = .ok (.iload_n 1, 1) := by decide +kernel
theorem d_M_stands_59 : decode prog_13_method_26_code 59 = .ok (.bipush 6, 2) := by decide +kernel
theorem d_M_stands_61 : decode prog_13_method_26_code 61 = .ok (.if_icmp .ge 54, 3) := by decide +kernel
theorem d_M_stands_64 : decode prog_13_method_26_code 64 = .ok (.aload_n 0, 1) := by decide +kernel
theorem d_M_stands_65 : decode prog_13_method_26_code 65 = .ok (.getfield 109, 3) := by decide +kernel
theorem d_M_stands_68 : decode prog_13_method_26_code 68 = .ok (.bipush 6, 2) := by decide +kernel
theorem d_M_stands_70 : decode prog_13_method_26_code 70 = .ok (.iload_n 1, 1) := by decide +kernel
theorem d_M_stands_71 : decode prog_13_method_26_code 71 = .ok (.iadd, 1) := by decide +kernel
theorem d_M_stands_72 : decode prog_13_method_26_code 72 = .ok (.aload_n 0, 1) := by decide +kernel
theorem d_M_stands_73 : decode prog_13_method_26_code 73 = .ok (.getfield 109, 3) := by decide +kernel
theorem d_M_stands_76 : decode prog_13_method_26_code 76 = .ok (.iload_n 1, 1) := by decide +kernel
theorem d_M_stands_77 : decode prog_13_method_26_code 77 = .ok (.iaload, 1) := by decide +kernel
theorem d_M_stands_78 : decode prog_13_method_26_code 78 = .ok (.iastore, 1) := by decide +kernel
theorem d_M_stands_79 : decode prog_13_method_26_code 79 = .ok (.aload_n 0, 1) := by decide +kernel
theorem d_M_stands_80 : decode prog_13_method_26_code 80 = .ok (.getfield 124, 3) := by decide +kernel
theorem d_M_stands_83 : decode prog_13_method_26_code 83 = .ok (.bipush 6, 2) := by decide +kernel
theorem d_M_stands_85 : decode prog_13_method_26_code 85 = .ok (.iload_n 1, 1) := by decide +kernel
theorem d_M_stands_86 : decode prog_13_method_26_code 86 = .ok (.iadd, 1) := by decide +kernel
theorem d_M_stands_87 : decode prog_13_method_26_code 87 = .ok (.aload_n 0, 1) := by decide +kernel
theorem d_M_stands_88 : decode prog_13_method_26_code 88 = .ok (.getfield 124, 3) := by decide +kernel
theorem d_M_stands_91 : decode prog_13_method_26_code 91 = .ok (.iload_n 1, 1) := by decide +kernel
theorem d_M_stands_92 : decode prog_13_method_26_code 92 = .ok (.iaload, 1) := by decide +kernel
theorem d_M_stands_93 : decode prog_13_method_26_code 93 = .ok (.iastore, 1) := by decide +kernel
theorem d_M_stands_94 : decode prog_13_method_26_code 94 = .ok (.aload_n 0, 1) := by decide +kernel
theorem d_M_stands_95 : decode prog_13_method_26_code 95 = .ok (.getfield 127, 3) := by decide +kernel
theorem d_M_stands_98 : decode prog_13_method_26_code 98 = .ok (.bipush 6, 2) := by decide +kernel
theorem d_M_stands_100 : decode prog_13_method_26_code 100 = .ok (.iload_n 1, 1) := by decide +kernel
theorem d_M_stands_101 : decode prog_13_method_26_code 101 = .ok (.iadd, 1) := by decide +kernel
theorem d_M_stands_102 : decode prog_13_method_26_code 102 = .ok (.aload_n 0, 1) := by decide +kernel
theorem d_M_stands_103 : decode prog_13_method_26_code 103 = .ok (.getfield 127, 3) := by decide +kernel
theorem d_M_stands_106 : decode prog_13_method_26_code 106 = .ok (.iload_n 1, 1) := by decide +kernel
theorem d_M_stands_107 : decode prog_13_method_26_code 107 = .ok (.iaload, 1) := by decide +kernel
theorem d_M_stands_108 : decode prog_13_method_26_code 108 = .ok (.iastore, 1) := by decide +kernel
theorem d_M_stands_109 : decode prog_13_method_26_code 109 = .ok (.iinc 1 1, 3) := by decide +kernel
theorem d_M_stands_112 : decode prog_13_method_26_code 112 = .ok (.goto (-54), 3) := by decide +kernel
theorem d_M_stands_115 : decode prog_13_method_26_code 115 = .ok (.iconst 0, 1) := by decide +kernel
theorem d_M_stands_116 : decode prog_13_method_26_code 116 = .ok (.istore_n 1, 1) := by decide +kernel
theorem d_M_stands_117 : decode prog_13_method_26_code 117 = .ok (.iload_n 1, 1) := by decide +kernel
theorem d_M_stands_118 : decode prog_13_method_26_code 118 = .ok (.bipush 48, 2) := by decide +kernel
theorem d_M_stands_120 : decode prog_13_method_26_code 120 = .ok (.if_icmp .ge 24, 3) := by decide +kernel
theorem d_M_stands_123 : decode prog_13_method_26_code 123 = .ok (.aload_n 0, 1) := by decide +kernel
theorem d_M_stands_124 : decode prog_13_method_26_code 124 = .ok (.getfield 112, 3) := by decide +kernel
theorem d_M_stands_127 : decode prog_13_method_26_code 127 = .ok (.bipush 48, 2) := by decide +kernel
theorem d_M_stands_129 : decode prog_13_method_26_code 129 = .ok (.iload_n 1, 1) := by decide +kernel
theorem d_M_stands_130 : decode prog_13_method_26_code 130 = .ok (.iadd, 1) := by decide +kernel
theorem d_M_stands_131 : decode prog_13_method_26_code 131 = .ok (.aload_n 0, 1) := by decide +kernel
theorem d_M_stands_132 : decode prog_13_method_26_code 132 = .ok (.getfield 112, 3) := by decide +kernel
theorem d_M_stands_135 : decode prog_13_method_26_code 135 = .ok (.iload_n 1, 1) := by decide +kernel
theorem d_M_stands_136 : decode prog_13_method_26_code 136 = .ok (.iaload, 1) := by decide +kernel
theorem d_M_stands_137 : decode prog_13_method_26_code 137 = .ok (.iastore, 1) := by decide +kernel
theorem d_M_stands_138 : decode prog_13_method_26_code 138 = .ok (.iinc 1 1, 3) := by decide +kernel
theorem d_M_stands_141 : decode prog_13_method_26_code 141 = .ok (.goto (-24), 3) := by decide +kernel
theorem d_M_stands_144 : decode prog_13_method_26_code 144 = .ok (.iconst 0, 1) := by decide +kernel
theorem d_M_stands_145 : decode prog_13_method_26_code 145 = .ok (.istore_n 1, 1) := by decide +kernel
theorem d_M_stands_146 : decode prog_13_method_26_code 146 = .ok (.iload_n 1, 1) := by decide +kernel
theorem d_M_stands_147 : decode prog_13_method_26_code 147 = .ok (.bipush 9, 2) := by decide +kernel
theorem d_M_stands_149 : decode prog_13_method_26_code 149 = .ok (.if_icmp .ge 24, 3) := by decide +kernel
theorem d_M_stands_152 : decode prog_13_method_26_code 152 = .ok (.aload_n 0, 1) := by decide +kernel
theorem d_M_stands_153 : decode prog_13_method_26_code 153 = .ok (.getfield 115, 3) := by decide +kernel
theorem d_M_stands_156 : decode prog_13_method_26_code 156 = .ok (.bipush 9, 2) := by decide +kernel
theorem d_M_stands_158 : decode prog_13_method_26_code 158 = .ok (.iload_n 1, 1) := by decide +kernel
theorem d_M_stands_159 : decode prog_13_method_26_code 159 = .ok (.iadd, 1) := by decide +kernel
theorem d_M_stands_160 : decode prog_13_method_26_code 160 = .ok (.aload_n 0, 1) := by decide +kernel
theorem d_M_stands_161 : decode prog_13_method_26_code 161 = .ok (.getfield 115, 3) := by decide +kernel
theorem d_M_stands_164 : decode prog_13_method_26_code 164 = .ok (.iload_n 1, 1) := by decide +kernel
theorem d_M_stands_165 : decode prog_13_method_26_code 165 = .ok (.iaload, 1) := by decide +kernel
theorem d_M_stands_166 : decode prog_13_method_26_code 166 = .ok (.iastore, 1) := by decide +kernel
theorem d_M_stands_167 : decode prog_13_method_26_code 167 = .ok (.iinc 1 1, 3) := by decide +kernel
theorem d_M_stands_170 : decode prog_13_method_26_code 170 = .ok (.goto (-24), 3) := by decide +kernel
theorem d_M_stands_173 : decode prog_13_method_26_code 173 = .ok (.iconst 0, 1) := by decide +kernel
theorem d_M_stands_174 : decode prog_13_method_26_code 174 = .ok (.istore_n 1, 1) := by decide +kernel
theorem d_M_stands_175 : decode prog_13_method_26_code 175 = .ok (.iload_n 1, 1) := by decide +kernel
theorem d_M_stands_176 : decode prog_13_method_26_code 176 = .ok (.aload_n 0, 1) := by decide +kernel
theorem d_M_stands_177 : decode prog_13_method_26_code 177 = .ok (.getfield 241, 3) := by decide +kernel
theorem d_M_stands_180 : decode prog_13_method_26_code 180 = .ok (.if_icmp .ge 25, 3) := by decide +kernel
theorem d_M_stands_183 : decode prog_13_method_26_code 183 = .ok (.aload_n 0, 1) := by decide +kernel
theorem d_M_stands_184 : decode prog_13_method_26_code 184 = .ok (.getfield 118, 3) := by decide +kernel
theorem d_M_stands_187 : decode prog_13_method_26_code 187 = .ok (.sipush 1600, 3) := by decide +kernel
theorem d_M_stands_190 : decode prog_13_method_26_code 190 = .ok (.iload_n 1, 1) := by decide +kernel
theorem d_M_stands_191 : decode prog_13_method_26_code 191 = .ok (.iadd, 1) := by decide +kernel
theorem d_M_stands_192 : decode prog_13_method_26_code 192 = .ok (.aload_n 0, 1) := by decide +kernel
theorem d_M_stands_193 : decode prog_13_method_26_code 193 = .ok (.getfield 118, 3) := by decide +kernel
theorem d_M_stands_196 : decode prog_13_method_26_code 196 = .ok (.iload_n 1, 1) := by decide +kernel
theorem d_M_stands_197 : decode prog_13_method_26_code 197 = .ok (.iaload, 1) := by decide +kernel
theorem d_M_stands_198 : decode prog_13_method_26_code 198 = .ok (.iastore, 1) := by decide +kernel
theorem d_M_stands_199 : decode prog_13_method_26_code 199 = .ok (.iinc 1 1, 3) := by decide +kernel
theorem d_M_stands_202 : decode prog_13_method_26_code 202 = .ok (.goto (-27), 3) := by decide +kernel
theorem d_M_stands_205 : decode prog_13_method_26_code 205 = .ok (.iconst 0, 1) := by decide +kernel
theorem d_M_stands_206 : decode prog_13_method_26_code 206 = .ok (.istore_n 1, 1) := by decide +kernel
theorem d_M_stands_207 : decode prog_13_method_26_code 207 = .ok (.iload_n 1, 1) := by decide +kernel
theorem d_M_stands_208 : decode prog_13_method_26_code 208 = .ok (.bipush 7, 2) := by decide +kernel
theorem d_M_stands_210 : decode prog_13_method_26_code 210 = .ok (.if_icmp .ge 16, 3) := by decide +kernel
theorem d_M_stands_213 : decode prog_13_method_26_code 213 = .ok (.aload_n 0, 1) := by decide +kernel
theorem d_M_stands_214 : decode prog_13_method_26_code 214 = .ok (.getfield 136, 3) := by decide +kernel
theorem d_M_stands_217 : decode prog_13_method_26_code 217 = .ok (.iload_n 1, 1) := by decide +kernel
theorem d_M_stands_218 : decode prog_13_method_26_code 218 = .ok (.iconst 0, 1) := by decide +kernel
theorem d_M_stands_219 : decode prog_13_method_26_code 219 = .ok (.iastore, 1) := by decide +kernel
theorem d_M_stands_220 : decode prog_13_method_26_code 220 = .ok (.iinc 1 1, 3) := by decide +kernel
theorem d_M_stands_223 : decode prog_13_method_26_code 223 = .ok (.goto (-16), 3) := by decide +kernel
theorem d_M_stands_226 : decode prog_13_method_26_code 226 = .ok (.aload_n 0, 1) := by decide +kernel
theorem d_M_stands_227 : decode prog_13_method_26_code 227 = .ok (.getfield 136, 3) := by decide +kernel
theorem d_M_stands_230 : decode prog_13_method_26_code 230 = .ok (.iconst 2, 1) := by decide +kernel
theorem d_M_stands_231 : decode prog_13_method_26_code 231 = .ok (.iconst 1, 1) := by decide +kernel
theorem d_M_stands_232 : decode prog_13_method_26_code 232 = .ok (.aload_n 0, 1) := by decide +kernel
theorem d_M_stands_233 : decode prog_13_method_26_code 233 = .ok (.getfield 102, 3) := by decide +kernel
theorem d_M_stands_236 : decode prog_13_method_26_code 236 = .ok (.iconst 2, 1) := by decide +kernel
theorem d_M_stands_237 : decode prog_13_method_26_code 237 = .ok (.iaload, 1) := by decide +kernel
theorem d_M_stands_238 : decode prog_13_method_26_code 238 = .ok (.ishl, 1) := by decide +kernel
theorem d_M_stands_239 : decode prog_13_method_26_code 239 = .ok (.iconst 1, 1) := by decide +kernel
theorem d_M_stands_240 : decode prog_13_method_26_code 240 = .ok (.isub, 1) := by decide +kernel
theorem d_M_stands_241 : decode prog_13_method_26_code 241 = .ok (.iastore, 1) := by decide +kernel
theorem d_M_stands_242 : decode prog_13_method_26_code 242 = .ok (.aload_n 0, 1) := by decide +kernel
theorem d_M_stands_243 : decode prog_13_method_26_code 243 = .ok (.getfield 136, 3) := by decide +kernel
theorem d_M_stands_246 : decode prog_13_method_26_code 246 = .ok (.iconst 3, 1) := by decide +kernel
theorem d_M_stands_247 : decode prog_13_method_26_code 247 = .ok (.aload_n 0, 1) := by decide +kernel
theorem d_M_stands_248 : decode prog_13_method_26_code 248 = .ok (.getfield 115, 3) := by decide +kernel
theorem d_M_stands_251 : decode prog_13_method_26_code 251 = .ok (.iconst 0, 1) := by decide +kernel
theorem d_M_stands_252 : decode prog_13_method_26_code 252 = .ok (.iaload, 1) := by decide +kernel
theorem d_M_stands_253 : decode prog_13_method_26_code 253 = .ok (.iastore, 1) := by decide +kernel
theorem d_M_stands_254 : decode prog_13_method_26_code 254 = .ok (.aload_n 0, 1) := by decide +kernel
theorem d_M_stands_255 : decode prog_13_method_26_code 255 = .ok (.getfield 136, 3) := by decide +kernel
theorem d_M_stands_258 : decode prog_13_method_26_code 258 = .ok (.iconst 4, 1) := by decide +kernel
theorem d_M_stands_259 : decode prog_13_method_26_code 259 = .ok (.aload_n 0, 1) := by decide +kernel
theorem d_M_stands_260 : decode prog_13_method_26_code 260 = .ok (.getfield 115, 3) := by decide +kernel
theorem d_M_stands_263 : decode prog_13_method_26_code 263 = .ok (.iconst 3, 1) := by decide +kernel
theorem d_M_stands_264 : decode prog_13_method_26_code 264 = .ok (.iaload, 1) := by decide +kernel
theorem d_M_stands_265 : decode prog_13_method_26_code 265 = .ok (.iastore, 1) := by decide +kernel
theorem d_M_stands_266 : decode prog_13_method_26_code 266 = .ok (.aload_n 0, 1) := by decide +kernel
theorem d_M_stands_267 : decode prog_13_method_26_code 267 = .ok (.getfield 136, 3) := by decide +kernel
theorem d_M_stands_270 : decode prog_13_method_26_code 270 = .ok (.iconst 5, 1) := by decide +kernel
theorem d_M_stands_271 : decode prog_13_method_26_code 271 = .ok (.aload_n 0, 1) := by decide +kernel
theorem d_M_stands_272 : decode prog_13_method_26_code 272 = .ok (.getfield 115, 3) := by decide +kernel
theorem d_M_stands_275 : decode prog_13_method_26_code 275 = .ok (.iconst 1, 1) := by decide +kernel
theorem d_M_stands_276 : decode prog_13_method_26_code 276 = .ok (.iaload, 1) := by decide +kernel
theorem d_M_stands_277 : decode prog_13_method_26_code 277 = .ok (.iastore, 1) := by decide +kernel
theorem d_M_stands_278 : decode prog_13_method_26_code 278 = .ok (.aload_n 0, 1) := by decide +kernel
theorem d_M_stands_279 : decode prog_13_method_26_code 279 = .ok (.iconst 0, 1) := by decide +kernel
theorem d_M_stands_280 : decode prog_13_method_26_code 280 = .ok (.putfield 278, 3) := by decide +kernel
theorem d_M_stands_283 : decode prog_13_method_26_code 283 = .ok (.aload_n 0, 1) := by decide +kernel
theorem d_M_stands_284 : decode prog_13_method_26_code 284 = .ok (.iconst 0, 1) := by decide +kernel
theorem d_M_stands_285 : decode prog_13_method_26_code 285 = .ok (.putfield 281, 3) := by decide +kernel
theorem d_M_stands_288 : decode prog_13_method_26_code 288 = .ok (.return_, 1) := by decide +kernel
theorem d_M_look_0 : decode prog_13_method_8_code 0 = .ok (.aload_n 0, 1) := by decide +kernel
theorem d_M_look_1 : decode prog_13_method_8_code 1 = .ok (.getfield 164, 3) := by decide +kernel
theorem d_M_look_4 : decode prog_13_method_8_code 4 = .ok (.aload_n 0, 1) := by decide +kernel
theorem d_M_look_5 : decode prog_13_method_8_code 5 = .ok (.getfield 167, 3) := by decide +kernel
theorem d_M_look_8 : decode prog_13_method_8_code 8 = .ok (.if_icmp .ge 44, 3) := by decide +kernel
theorem d_M_look_11 : decode prog_13_method_8_code 11 = .ok (.aload_n 0, 1) := by decide +kernel
theorem d_M_look_12 : decode prog_13_method_8_code 12 = .ok (.getfield 7, 3) := by decide +kernel
theorem d_M_look_15 : decode prog_13_method_8_code 15 = .ok (.aload_n 0, 1) := by decide +kernel
theorem d_M_look_16 : decode prog_13_method_8_code 16 = .ok (.getfield 164, 3) := by decide +kernel
theorem d_M_look_19 : decode prog_13_method_8_code 19 = .ok (.iaload, 1) := by decide +kernel
theorem d_M_look_20 : decode prog_13_method_8_code 20 = .ok (.bipush 10, 2) := by decide +kernel
theorem d_M_look_22 : decode prog_13_method_8_code 22 = .ok (.if_icmp .eq 17, 3) := by decide +kernel
theorem d_M_look_25 : decode prog_13_method_8_code 25 = .ok (.aload_n 0, 1) := by decide +kernel
theorem d_M_look_26 : decode prog_13_method_8_code 26 = .ok (.getfield 7, 3) := by decide +kernel
theorem d_M_look_29 : decode prog_13_method_8_code 29 = .ok (.aload_n 0, 1) := by decide +kernel
theorem d_M_look_30 : decode prog_13_method_8_code 30 = .ok (.getfield 164, 3) := by decide +kernel
theorem d_M_look_33 : decode prog_13_method_8_code 33 = .ok (.iaload, 1) := by decide +kernel
theorem d_M_look_34 : decode prog_13_method_8_code 34 = .ok (.bipush 32, 2) := by decide +kernel
theorem d_M_look_36 : decode prog_13_method_8_code 36 = .ok (.if_icmp .ne 16, 3) := by decide +kernel
theorem d_M_look_39 : decode prog_13_method_8_code 39 = .ok (.aload_n 0, 1) := by decide +kernel
theorem d_M_look_40 : decode prog_13_method_8_code 40 = .ok (.dup, 1) := by decide +kernel
theorem d_M_look_41 : decode prog_13_method_8_code 41 = .ok (.getfield 164, 3) := by decide +kernel
theorem d_M_look_44 : decode prog_13_method_8_code 44 = .ok (.iconst 1, 1) := by decide +kernel
theorem d_M_look_45 : decode prog_13_method_8_code 45 = .ok (.iadd, 1) := by decide +kernel
theorem d_M_look_46 : decode prog_13_method_8_code 46 = .ok (.putfield 164, 3) := by decide +kernel
theorem d_M_look_49 : decode prog_13_method_8_code 49 = .ok (.goto (-49), 3) := by decide +kernel
theorem d_M_look_52 : decode prog_13_method_8_code 52 = .ok (.aload_n 0, 1) := by decide +kernel
theorem d_M_look_53 : decode prog_13_method_8_code 53 = .ok (.getfield 164, 3) := by decide +kernel
theorem d_M_look_56 : decode prog_13_method_8_code 56 = .ok (.aload_n 0, 1) := by decide +kernel
theorem d_M_look_57 : decode prog_13_method_8_code 57 = .ok (.getfield 167, 3) := by decide +kernel
theorem d_M_look_60 : decode prog_13_method_8_code 60 = .ok (.if_icmp .ge 15, 3) := by decide +kernel
theorem d_M_look_63 : decode prog_13_method_8_code 63 = .ok (.aload_n 0, 1) := by decide +kernel
theorem d_M_look_64 : decode prog_13_method_8_code 64 = .ok (.getfield 7, 3) := by decide +kernel
theorem d_M_look_67 : decode prog_13_method_8_code 67 = .ok (.aload_n 0, 1) := by decide +kernel
theorem d_M_look_68 : decode prog_13_method_8_code 68 = .ok (.getfield 164, 3) := by decide +kernel
theorem d_M_look_71 : decode prog_13_method_8_code 71 = .ok (.iaload, 1) := by decide +kernel
theorem d_M_look_72 : decode prog_13_method_8_code 72 = .ok (.goto 4, 3) := by decide +kernel
theorem d_M_look_75 : decode prog_13_method_8_code 75 = .ok (.iconst (-1), 1) := by decide +kernel
theorem d_M_look_76 : decode prog_13_method_8_code 76 = .ok (.ireturn, 1) := by decide +kernel
theorem d_M_isLetter_0 : decode prog_13_method_6_code 0 = .ok (.iload_n 0, 1) := by decide +kernel
theorem d_M_isLetter_1 : decode prog_13_method_6_code 1 = .ok (.bipush 97, 2) := by decide +kernel
theorem d_M_isLetter_3 : decode prog_13_method_6_code 3 = .ok (.if_icmp .lt 13, 3) := by decide +kernel
theorem d_M_isLetter_6 : decode prog_13_method_6_code 6 = .ok (.iload_n 0, 1) := by decide +kernel
theorem d_M_isLetter_7 : decode prog_13_method_6_code 7 = .ok (.bipush 122, 2) := by decide +kernel
theorem d_M_isLetter_9 : decode prog_13_method_6_code 9 = .ok (.if_icmp .gt 7, 3) := by decide +kernel
theorem d_M_isLetter_12 : decode prog_13_method_6_code 12 = .ok (.iconst 1, 1) := by decide +kernel
theorem d_M_isLetter_13 : decode prog_13_method_6_code 13 = .ok (.goto 4, 3) := by decide +kernel
theorem d_M_isLetter_16 : decode prog_13_method_6_code 16 = .ok (.iconst 0, 1) := by decide +kernel
theorem d_M_isLetter_17 : decode prog_13_method_6_code 17 = .ok (.ireturn, 1) := by decide +kernel
theorem d_M_isHere_0 : decode prog_13_method_9_code 0 = .ok (.aload_n 0, 1) := by decide +kernel
theorem d_M_isHere_1 : decode prog_13_method_9_code 1 = .ok (.getfield 158, 3) := by decide +kernel
theorem d_M_isHere_4 : decode prog_13_method_9_code 4 = .ok (.ifCond .ne 24, 3) := by decide +kernel
theorem d_M_isHere_7 : decode prog_13_method_9_code 7 = .ok (.aload_n 0, 1) := by decide +kernel
theorem d_M_isHere_8 : decode prog_13_method_9_code 8 = .ok (.invokevirtual 170, 3) := by decide +kernel
theorem d_M_isHere_11 : decode prog_13_method_9_code 11 = .ok (.invokestatic 174, 3) := by decide +kernel
theorem d_M_isHere_14 : decode prog_13_method_9_code 14 = .ok (.ifCond .eq 14, 3) := by decide +kernel
theorem d_M_isHere_17 : decode prog_13_method_9_code 17 = .ok (.aload_n 0, 1) := by decide +kernel
theorem d_M_isHere_18 : decode prog_13_method_9_code 18 = .ok (.getfield 164, 3) := by decide +kernel
theorem d_M_isHere_21 : decode prog_13_method_9_code 21 = .ok (.aload_n 0, 1) := by decide +kernel
theorem d_M_isHere_22 : decode prog_13_method_9_code 22 = .ok (.getfield 178, 3) := by decide +kernel
theorem d_M_isHere_25 : decode prog_13_method_9_code 25 = .ok (.if_icmp .ne 5, 3) := by decide +kernel
theorem d_M_isHere_28 : decode prog_13_method_9_code 28 = .ok (.iconst 0, 1) := by decide +kernel
theorem d_M_isHere_29 : decode prog_13_method_9_code 29 = .ok (.ireturn, 1) := by decide +kernel
theorem d_M_isHere_30 : decode prog_13_method_9_code 30 = .ok (.aload_n 0, 1) := by decide +kernel
theorem d_M_isHere_31 : decode prog_13_method_9_code 31 = .ok (.getfield 164, 3) := by decide +kernel
theorem d_M_isHere_34 : decode prog_13_method_9_code 34 = .ok (.istore_n 2, 1) := by decide +kernel
theorem d_M_isHere_35 : decode prog_13_method_9_code 35 = .ok (.iload_n 2, 1) := by decide +kernel
theorem d_M_isHere_36 : decode prog_13_method_9_code 36 = .ok (.aload_n 0, 1) := by decide +kernel
theorem d_M_isHere_37 : decode prog_13_method_9_code 37 = .ok (.getfield 167, 3) := by decide +kernel
theorem d_M_isHere_40 : decode prog_13_method_9_code 40 = .ok (.if_icmp .ge 21, 3) := by decide +kernel
theorem d_M_isHere_43 : decode prog_13_method_9_code 43 = .ok (.aload_n 0, 1) := by decide +kernel
theorem d_M_isHere_44 : decode prog_13_method_9_code 44 = .ok (.getfield 7, 3) := by decide +kernel
theorem d_M_isHere_47 : decode prog_13_method_9_code 47 = .ok (.iload_n 2, 1) := by decide +kernel
theorem d_M_isHere_48 : decode prog_13_method_9_code 48 = .ok (.iaload, 1) := by decide +kernel
theorem d_M_isHere_49 : decode prog_13_method_9_code 49 = .ok (.invokestatic 174, 3) := by decide +kernel
theorem d_M_isHere_52 : decode prog_13_method_9_code 52 = .ok (.ifCond .eq 9, 3) := by decide +kernel
theorem d_M_isHere_55 : decode prog_13_method_9_code 55 = .ok (.iinc 2 1, 3) := by decide +kernel
theorem d_M_isHere_58 : decode prog_13_method_9_code 58 = .ok (.goto (-23), 3) := by decide +kernel
theorem d_M_isHere_61 : decode prog_13_method_9_code 61 = .ok (.iload_n 2, 1) := by decide +kernel
theorem d_M_isHere_62 : decode prog_13_method_9_code 62 = .ok (.aload_n 0, 1) := by decide +kernel
theorem d_M_isHere_63 : decode prog_13_method_9_code 63 = .ok (.getfield 164, 3) := by decide +kernel
theorem d_M_isHere_66 : decode prog_13_method_9_code 66 = .ok (.isub, 1) := by decide +kernel
theorem d_M_isHere_67 : decode prog_13_method_9_code 67 = .ok (.aload_n 1, 1) := by decide +kernel
theorem d_M_isHere_68 : decode prog_13_method_9_code 68 = .ok (.arraylength, 1) := by decide +kernel
theorem d_M_isHere_69 : decode prog_13_method_9_code 69 = .ok (.if_icmp .eq 5, 3) := by decide +kernel
theorem d_M_isHere_72 : decode prog_13_method_9_code 72 = .ok (.iconst 0, 1) := by decide +kernel
theorem d_M_isHere_73 : decode prog_13_method_9_code 73 = .ok (.ireturn, 1) := by decide +kernel
theorem d_M_isHere_74 : decode prog_13_method_9_code 74 = .ok (.iconst 0, 1) := by decide +kernel
theorem d_M_isHere_75 : decode prog_13_method_9_code 75 = .ok (.istore_n 3, 1) := by decide +kernel
theorem d_M_isHere_76 : decode prog_13_method_9_code 76 = .ok (.iload_n 3, 1) := by decide +kernel
theorem d_M_isHere_77 : decode prog_13_method_9_code 77 = .ok (.aload_n 1, 1) := by decide +kernel
theorem d_M_isHere_78 : decode prog_13_method_9_code 78 = .ok (.arraylength, 1) := by decide +kernel
theorem d_M_isHere_79 : decode prog_13_method_9_code 79 = .ok (.if_icmp .ge 28, 3) := by decide +kernel
theorem d_M_isHere_82 : decode prog_13_method_9_code 82 = .ok (.aload_n 0, 1) := by decide +kernel
theorem d_M_isHere_83 : decode prog_13_method_9_code 83 = .ok (.getfield 7, 3) := by decide +kernel
theorem d_M_isHere_86 : decode prog_13_method_9_code 86 = .ok (.aload_n 0, 1) := by decide +kernel
theorem d_M_isHere_87 : decode prog_13_method_9_code 87 = .ok (.getfield 164, 3) := by decide +kernel
theorem d_M_isHere_90 : decode prog_13_method_9_code 90 = .ok (.iload_n 3, 1) := by decide +kernel
theorem d_M_isHere_91 : decode prog_13_method_9_code 91 = .ok (.iadd, 1) := by decide +kernel
theorem d_M_isHere_92 : decode prog_13_method_9_code 92 = .ok (.iaload, 1) := by decide +kernel
theorem d_M_isHere_93 : decode prog_13_method_9_code 93 = .ok (.aload_n 1, 1) := by decide +kernel
theorem d_M_isHere_94 : decode prog_13_method_9_code 94 = .ok (.iload_n 3, 1) := by decide +kernel
theorem d_M_isHere_95 : decode prog_13_method_9_code 95 = .ok (.caload, 1) := by decide +kernel
theorem d_M_isHere_96 : decode prog_13_method_9_code 96 = .ok (.if_icmp .eq 5, 3) := by decide +kernel
theorem d_M_isHere_99 : decode prog_13_method_9_code 99 = .ok (.iconst 0, 1) := by decide +kernel
theorem d_M_isHere_100 : decode prog_13_method_9_code 100 = .ok (.ireturn, 1) := by decide +kernel
theorem d_M_isHere_101 : decode prog_13_method_9_code 101 = .ok (.iinc 3 1, 3) := by decide +kernel
theorem d_M_isHere_104 : decode prog_13_method_9_code 104 = .ok (.goto (-28), 3) := by decide +kernel
theorem d_M_isHere_107 : decode prog_13_method_9_code 107 = .ok (.iconst 1, 1) := by decide +kernel
theorem d_M_isHere_108 : decode prog_13_method_9_code 108 = .ok (.ireturn, 1) := by decide +kernel
theorem d_M_takes_0 : decode prog_13_method_10_code 0 = .ok (.aload_n 0, 1) := by decide +kernel
theorem d_M_takes_1 : decode prog_13_method_10_code 1 = .ok (.aload_n 1, 1) := by decide +kernel
theorem d_M_takes_2 : decode prog_13_method_10_code 2 = .ok (.invokevirtual 181, 3) := by decide +kernel
theorem d_M_takes_5 : decode prog_13_method_10_code 5 = .ok (.ifCond .ne 5, 3) := by decide +kernel
theorem d_M_takes_8 : decode prog_13_method_10_code 8 = .ok (.iconst 0, 1) := by decide +kernel
theorem d_M_takes_9 : decode prog_13_method_10_code 9 = .ok (.ireturn, 1) := by decide +kernel
theorem d_M_takes_10 : decode prog_13_method_10_code 10 = .ok (.aload_n 0, 1) := by decide +kernel
theorem d_M_takes_11 : decode prog_13_method_10_code 11 = .ok (.dup, 1) := by decide +kernel
theorem d_M_takes_12 : decode prog_13_method_10_code 12 = .ok (.getfield 164, 3) := by decide +kernel
theorem d_M_takes_15 : decode prog_13_method_10_code 15 = .ok (.aload_n 1, 1) := by decide +kernel
theorem d_M_takes_16 : decode prog_13_method_10_code 16 = .ok (.arraylength, 1) := by decide +kernel
theorem d_M_takes_17 : decode prog_13_method_10_code 17 = .ok (.iadd, 1) := by decide +kernel
theorem d_M_takes_18 : decode prog_13_method_10_code 18 = .ok (.putfield 164, 3) := by decide +kernel
theorem d_M_takes_21 : decode prog_13_method_10_code 21 = .ok (.aload_n 0, 1) := by decide +kernel
theorem d_M_takes_22 : decode prog_13_method_10_code 22 = .ok (.aload_n 0, 1) := by decide +kernel
theorem d_M_takes_23 : decode prog_13_method_10_code 23 = .ok (.getfield 164, 3) := by decide +kernel
theorem d_M_takes_26 : decode prog_13_method_10_code 26 = .ok (.putfield 178, 3) := by decide +kernel
theorem d_M_takes_29 : decode prog_13_method_10_code 29 = .ok (.iconst 1, 1) := by decide +kernel
theorem d_M_takes_30 : decode prog_13_method_10_code 30 = .ok (.ireturn, 1) := by decide +kernel
theorem d_M_isDigit_0 : decode prog_13_method_7_code 0 = .ok (.iload_n 0, 1) := by decide +kernel
theorem d_M_isDigit_1 : decode prog_13_method_7_code 1 = .ok (.bipush 48, 2) := by decide +kernel
theorem d_M_isDigit_3 : decode prog_13_method_7_code 3 = .ok (.if_icmp .lt 13, 3) := by decide +kernel
theorem d_M_isDigit_6 : decode prog_13_method_7_code 6 = .ok (.iload_n 0, 1) := by decide +kernel
theorem d_M_isDigit_7 : decode prog_13_method_7_code 7 = .ok (.bipush 57, 2) := by decide +kernel
theorem d_M_isDigit_9 : decode prog_13_method_7_code 9 = .ok (.if_icmp .gt 7, 3) := by decide +kernel
theorem d_M_isDigit_12 : decode prog_13_method_7_code 12 = .ok (.iconst 1, 1) := by decide +kernel
theorem d_M_isDigit_13 : decode prog_13_method_7_code 13 = .ok (.goto 4, 3) := by decide +kernel
theorem d_M_isDigit_16 : decode prog_13_method_7_code 16 = .ok (.iconst 0, 1) := by decide +kernel
theorem d_M_isDigit_17 : decode prog_13_method_7_code 17 = .ok (.ireturn, 1) := by decide +kernel
theorem d_M_fail_0 : decode prog_13_method_5_code 0 = .ok (.aload_n 0, 1) := by decide +kernel
theorem d_M_fail_1 : decode prog_13_method_5_code 1 = .ok (.getfield 158, 3) := by decide +kernel
theorem d_M_fail_4 : decode prog_13_method_5_code 4 = .ok (.ifCond .eq 4, 3) := by decide +kernel
theorem d_M_fail_7 : decode prog_13_method_5_code 7 = .ok (.return_, 1) := by decide +kernel
theorem d_M_fail_8 : decode prog_13_method_5_code 8 = .ok (.aload_n 0, 1) := by decide +kernel
theorem d_M_fail_9 : decode prog_13_method_5_code 9 = .ok (.iload_n 1, 1) := by decide +kernel
theorem d_M_fail_10 : decode prog_13_method_5_code 10 = .ok (.putfield 158, 3) := by decide +kernel
theorem d_M_fail_13 : decode prog_13_method_5_code 13 = .ok (.aload_n 0, 1) := by decide +kernel
theorem d_M_fail_14 : decode prog_13_method_5_code 14 = .ok (.iload_n 2, 1) := by decide +kernel
theorem d_M_fail_15 : decode prog_13_method_5_code 15 = .ok (.putfield 161, 3) := by decide +kernel
theorem d_M_fail_18 : decode prog_13_method_5_code 18 = .ok (.return_, 1) := by decide +kernel
theorem d_M_isIn_0 : decode prog_13_method_2_code 0 = .ok (.lload_n 0, 1) := by decide +kernel
theorem d_M_isIn_1 : decode prog_13_method_2_code 1 = .ok (.lload_n 2, 1) := by decide +kernel
theorem d_M_isIn_2 : decode prog_13_method_2_code 2 = .ok (.lcmp, 1) := by decide +kernel
theorem d_M_isIn_3 : decode prog_13_method_2_code 3 = .ok (.ifCond .lt 14, 3) := by decide +kernel
theorem d_M_isIn_6 : decode prog_13_method_2_code 6 = .ok (.lload_n 0, 1) := by decide +kernel
theorem d_M_isIn_7 : decode prog_13_method_2_code 7 = .ok (.lload 4, 2) := by decide +kernel
theorem d_M_isIn_9 : decode prog_13_method_2_code 9 = .ok (.lcmp, 1) := by decide +kernel
theorem d_M_isIn_10 : decode prog_13_method_2_code 10 = .ok (.ifCond .gt 7, 3) := by decide +kernel
theorem d_M_isIn_13 : decode prog_13_method_2_code 13 = .ok (.iconst 1, 1) := by decide +kernel
theorem d_M_isIn_14 : decode prog_13_method_2_code 14 = .ok (.goto 4, 3) := by decide +kernel
theorem d_M_isIn_17 : decode prog_13_method_2_code 17 = .ok (.iconst 0, 1) := by decide +kernel
theorem d_M_isIn_18 : decode prog_13_method_2_code 18 = .ok (.ireturn, 1) := by decide +kernel
theorem d_M_number_0 : decode prog_13_method_14_code 0 = .ok (.aload_n 0, 1) := by decide +kernel
theorem d_M_number_1 : decode prog_13_method_14_code 1 = .ok (.getfield 158, 3) := by decide +kernel
theorem d_M_number_4 : decode prog_13_method_14_code 4 = .ok (.ifCond .eq 5, 3) := by decide +kernel
theorem d_M_number_7 : decode prog_13_method_14_code 7 = .ok (.iconst 0, 1) := by decide +kernel
theorem d_M_number_8 : decode prog_13_method_14_code 8 = .ok (.ireturn, 1) := by decide +kernel
theorem d_M_number_9 : decode prog_13_method_14_code 9 = .ok (.aload_n 0, 1) := by decide +kernel
theorem d_M_number_10 : decode prog_13_method_14_code 10 = .ok (.invokevirtual 170, 3) := by decide +kernel
theorem d_M_number_13 : decode prog_13_method_14_code 13 = .ok (.invokestatic 195, 3) := by decide +kernel
theorem d_M_number_16 : decode prog_13_method_14_code 16 = .ok (.ifCond .eq 14, 3) := by decide +kernel
theorem d_M_number_19 : decode prog_13_method_14_code 19 = .ok (.aload_n 0, 1) := by decide +kernel
theorem d_M_number_20 : decode prog_13_method_14_code 20 = .ok (.getfield 164, 3) := by decide +kernel
theorem d_M_number_23 : decode prog_13_method_14_code 23 = .ok (.aload_n 0, 1) := by decide +kernel
theorem d_M_number_24 : decode prog_13_method_14_code 24 = .ok (.getfield 178, 3) := by decide +kernel
theorem d_M_number_27 : decode prog_13_method_14_code 27 = .ok (.if_icmp .ne 14, 3) := by decide +kernel
theorem d_M_number_30 : decode prog_13_method_14_code 30 = .ok (.aload_n 0, 1) := by decide +kernel
theorem d_M_number_31 : decode prog_13_method_14_code 31 = .ok (.iconst 1, 1) := by decide +kernel
theorem d_M_number_32 : decode prog_13_method_14_code 32 = .ok (.aload_n 0, 1) := by decide +kernel
theorem d_M_number_33 : decode prog_13_method_14_code 33 = .ok (.getfield 164, 3) := by decide +kernel
theorem d_M_number_36 : decode prog_13_method_14_code 36 = .ok (.invokevirtual 188, 3) := by decide +kernel
theorem d_M_number_39 : decode prog_13_method_14_code 39 = .ok (.iconst 0, 1) := by decide +kernel
theorem d_M_number_40 : decode prog_13_method_14_code 40 = .ok (.ireturn, 1) := by decide +kernel
theorem d_M_number_41 : decode prog_13_method_14_code 41 = .ok (.aload_n 0, 1) := by decide +kernel
theorem d_M_number_42 : decode prog_13_method_14_code 42 = .ok (.getfield 164, 3) := by decide +kernel
theorem d_M_number_45 : decode prog_13_method_14_code 45 = .ok (.istore_n 3, 1) := by decide +kernel
theorem d_M_number_46 : decode prog_13_method_14_code 46 = .ok (.iconst 0, 1) := by decide +kernel
theorem d_M_number_47 : decode prog_13_method_14_code 47 = .ok (.istore 4, 2) := by decide +kernel
theorem d_M_number_49 : decode prog_13_method_14_code 49 = .ok (.aload_n 0, 1) := by decide +kernel
theorem d_M_number_50 : decode prog_13_method_14_code 50 = .ok (.getfield 164, 3) := by decide +kernel
theorem d_M_number_53 : decode prog_13_method_14_code 53 = .ok (.aload_n 0, 1) := by decide +kernel
theorem d_M_number_54 : decode prog_13_method_14_code 54 = .ok (.getfield 167, 3) := by decide +kernel
theorem d_M_number_57 : decode prog_13_method_14_code 57 = .ok (.if_icmp .ge 72, 3) := by decide +kernel
theorem d_M_number_60 : decode prog_13_method_14_code 60 = .ok (.aload_n 0, 1) := by decide +kernel
theorem d_M_number_61 : decode prog_13_method_14_code 61 = .ok (.getfield 7, 3) := by decide +kernel
theorem d_M_number_64 : decode prog_13_method_14_code 64 = .ok (.aload_n 0, 1) := by decide +kernel
theorem d_M_number_65 : decode prog_13_method_14_code 65 = .ok (.getfield 164, 3) := by decide +kernel
theorem d_M_number_68 : decode prog_13_method_14_code 68 = .ok (.iaload, 1) := by decide +kernel
theorem d_M_number_69 : decode prog_13_method_14_code 69 = .ok (.invokestatic 195, 3) := by decide +kernel
theorem d_M_number_72 : decode prog_13_method_14_code 72 = .ok (.ifCond .eq 57, 3) := by decide +kernel
theorem d_M_number_75 : decode prog_13_method_14_code 75 = .ok (.aload_n 0, 1) := by decide +kernel
theorem d_M_number_76 : decode prog_13_method_14_code 76 = .ok (.getfield 164, 3) := by decide +kernel
theorem d_M_number_79 : decode prog_13_method_14_code 79 = .ok (.iload_n 3, 1) := by decide +kernel
theorem d_M_number_80 : decode prog_13_method_14_code 80 = .ok (.isub, 1) := by decide +kernel
theorem d_M_number_81 : decode prog_13_method_14_code 81 = .ok (.iconst 4, 1) := by decide +kernel
theorem d_M_number_82 : decode prog_13_method_14_code 82 = .ok (.if_icmp .ne 14, 3) := by decide +kernel
theorem d_M_number_85 : decode prog_13_method_14_code 85 = .ok (.aload_n 0, 1) := by decide +kernel
theorem d_M_number_86 : decode prog_13_method_14_code 86 = .ok (.iconst 1, 1) := by decide +kernel
theorem d_M_number_87 : decode prog_13_method_14_code 87 = .ok (.aload_n 0, 1) := by decide +kernel
theorem d_M_number_88 : decode prog_13_method_14_code 88 = .ok (.getfield 164, 3) := by decide +kernel
theorem d_M_number_91 : decode prog_13_method_14_code 91 = .ok (.invokevirtual 188, 3) := by decide +kernel
theorem d_M_number_94 : decode prog_13_method_14_code 94 = .ok (.iconst 0, 1) := by decide +kernel
theorem d_M_number_95 : decode prog_13_method_14_code 95 = .ok (.ireturn, 1) := by decide +kernel
theorem d_M_number_96 : decode prog_13_method_14_code 96 = .ok (.bipush 10, 2) := by decide +kernel
theorem d_M_number_98 : decode prog_13_method_14_code 98 = .ok (.iload 4, 2) := by decide +kernel
theorem d_M_number_100 : decode prog_13_method_14_code 100 = .ok (.imul, 1) := by decide +kernel
theorem d_M_number_101 : decode prog_13_method_14_code 101 = .ok (.aload_n 0, 1) := by decide +kernel
theorem d_M_number_102 : decode prog_13_method_14_code 102 = .ok (.getfield 7, 3) := by decide +kernel
theorem d_M_number_105 : decode prog_13_method_14_code 105 = .ok (.aload_n 0, 1) := by decide +kernel
theorem d_M_number_106 : decode prog_13_method_14_code 106 = .ok (.getfield 164, 3) := by decide +kernel
theorem d_M_number_109 : decode prog_13_method_14_code 109 = .ok (.iaload, 1) := by decide +kernel
theorem d_M_number_110 : decode prog_13_method_14_code 110 = .ok (.iadd, 1) := by decide +kernel
theorem d_M_number_111 : decode prog_13_method_14_code 111 = .ok (.bipush 48, 2) := by decide +kernel
theorem d_M_number_113 : decode prog_13_method_14_code 113 = .ok (.isub, 1) := by decide +kernel
theorem d_M_number_114 : decode prog_13_method_14_code 114 = .ok (.istore 4, 2) := by decide +kernel
theorem d_M_number_116 : decode prog_13_method_14_code 116 = .ok (.aload_n 0, 1) := by decide +kernel
theorem d_M_number_117 : decode prog_13_method_14_code 117 = .ok (.dup, 1) := by decide +kernel
theorem d_M_number_118 : decode prog_13_method_14_code 118 = .ok (.getfield 164, 3) := by decide +kernel
theorem d_M_number_121 : decode prog_13_method_14_code 121 = .ok (.iconst 1, 1) := by decide +kernel
theorem d_M_number_122 : decode prog_13_method_14_code 122 = .ok (.iadd, 1) := by decide +kernel
theorem d_M_number_123 : decode prog_13_method_14_code 123 = .ok (.putfield 164, 3) := by decide +kernel
theorem d_M_number_126 : decode prog_13_method_14_code 126 = .ok (.goto (-77), 3) := by decide +kernel
theorem d_M_number_129 : decode prog_13_method_14_code 129 = .ok (.aload_n 0, 1) := by decide +kernel
theorem d_M_number_130 : decode prog_13_method_14_code 130 = .ok (.aload_n 0, 1) := by decide +kernel
theorem d_M_number_131 : decode prog_13_method_14_code 131 = .ok (.getfield 164, 3) := by decide +kernel
theorem d_M_number_134 : decode prog_13_method_14_code 134 = .ok (.putfield 178, 3) := by decide +kernel
theorem d_M_number_137 : decode prog_13_method_14_code 137 = .ok (.iload 4, 2) := by decide +kernel
theorem d_M_number_139 : decode prog_13_method_14_code 139 = .ok (.i2l, 1) := by decide +kernel
theorem d_M_number_140 : decode prog_13_method_14_code 140 = .ok (.iload_n 1, 1) := by decide +kernel
theorem d_M_number_141 : decode prog_13_method_14_code 141 = .ok (.i2l, 1) := by decide +kernel
theorem d_M_number_142 : decode prog_13_method_14_code 142 = .ok (.iload_n 2, 1) := by decide +kernel
theorem d_M_number_143 : decode prog_13_method_14_code 143 = .ok (.i2l, 1) := by decide +kernel
theorem d_M_number_144 : decode prog_13_method_14_code 144 = .ok (.invokestatic 198, 3) := by decide +kernel
theorem d_M_number_147 : decode prog_13_method_14_code 147 = .ok (.ifCond .ne 9, 3) := by decide +kernel
theorem d_M_number_150 : decode prog_13_method_14_code 150 = .ok (.aload_n 0, 1) := by decide +kernel
theorem d_M_number_151 : decode prog_13_method_14_code 151 = .ok (.iconst 2, 1) := by decide +kernel
theorem d_M_number_152 : decode prog_13_method_14_code 152 = .ok (.iload_n 3, 1) := by decide +kernel
theorem d_M_number_153 : decode prog_13_method_14_code 153 = .ok (.invokevirtual 188, 3) := by decide +kernel
theorem d_M_number_156 : decode prog_13_method_14_code 156 = .ok (.iload 4, 2) := by decide +kernel
theorem d_M_number_158 : decode prog_13_method_14_code 158 = .ok (.ireturn, 1) := by decide +kernel
theorem d_M_asks_0 : decode prog_13_method_11_code 0 = .ok (.aload_n 0, 1) := by decide +kernel
theorem d_M_asks_1 : decode prog_13_method_11_code 1 = .ok (.getfield 158, 3) := by decide +kernel
theorem d_M_asks_4 : decode prog_13_method_11_code 4 = .ok (.ifCond .ne 20, 3) := by decide +kernel
theorem d_M_asks_7 : decode prog_13_method_11_code 7 = .ok (.aload_n 0, 1) := by decide +kernel
theorem d_M_asks_8 : decode prog_13_method_11_code 8 = .ok (.aload_n 1, 1) := by decide +kernel
theorem d_M_asks_9 : decode prog_13_method_11_code 9 = .ok (.invokevirtual 185, 3) := by decide +kernel
theorem d_M_asks_12 : decode prog_13_method_11_code 12 = .ok (.ifCond .ne 12, 3) := by decide +kernel
theorem d_M_asks_15 : decode prog_13_method_11_code 15 = .ok (.aload_n 0, 1) := by decide +kernel
theorem d_M_asks_16 : decode prog_13_method_11_code 16 = .ok (.iconst 1, 1) := by decide +kernel
theorem d_M_asks_17 : decode prog_13_method_11_code 17 = .ok (.aload_n 0, 1) := by decide +kernel
theorem d_M_asks_18 : decode prog_13_method_11_code 18 = .ok (.getfield 164, 3) := by decide +kernel
theorem d_M_asks_21 : decode prog_13_method_11_code 21 = .ok (.invokevirtual 188, 3) := by decide +kernel
theorem d_M_asks_24 : decode prog_13_method_11_code 24 = .ok (.return_, 1) := by decide +kernel
theorem d_M_settingTold_0 : decode prog_13_method_23_code 0 = .ok (.aload_n 0, 1) := by decide +kernel
theorem d_M_settingTold_1 : decode prog_13_method_23_code 1 = .ok (.aload_n 0, 1) := by decide +kernel
theorem d_M_settingTold_2 : decode prog_13_method_23_code 2 = .ok (.getfield 54, 3) := by decide +kernel
theorem d_M_settingTold_5 : decode prog_13_method_23_code 5 = .ok (.invokevirtual 185, 3) := by decide +kernel
theorem d_M_settingTold_8 : decode prog_13_method_23_code 8 = .ok (.ifCond .eq 7, 3) := by decide +kernel
theorem d_M_settingTold_11 : decode prog_13_method_23_code 11 = .ok (.iconst 0, 1) := by decide +kernel
theorem d_M_settingTold_12 : decode prog_13_method_23_code 12 = .ok (.goto 80, 3) := by decide +kernel
theorem d_M_settingTold_15 : decode prog_13_method_23_code 15 = .ok (.aload_n 0, 1) := by decide +kernel
theorem d_M_settingTold_16 : decode prog_13_method_23_code 16 = .ok (.aload_n 0, 1) := by decide +kernel
theorem d_M_settingTold_17 : decode prog_13_method_23_code 17 = .ok (.getfield 57, 3) := by decide +kernel
theorem d_M_settingTold_20 : decode prog_13_method_23_code 20 = .ok (.invokevirtual 185, 3) := by decide +kernel
theorem d_M_settingTold_23 : decode prog_13_method_23_code 23 = .ok (.ifCond .eq 7, 3) := by decide +kernel
theorem d_M_settingTold_26 : decode prog_13_method_23_code 26 = .ok (.iconst 1, 1) := by decide +kernel
theorem d_M_settingTold_27 : decode prog_13_method_23_code 27 = .ok (.goto 65, 3) := by decide +kernel
theorem d_M_settingTold_30 : decode prog_13_method_23_code 30 = .ok (.aload_n 0, 1) := by decide +kernel
theorem d_M_settingTold_31 : decode prog_13_method_23_code 31 = .ok (.aload_n 0, 1) := by decide +kernel
theorem d_M_settingTold_32 : decode prog_13_method_23_code 32 = .ok (.getfield 60, 3) := by decide +kernel
theorem d_M_settingTold_35 : decode prog_13_method_23_code 35 = .ok (.invokevirtual 185, 3) := by decide +kernel
theorem d_M_settingTold_38 : decode prog_13_method_23_code 38 = .ok (.ifCond .eq 7, 3) := by decide +kernel
theorem d_M_settingTold_41 : decode prog_13_method_23_code 41 = .ok (.iconst 2, 1) := by decide +kernel
theorem d_M_settingTold_42 : decode prog_13_method_23_code 42 = .ok (.goto 50, 3) := by decide +kernel
theorem d_M_settingTold_45 : decode prog_13_method_23_code 45 = .ok (.aload_n 0, 1) := by decide +kernel
theorem d_M_settingTold_46 : decode prog_13_method_23_code 46 = .ok (.aload_n 0, 1) := by decide +kernel
theorem d_M_settingTold_47 : decode prog_13_method_23_code 47 = .ok (.getfield 63, 3) := by decide +kernel
theorem d_M_settingTold_50 : decode prog_13_method_23_code 50 = .ok (.invokevirtual 185, 3) := by decide +kernel
theorem d_M_settingTold_53 : decode prog_13_method_23_code 53 = .ok (.ifCond .eq 7, 3) := by decide +kernel
theorem d_M_settingTold_56 : decode prog_13_method_23_code 56 = .ok (.iconst 3, 1) := by decide +kernel
theorem d_M_settingTold_57 : decode prog_13_method_23_code 57 = .ok (.goto 35, 3) := by decide +kernel
theorem d_M_settingTold_60 : decode prog_13_method_23_code 60 = .ok (.aload_n 0, 1) := by decide +kernel
theorem d_M_settingTold_61 : decode prog_13_method_23_code 61 = .ok (.aload_n 0, 1) := by decide +kernel
theorem d_M_settingTold_62 : decode prog_13_method_23_code 62 = .ok (.getfield 66, 3) := by decide +kernel
theorem d_M_settingTold_65 : decode prog_13_method_23_code 65 = .ok (.invokevirtual 185, 3) := by decide +kernel
theorem d_M_settingTold_68 : decode prog_13_method_23_code 68 = .ok (.ifCond .eq 7, 3) := by decide +kernel
theorem d_M_settingTold_71 : decode prog_13_method_23_code 71 = .ok (.iconst 4, 1) := by decide +kernel
theorem d_M_settingTold_72 : decode prog_13_method_23_code 72 = .ok (.goto 20, 3) := by decide +kernel
theorem d_M_settingTold_75 : decode prog_13_method_23_code 75 = .ok (.aload_n 0, 1) := by decide +kernel
theorem d_M_settingTold_76 : decode prog_13_method_23_code 76 = .ok (.aload_n 0, 1) := by decide +kernel
theorem d_M_settingTold_77 : decode prog_13_method_23_code 77 = .ok (.getfield 69, 3) := by decide +kernel
theorem d_M_settingTold_80 : decode prog_13_method_23_code 80 = .ok (.invokevirtual 185, 3) := by decide +kernel
theorem d_M_settingTold_83 : decode prog_13_method_23_code 83 = .ok (.ifCond .eq 7, 3) := by decide +kernel
theorem d_M_settingTold_86 : decode prog_13_method_23_code 86 = .ok (.iconst 5, 1) := by decide +kernel
theorem d_M_settingTold_87 : decode prog_13_method_23_code 87 = .ok (.goto 5, 3) := by decide +kernel
theorem d_M_settingTold_90 : decode prog_13_method_23_code 90 = .ok (.bipush 6, 2) := by decide +kernel
theorem d_M_settingTold_92 : decode prog_13_method_23_code 92 = .ok (.istore_n 1, 1) := by decide +kernel
theorem d_M_settingTold_93 : decode prog_13_method_23_code 93 = .ok (.iload_n 1, 1) := by decide +kernel
theorem d_M_settingTold_94 : decode prog_13_method_23_code 94 = .ok (.bipush 6, 2) := by decide +kernel
theorem d_M_settingTold_96 : decode prog_13_method_23_code 96 = .ok (.if_icmp .ne 62, 3) := by decide +kernel
theorem d_M_settingTold_99 : decode prog_13_method_23_code 99 = .ok (.aload_n 0, 1) := by decide +kernel
theorem d_M_settingTold_100 : decode prog_13_method_23_code 100 = .ok (.aload_n 0, 1) := by decide +kernel
theorem d_M_settingTold_101 : decode prog_13_method_23_code 101 = .ok (.getfield 72, 3) := by decide +kernel
theorem d_M_settingTold_104 : decode prog_13_method_23_code 104 = .ok (.invokevirtual 224, 3) := by decide +kernel
theorem d_M_settingTold_107 : decode prog_13_method_23_code 107 = .ok (.aload_n 0, 1) := by decide +kernel
theorem d_M_settingTold_108 : decode prog_13_method_23_code 108 = .ok (.iconst 0, 1) := by decide +kernel
theorem d_M_settingTold_109 : decode prog_13_method_23_code 109 = .ok (.bipush 9, 2) := by decide +kernel
theorem d_M_settingTold_111 : decode prog_13_method_23_code 111 = .ok (.invokevirtual 228, 3) := by decide +kernel
theorem d_M_settingTold_114 : decode prog_13_method_23_code 114 = .ok (.istore_n 2, 1) := by decide +kernel
theorem d_M_settingTold_115 : decode prog_13_method_23_code 115 = .ok (.aload_n 0, 1) := by decide +kernel
theorem d_M_settingTold_116 : decode prog_13_method_23_code 116 = .ok (.iconst 0, 1) := by decide +kernel
theorem d_M_settingTold_117 : decode prog_13_method_23_code 117 = .ok (.bipush 9, 2) := by decide +kernel
theorem d_M_settingTold_119 : decode prog_13_method_23_code 119 = .ok (.invokevirtual 228, 3) := by decide +kernel
theorem d_M_settingTold_122 : decode prog_13_method_23_code 122 = .ok (.istore_n 3, 1) := by decide +kernel
theorem d_M_settingTold_123 : decode prog_13_method_23_code 123 = .ok (.aload_n 0, 1) := by decide +kernel
theorem d_M_settingTold_124 : decode prog_13_method_23_code 124 = .ok (.iconst 0, 1) := by decide +kernel
theorem d_M_settingTold_125 : decode prog_13_method_23_code 125 = .ok (.bipush 9, 2) := by decide +kernel
theorem d_M_settingTold_127 : decode prog_13_method_23_code 127 = .ok (.invokevirtual 228, 3) := by decide +kernel
theorem d_M_settingTold_130 : decode prog_13_method_23_code 130 = .ok (.istore 4, 2) := by decide +kernel
theorem d_M_settingTold_132 : decode prog_13_method_23_code 132 = .ok (.aload_n 0, 1) := by decide +kernel
theorem d_M_settingTold_133 : decode prog_13_method_23_code 133 = .ok (.getfield 115, 3) := by decide +kernel
theorem d_M_settingTold_136 : decode prog_13_method_23_code 136 = .ok (.bipush 6, 2) := by decide +kernel
theorem d_M_settingTold_138 : decode prog_13_method_23_code 138 = .ok (.iload_n 2, 1) := by decide +kernel
theorem d_M_settingTold_139 : decode prog_13_method_23_code 139 = .ok (.iastore, 1) := by decide +kernel
theorem d_M_settingTold_140 : decode prog_13_method_23_code 140 = .ok (.aload_n 0, 1) := by decide +kernel
theorem d_M_settingTold_141 : decode prog_13_method_23_code 141 = .ok (.getfield 115, 3) := by decide +kernel
theorem d_M_settingTold_144 : decode prog_13_method_23_code 144 = .ok (.bipush 7, 2) := by decide +kernel
theorem d_M_settingTold_146 : decode prog_13_method_23_code 146 = .ok (.iload_n 3, 1) := by decide +kernel
theorem d_M_settingTold_147 : decode prog_13_method_23_code 147 = .ok (.iastore, 1) := by decide +kernel
theorem d_M_settingTold_148 : decode prog_13_method_23_code 148 = .ok (.aload_n 0, 1) := by decide +kernel
theorem d_M_settingTold_149 : decode prog_13_method_23_code 149 = .ok (.getfield 115, 3) := by decide +kernel
theorem d_M_settingTold_152 : decode prog_13_method_23_code 152 = .ok (.bipush 8, 2) := by decide +kernel
theorem d_M_settingTold_154 : decode prog_13_method_23_code 154 = .ok (.iload 4, 2) := by decide +kernel
theorem d_M_settingTold_156 : decode prog_13_method_23_code 156 = .ok (.iastore, 1) := by decide +kernel
theorem d_M_settingTold_157 : decode prog_13_method_23_code 157 = .ok (.return_, 1) := by decide +kernel
theorem d_M_settingTold_158 : decode prog_13_method_23_code 158 = .ok (.aload_n 0, 1) := by decide +kernel
theorem d_M_settingTold_159 : decode prog_13_method_23_code 159 = .ok (.getfield 115, 3) := by decide +kernel
theorem d_M_settingTold_162 : decode prog_13_method_23_code 162 = .ok (.iload_n 1, 1) := by decide +kernel
theorem d_M_settingTold_163 : decode prog_13_method_23_code 163 = .ok (.aload_n 0, 1) := by decide +kernel
theorem d_M_settingTold_164 : decode prog_13_method_23_code 164 = .ok (.iload_n 1, 1) := by decide +kernel
theorem d_M_settingTold_165 : decode prog_13_method_23_code 165 = .ok (.iconst 3, 1) := by decide +kernel
theorem d_M_settingTold_166 : decode prog_13_method_23_code 166 = .ok (.if_icmp .eq 13, 3) := by decide +kernel
theorem d_M_settingTold_169 : decode prog_13_method_23_code 169 = .ok (.iload_n 1, 1) := by decide +kernel
theorem d_M_settingTold_170 : decode prog_13_method_23_code 170 = .ok (.iconst 4, 1) := by decide +kernel
theorem d_M_settingTold_171 : decode prog_13_method_23_code 171 = .ok (.if_icmp .eq 8, 3) := by decide +kernel
theorem d_M_settingTold_174 : decode prog_13_method_23_code 174 = .ok (.iload_n 1, 1) := by decide +kernel
theorem d_M_settingTold_175 : decode prog_13_method_23_code 175 = .ok (.iconst 5, 1) := by decide +kernel
theorem d_M_settingTold_176 : decode prog_13_method_23_code 176 = .ok (.if_icmp .ne 7, 3) := by decide +kernel
theorem d_M_settingTold_179 : decode prog_13_method_23_code 179 = .ok (.iconst 0, 1) := by decide +kernel
theorem d_M_settingTold_180 : decode prog_13_method_23_code 180 = .ok (.goto 4, 3) := by decide +kernel
theorem d_M_settingTold_183 : decode prog_13_method_23_code 183 = .ok (.iconst 1, 1) := by decide +kernel
theorem d_M_settingTold_184 : decode prog_13_method_23_code 184 = .ok (.iload_n 1, 1) := by decide +kernel
theorem d_M_settingTold_185 : decode prog_13_method_23_code 185 = .ok (.iconst 1, 1) := by decide +kernel
theorem d_M_settingTold_186 : decode prog_13_method_23_code 186 = .ok (.if_icmp .ne 8, 3) := by decide +kernel
theorem d_M_settingTold_189 : decode prog_13_method_23_code 189 = .ok (.bipush 9, 2) := by decide +kernel
theorem d_M_settingTold_191 : decode prog_13_method_23_code 191 = .ok (.goto 34, 3) := by decide +kernel
theorem d_M_settingTold_194 : decode prog_13_method_23_code 194 = .ok (.iload_n 1, 1) := by decide +kernel
theorem d_M_settingTold_195 : decode prog_13_method_23_code 195 = .ok (.iconst 2, 1) := by decide +kernel
theorem d_M_settingTold_196 : decode prog_13_method_23_code 196 = .ok (.if_icmp .ne 7, 3) := by decide +kernel
theorem d_M_settingTold_199 : decode prog_13_method_23_code 199 = .ok (.iconst 4, 1) := by decide +kernel
theorem d_M_settingTold_200 : decode prog_13_method_23_code 200 = .ok (.goto 25, 3) := by decide +kernel
theorem d_M_settingTold_203 : decode prog_13_method_23_code 203 = .ok (.iload_n 1, 1) := by decide +kernel
theorem d_M_settingTold_204 : decode prog_13_method_23_code 204 = .ok (.iconst 3, 1) := by decide +kernel
theorem d_M_settingTold_205 : decode prog_13_method_23_code 205 = .ok (.if_icmp .ne 8, 3) := by decide +kernel
theorem d_M_settingTold_208 : decode prog_13_method_23_code 208 = .ok (.bipush 90, 2) := by decide +kernel
theorem d_M_settingTold_210 : decode prog_13_method_23_code 210 = .ok (.goto 15, 3) := by decide +kernel
theorem d_M_settingTold_213 : decode prog_13_method_23_code 213 = .ok (.iload_n 1, 1) := by decide +kernel
theorem d_M_settingTold_214 : decode prog_13_method_23_code 214 = .ok (.iconst 5, 1) := by decide +kernel
theorem d_M_settingTold_215 : decode prog_13_method_23_code 215 = .ok (.if_icmp .ne 8, 3) := by decide +kernel
theorem d_M_settingTold_218 : decode prog_13_method_23_code 218 = .ok (.bipush 20, 2) := by decide +kernel
theorem d_M_settingTold_220 : decode prog_13_method_23_code 220 = .ok (.goto 5, 3) := by decide +kernel
theorem d_M_settingTold_223 : decode prog_13_method_23_code 223 = .ok (.bipush 99, 2) := by decide +kernel
theorem d_M_settingTold_225 : decode prog_13_method_23_code 225 = .ok (.invokevirtual 228, 3) := by decide +kernel
theorem d_M_settingTold_228 : decode prog_13_method_23_code 228 = .ok (.iastore, 1) := by decide +kernel
theorem d_M_settingTold_229 : decode prog_13_method_23_code 229 = .ok (.return_, 1) := by decide +kernel
theorem d_M_takesSign_0 : decode prog_13_method_12_code 0 = .ok (.aload_n 0, 1) := by decide +kernel
theorem d_M_takesSign_1 : decode prog_13_method_12_code 1 = .ok (.getfield 158, 3) := by decide +kernel
theorem d_M_takesSign_4 : decode prog_13_method_12_code 4 = .ok (.ifCond .ne 11, 3) := by decide +kernel
theorem d_M_takesSign_7 : decode prog_13_method_12_code 7 = .ok (.aload_n 0, 1) := by decide +kernel
theorem d_M_takesSign_8 : decode prog_13_method_12_code 8 = .ok (.invokevirtual 170, 3) := by decide +kernel
theorem d_M_takesSign_11 : decode prog_13_method_12_code 11 = .ok (.iload_n 1, 1) := by decide +kernel
theorem d_M_takesSign_12 : decode prog_13_method_12_code 12 = .ok (.if_icmp .eq 5, 3) := by decide +kernel
theorem d_M_takesSign_15 : decode prog_13_method_12_code 15 = .ok (.iconst 0, 1) := by decide +kernel
theorem d_M_takesSign_16 : decode prog_13_method_12_code 16 = .ok (.ireturn, 1) := by decide +kernel
theorem d_M_takesSign_17 : decode prog_13_method_12_code 17 = .ok (.aload_n 0, 1) := by decide +kernel
theorem d_M_takesSign_18 : decode prog_13_method_12_code 18 = .ok (.dup, 1) := by decide +kernel
theorem d_M_takesSign_19 : decode prog_13_method_12_code 19 = .ok (.getfield 164, 3) := by decide +kernel
theorem d_M_takesSign_22 : decode prog_13_method_12_code 22 = .ok (.iconst 1, 1) := by decide +kernel
theorem d_M_takesSign_23 : decode prog_13_method_12_code 23 = .ok (.iadd, 1) := by decide +kernel
theorem d_M_takesSign_24 : decode prog_13_method_12_code 24 = .ok (.putfield 164, 3) := by decide +kernel
theorem d_M_takesSign_27 : decode prog_13_method_12_code 27 = .ok (.iconst 1, 1) := by decide +kernel
theorem d_M_takesSign_28 : decode prog_13_method_12_code 28 = .ok (.ireturn, 1) := by decide +kernel
theorem d_M_asksSign_0 : decode prog_13_method_13_code 0 = .ok (.aload_n 0, 1) := by decide +kernel
theorem d_M_asksSign_1 : decode prog_13_method_13_code 1 = .ok (.getfield 158, 3) := by decide +kernel
theorem d_M_asksSign_4 : decode prog_13_method_13_code 4 = .ok (.ifCond .ne 20, 3) := by decide +kernel
theorem d_M_asksSign_7 : decode prog_13_method_13_code 7 = .ok (.aload_n 0, 1) := by decide +kernel
theorem d_M_asksSign_8 : decode prog_13_method_13_code 8 = .ok (.iload_n 1, 1) := by decide +kernel
theorem d_M_asksSign_9 : decode prog_13_method_13_code 9 = .ok (.invokevirtual 192, 3) := by decide +kernel
theorem d_M_asksSign_12 : decode prog_13_method_13_code 12 = .ok (.ifCond .ne 12, 3) := by decide +kernel
theorem d_M_asksSign_15 : decode prog_13_method_13_code 15 = .ok (.aload_n 0, 1) := by decide +kernel
theorem d_M_asksSign_16 : decode prog_13_method_13_code 16 = .ok (.iconst 1, 1) := by decide +kernel
theorem d_M_asksSign_17 : decode prog_13_method_13_code 17 = .ok (.aload_n 0, 1) := by decide +kernel
theorem d_M_asksSign_18 : decode prog_13_method_13_code 18 = .ok (.getfield 164, 3) := by decide +kernel
theorem d_M_asksSign_21 : decode prog_13_method_13_code 21 = .ok (.invokevirtual 188, 3) := by decide +kernel
theorem d_M_asksSign_24 : decode prog_13_method_13_code 24 = .ok (.return_, 1) := by decide +kernel
theorem d_M_isFull_0 : decode prog_13_method_17_code 0 = .ok (.aload_n 0, 1) := by decide +kernel
theorem d_M_isFull_1 : decode prog_13_method_17_code 1 = .ok (.getfield 158, 3) := by decide +kernel
theorem d_M_isFull_4 : decode prog_13_method_17_code 4 = .ok (.ifCond .ne 19, 3) := by decide +kernel
theorem d_M_isFull_7 : decode prog_13_method_17_code 7 = .ok (.aload_n 0, 1) := by decide +kernel
theorem d_M_isFull_8 : decode prog_13_method_17_code 8 = .ok (.getfield 102, 3) := by decide +kernel
theorem d_M_isFull_11 : decode prog_13_method_17_code 11 = .ok (.iload_n 1, 1) := by decide +kernel
theorem d_M_isFull_12 : decode prog_13_method_17_code 12 = .ok (.iaload, 1) := by decide +kernel
theorem d_M_isFull_13 : decode prog_13_method_17_code 13 = .ok (.iload_n 2, 1) := by decide +kernel
theorem d_M_isFull_14 : decode prog_13_method_17_code 14 = .ok (.if_icmp .ne 9, 3) := by decide +kernel
theorem d_M_isFull_17 : decode prog_13_method_17_code 17 = .ok (.aload_n 0, 1) := by decide +kernel
theorem d_M_isFull_18 : decode prog_13_method_17_code 18 = .ok (.iconst 5, 1) := by decide +kernel
theorem d_M_isFull_19 : decode prog_13_method_17_code 19 = .ok (.iload_n 3, 1) := by decide +kernel
theorem d_M_isFull_20 : decode prog_13_method_17_code 20 = .ok (.invokevirtual 188, 3) := by decide +kernel
theorem d_M_isFull_23 : decode prog_13_method_17_code 23 = .ok (.aload_n 0, 1) := by decide +kernel
theorem d_M_isFull_24 : decode prog_13_method_17_code 24 = .ok (.getfield 158, 3) := by decide +kernel
theorem d_M_isFull_27 : decode prog_13_method_17_code 27 = .ok (.ifCond .eq 7, 3) := by decide +kernel
theorem d_M_isFull_30 : decode prog_13_method_17_code 30 = .ok (.iconst 1, 1) := by decide +kernel
theorem d_M_isFull_31 : decode prog_13_method_17_code 31 = .ok (.goto 4, 3) := by decide +kernel
theorem d_M_isFull_34 : decode prog_13_method_17_code 34 = .ok (.iconst 0, 1) := by decide +kernel
theorem d_M_isFull_35 : decode prog_13_method_17_code 35 = .ok (.ireturn, 1) := by decide +kernel
theorem d_M_clears_0 : decode prog_13_method_21_code 0 = .ok (.aload_n 0, 1) := by decide +kernel
theorem d_M_clears_1 : decode prog_13_method_21_code 1 = .ok (.iconst 0, 1) := by decide +kernel
theorem d_M_clears_2 : decode prog_13_method_21_code 2 = .ok (.putfield 232, 3) := by decide +kernel
theorem d_M_clears_5 : decode prog_13_method_21_code 5 = .ok (.aload_n 0, 1) := by decide +kernel
theorem d_M_clears_6 : decode prog_13_method_21_code 6 = .ok (.iconst 0, 1) := by decide +kernel
theorem d_M_clears_7 : decode prog_13_method_21_code 7 = .ok (.putfield 235, 3) := by decide +kernel
theorem d_M_clears_10 : decode prog_13_method_21_code 10 = .ok (.aload_n 0, 1) := by decide +kernel
theorem d_M_clears_11 : decode prog_13_method_21_code 11 = .ok (.iconst 0, 1) := by decide +kernel
theorem d_M_clears_12 : decode prog_13_method_21_code 12 = .ok (.putfield 238, 3) := by decide +kernel
theorem d_M_clears_15 : decode prog_13_method_21_code 15 = .ok (.return_, 1) := by decide +kernel
theorem d_M_code_0 : decode prog_13_method_27_code 0 = .ok (.aload_n 0, 1) := by decide +kernel
theorem d_M_code_1 : decode prog_13_method_27_code 1 = .ok (.getfield 118, 3) := by decide +kernel
theorem d_M_code_4 : decode prog_13_method_27_code 4 = .ok (.iconst 0, 1) := by decide +kernel
theorem d_M_code_5 : decode prog_13_method_27_code 5 = .ok (.aload_n 0, 1) := by decide +kernel
theorem d_M_code_6 : decode prog_13_method_27_code 6 = .ok (.getfield 241, 3) := by decide +kernel
theorem d_M_code_9 : decode prog_13_method_27_code 9 = .ok (.iadd, 1) := by decide +kernel
theorem d_M_code_10 : decode prog_13_method_27_code 10 = .ok (.iload_n 1, 1) := by decide +kernel
theorem d_M_code_11 : decode prog_13_method_27_code 11 = .ok (.iastore, 1) := by decide +kernel
theorem d_M_code_12 : decode prog_13_method_27_code 12 = .ok (.aload_n 0, 1) := by decide +kernel
theorem d_M_code_13 : decode prog_13_method_27_code 13 = .ok (.dup, 1) := by decide +kernel
theorem d_M_code_14 : decode prog_13_method_27_code 14 = .ok (.getfield 241, 3) := by decide +kernel
theorem d_M_code_17 : decode prog_13_method_27_code 17 = .ok (.iconst 1, 1) := by decide +kernel
theorem d_M_code_18 : decode prog_13_method_27_code 18 = .ok (.iadd, 1) := by decide +kernel
theorem d_M_code_19 : decode prog_13_method_27_code 19 = .ok (.putfield 241, 3) := by decide +kernel
theorem d_M_code_22 : decode prog_13_method_27_code 22 = .ok (.return_, 1) := by decide +kernel
theorem d_M_drops_0 : decode prog_13_method_30_code 0 = .ok (.aload_n 0, 1) := by decide +kernel
theorem d_M_drops_1 : decode prog_13_method_30_code 1 = .ok (.dup, 1) := by decide +kernel
theorem d_M_drops_2 : decode prog_13_method_30_code 2 = .ok (.getfield 232, 3) := by decide +kernel
theorem d_M_drops_5 : decode prog_13_method_30_code 5 = .ok (.iconst 1, 1) := by decide +kernel
theorem d_M_drops_6 : decode prog_13_method_30_code 6 = .ok (.isub, 1) := by decide +kernel
theorem d_M_drops_7 : decode prog_13_method_30_code 7 = .ok (.putfield 232, 3) := by decide +kernel
theorem d_M_drops_10 : decode prog_13_method_30_code 10 = .ok (.aload_n 0, 1) := by decide +kernel
theorem d_M_drops_11 : decode prog_13_method_30_code 11 = .ok (.aload_n 0, 1) := by decide +kernel
theorem d_M_drops_12 : decode prog_13_method_30_code 12 = .ok (.getfield 121, 3) := by decide +kernel
theorem d_M_drops_15 : decode prog_13_method_30_code 15 = .ok (.aload_n 0, 1) := by decide +kernel
theorem d_M_drops_16 : decode prog_13_method_30_code 16 = .ok (.getfield 232, 3) := by decide +kernel
theorem d_M_drops_19 : decode prog_13_method_30_code 19 = .ok (.iaload, 1) := by decide +kernel
theorem d_M_drops_20 : decode prog_13_method_30_code 20 = .ok (.invokevirtual 284, 3) := by decide +kernel
theorem d_M_drops_23 : decode prog_13_method_30_code 23 = .ok (.return_, 1) := by decide +kernel
theorem d_M_opens_0 : decode prog_13_method_28_code 0 = .ok (.aload_n 0, 1) := by decide +kernel
theorem d_M_opens_1 : decode prog_13_method_28_code 1 = .ok (.getfield 235, 3) := by decide +kernel
theorem d_M_opens_4 : decode prog_13_method_28_code 4 = .ok (.bipush 6, 2) := by decide +kernel
theorem d_M_opens_6 : decode prog_13_method_28_code 6 = .ok (.if_icmp .ne 10, 3) := by decide +kernel
theorem d_M_opens_9 : decode prog_13_method_28_code 9 = .ok (.aload_n 0, 1) := by decide +kernel
theorem d_M_opens_10 : decode prog_13_method_28_code 10 = .ok (.iconst 4, 1) := by decide +kernel
theorem d_M_opens_11 : decode prog_13_method_28_code 11 = .ok (.iload_n 2, 1) := by decide +kernel
theorem d_M_opens_12 : decode prog_13_method_28_code 12 = .ok (.invokevirtual 188, 3) := by decide +kernel
theorem d_M_opens_15 : decode prog_13_method_28_code 15 = .ok (.return_, 1) := by decide +kernel
theorem d_M_opens_16 : decode prog_13_method_28_code 16 = .ok (.aload_n 0, 1) := by decide +kernel
theorem d_M_opens_17 : decode prog_13_method_28_code 17 = .ok (.dup, 1) := by decide +kernel
theorem d_M_opens_18 : decode prog_13_method_28_code 18 = .ok (.getfield 235, 3) := by decide +kernel
theorem d_M_opens_21 : decode prog_13_method_28_code 21 = .ok (.iconst 1, 1) := by decide +kernel
theorem d_M_opens_22 : decode prog_13_method_28_code 22 = .ok (.iadd, 1) := by decide +kernel
theorem d_M_opens_23 : decode prog_13_method_28_code 23 = .ok (.putfield 235, 3) := by decide +kernel
theorem d_M_opens_26 : decode prog_13_method_28_code 26 = .ok (.aload_n 0, 1) := by decide +kernel
theorem d_M_opens_27 : decode prog_13_method_28_code 27 = .ok (.getfield 121, 3) := by decide +kernel
theorem d_M_opens_30 : decode prog_13_method_28_code 30 = .ok (.aload_n 0, 1) := by decide +kernel
theorem d_M_opens_31 : decode prog_13_method_28_code 31 = .ok (.getfield 232, 3) := by decide +kernel
theorem d_M_opens_34 : decode prog_13_method_28_code 34 = .ok (.iload_n 1, 1) := by decide +kernel
theorem d_M_opens_35 : decode prog_13_method_28_code 35 = .ok (.iastore, 1) := by decide +kernel
theorem d_M_opens_36 : decode prog_13_method_28_code 36 = .ok (.aload_n 0, 1) := by decide +kernel
theorem d_M_opens_37 : decode prog_13_method_28_code 37 = .ok (.dup, 1) := by decide +kernel
theorem d_M_opens_38 : decode prog_13_method_28_code 38 = .ok (.getfield 232, 3) := by decide +kernel
theorem d_M_opens_41 : decode prog_13_method_28_code 41 = .ok (.iconst 1, 1) := by decide +kernel
theorem d_M_opens_42 : decode prog_13_method_28_code 42 = .ok (.iadd, 1) := by decide +kernel
theorem d_M_opens_43 : decode prog_13_method_28_code 43 = .ok (.putfield 232, 3) := by decide +kernel
theorem d_M_opens_46 : decode prog_13_method_28_code 46 = .ok (.return_, 1) := by decide +kernel
def f_M_feed_81 (k28 : Int32 → Int32 → Int32 → Int32 → Int32 → Int32 → St → Option (Int32 × St)) (x1 : Int32) (x2 : Int32) (x3 : Int32) (x4 : Int32) (x5 : Int32) (x6 : Int32) (t0 : Int32) (σ : St) : Option (Int32 × St) :=
  gd (inB (sI σ 0) 1600) <|
  lt (uA σ 0 (upd (sA σ 0) (sI σ 0).toNatClampNeg ((t0 >>> ((8 * (3 - (iR x6 4))) &&& 31)) &&& 255))) fun σ_2 =>
  lt (uI σ_2 0 ((sI σ_2 0) + 1)) fun σ_3 =>
  lt ((x6 + 1)) fun x_4 =>
  k28 x1 x2 x3 x4 x5 x_4 σ_3
def f_M_feed_28b (k28 : Int32 → Int32 → Int32 → Int32 → Int32 → Int32 → St → Option (Int32 × St)) (x1 : Int32) (x2 : Int32) (x3 : Int32) (x4 : Int32) (x5 : Int32) (x6 : Int32) (σ : St) : Option (Int32 × St) :=
  if 20 ≤ x6 then
    some ((sI σ 0), σ)
  else
    if 4 ≤ x6 then
      if 8 ≤ x6 then
        if 12 ≤ x6 then
          if 16 ≤ x6 then
            f_M_feed_81 k28 x1 x2 x3 x4 x5 x6 x5 σ
          else
            f_M_feed_81 k28 x1 x2 x3 x4 x5 x6 x4 σ
        else
          f_M_feed_81 k28 x1 x2 x3 x4 x5 x6 x3 σ
      else
        f_M_feed_81 k28 x1 x2 x3 x4 x5 x6 x2 σ
    else
      f_M_feed_81 k28 x1 x2 x3 x4 x5 x6 x1 σ
def f_M_feed_28 : Nat → Int32 → Int32 → Int32 → Int32 → Int32 → Int32 → St → Option (Int32 × St)
  | 0 => fun _ _ _ _ _ _ _ => none
  | n + 1 => f_M_feed_28b   (f_M_feed_28   n)
def f_M_feed (x1 : Int32) (x2 : Int32) (x3 : Int32) (x4 : Int32) (x5 : Int32) (σ : St) : Option (Int32 × St) :=
  if ((sI σ 0) + 20) ≤ 1600 then
    f_M_feed_28 FU x1 x2 x3 x4 x5 0 σ
  else
    lt (uA σ 1 (upd (sA σ 1) (0 : Int32).toNatClampNeg ((sA σ 1 (0 : Int32).toNatClampNeg) + 1))) fun σ_1 =>
    some ((-1), σ_1)
set_option maxHeartbeats 4000000 in
set_option maxRecDepth 20000 in
theorem t_M_feed_81 {r : Int32} {σ2 : St} (C : Cx g A p s m av meth c prog_13_method_3_code 8 "BellHammerModel" (some .int)) {k28 : Int32 → Int32 → Int32 → Int32 → Int32 → Int32 → St → Option (Int32 × St)} (hk28 : ∀ (x1 : Int32) (x2 : Int32) (x3 : Int32) (x4 : Int32) (x5 : Int32) (x6 : Int32) (σ : St) (H : Heap) (locs : List Loc) (ls : Array Slot), k28 x1 x2 x3 x4 x5 x6 σ = some (r, σ2) → Wd g (wM g q) A s σ H locs → lv_has ls 8 [(0, .ref (q 0)), (1, .int x1), (2, .int x2), (3, .int x3), (4, .int x4), (5, .int x5), (6, .int x6)] → WK p l e s m av below meth c 0 g (wM g q) A (some (.int r)) σ2 H locs (F0 m 28 ls []))  {x1 : Int32} {x2 : Int32} {x3 : Int32} {x4 : Int32} {x5 : Int32} {x6 : Int32} {t0 : Int32} {σ : St} {H : Heap} {locs : List Loc} {ls : Array Slot} (hf : f_M_feed_81  k28 x1 x2 x3 x4 x5 x6 t0 σ = some (r, σ2)) (w : Wd g (wM g q) A s σ H locs) (hl : lv_has ls 8 [(0, .ref (q 0)), (1, .int x1), (2, .int x2), (3, .int x3), (4, .int x4), (5, .int x5), (6, .int x6)]) : WK p l e s m av below meth c 0 g (wM g q) A (some (.int r)) σ2 H locs (F0 m 81 ls [.int t0]) := by
  obtain ⟨hx, hb, hml, hown, hts, hK, hA, hZ, hlocks, hr, hN⟩ := id C
  unfold f_M_feed_81 at hf
  refine lv_istore (lv' := [(7, .int t0), (0, .ref (q 0)), (1, .int x1), (2, .int x2), (3, .int x3), (4, .int x4), (5, .int x5), (6, .int x6)]) hx hb d_M_feed_81 hl (by decide) rfl (fun ls hl => ?_)
  refine lv_aload_n hx hb d_M_feed_83 rfl (lv_at hl 1 rfl) ?_
  refine mg_0_tape C w k1094 d_M_feed_84 ?_
  refine lv_aload_n hx hb d_M_feed_87 rfl (lv_at hl 1 rfl) ?_
  refine mg_0_taped C w k1095 d_M_feed_88 ?_
  refine lv_iload hx hb d_M_feed_91 (lv_at hl 0 rfl) ?_
  refine lv_bipush (v := 8) hx hb d_M_feed_93 (by decide) ?_
  refine lv_iconst (v := 3) hx hb d_M_feed_95 (by decide) ?_
  refine lv_iload hx hb d_M_feed_96 (lv_at hl 7 rfl) ?_
  refine lv_iconst (v := 4) hx hb d_M_feed_98 (by decide) ?_
  refine r_irem hx hb d_M_feed_99 (by decide) ?_
  refine lv_isub hx hb d_M_feed_100 ?_
  refine lv_imul hx hb d_M_feed_101 ?_
  refine lv_ishr hx hb d_M_feed_102 ?_
  refine lv_sipush (v := 255) hx hb d_M_feed_103 (by decide) ?_
  refine lv_iand hx hb d_M_feed_106 ?_
  obtain ⟨g_1, hf⟩ := gd_e hf
  refine ms_28 C w g_1 d_M_feed_107 (fun σ_2 H locs eσ_2 w => ?_)
  have hf := lt_e eσ_2 hf
  refine lv_aload_n hx hb d_M_feed_108 rfl (lv_at hl 1 rfl) ?_
  refine lv_dup hx hb d_M_feed_109 rfl ?_
  refine mg_0_taped C w k1095 d_M_feed_110 ?_
  refine lv_iconst (v := 1) hx hb d_M_feed_113 (by decide) ?_
  refine lv_iadd hx hb d_M_feed_114 ?_
  refine mp_0_taped C w k1095 d_M_feed_115 (fun σ_3 H locs eσ_3 w => ?_)
  have hf := lt_e eσ_3 hf
  obtain ⟨x_4, ex_4⟩ : ∃ y : Int32, y = (x6 + 1) := ⟨_, rfl⟩
  have hf := lt_e ex_4 hf
  refine lv_iinc (v := x_4) (lv' := [(6, .int x_4), (7, .int t0), (0, .ref (q 0)), (1, .int x1), (2, .int x2), (3, .int x3), (4, .int x4), (5, .int x5)]) hx hb d_M_feed_118 hl (k := 7) rfl (by rw [ex_4]; rfl) (by decide) rfl (fun ls hl => ?_)
  refine lv_goto (tgt := 28) hx hb d_M_feed_121 (by decide) ?_
  exact hk28 x1 x2 x3 x4 x5 x_4 σ_3 _ _ _ hf w (lv_sub hl [2, 3, 4, 5, 6, 7, 0] rfl)
set_option maxHeartbeats 4000000 in
set_option maxRecDepth 20000 in
theorem t_M_feed_28b {r : Int32} {σ2 : St} (C : Cx g A p s m av meth c prog_13_method_3_code 8 "BellHammerModel" (some .int)) {k28 : Int32 → Int32 → Int32 → Int32 → Int32 → Int32 → St → Option (Int32 × St)} (hk28 : ∀ (x1 : Int32) (x2 : Int32) (x3 : Int32) (x4 : Int32) (x5 : Int32) (x6 : Int32) (σ : St) (H : Heap) (locs : List Loc) (ls : Array Slot), k28 x1 x2 x3 x4 x5 x6 σ = some (r, σ2) → Wd g (wM g q) A s σ H locs → lv_has ls 8 [(0, .ref (q 0)), (1, .int x1), (2, .int x2), (3, .int x3), (4, .int x4), (5, .int x5), (6, .int x6)] → WK p l e s m av below meth c 0 g (wM g q) A (some (.int r)) σ2 H locs (F0 m 28 ls []))  {x1 : Int32} {x2 : Int32} {x3 : Int32} {x4 : Int32} {x5 : Int32} {x6 : Int32} {σ : St} {H : Heap} {locs : List Loc} {ls : Array Slot} (hf : f_M_feed_28b  k28 x1 x2 x3 x4 x5 x6 σ = some (r, σ2)) (w : Wd g (wM g q) A s σ H locs) (hl : lv_has ls 8 [(0, .ref (q 0)), (1, .int x1), (2, .int x2), (3, .int x3), (4, .int x4), (5, .int x5), (6, .int x6)]) : WK p l e s m av below meth c 0 g (wM g q) A (some (.int r)) σ2 H locs (F0 m 28 ls []) := by
  obtain ⟨hx, hb, hml, hown, hts, hK, hA, hZ, hlocks, hr, hN⟩ := id C
  unfold f_M_feed_28b at hf
  refine lv_iload hx hb d_M_feed_28 (lv_at hl 6 rfl) ?_
  refine lv_bipush (v := 20) hx hb d_M_feed_30 (by decide) ?_
  refine lv_icmp_ge (tgt := 124) hx hb d_M_feed_32 (by decide) (fun cd => ?_) (fun cd => ?_)
  · have hf := it_e cd hf
    refine lv_aload_n hx hb d_M_feed_124 rfl (lv_at hl 0 rfl) ?_
    refine mg_0_taped C w k1095 d_M_feed_125 ?_
    obtain ⟨rfl, rfl⟩ := some2_e hf
    exact k_iret C w d_M_feed_128
  · have hf := if_e cd hf
    refine lv_iload hx hb d_M_feed_35 (lv_at hl 6 rfl) ?_
    refine lv_iconst (v := 4) hx hb d_M_feed_37 (by decide) ?_
    refine lv_icmp_ge (tgt := 45) hx hb d_M_feed_38 (by decide) (fun cd => ?_) (fun cd => ?_)
    · have hf := it_e cd hf
      refine lv_iload hx hb d_M_feed_45 (lv_at hl 6 rfl) ?_
      refine lv_bipush (v := 8) hx hb d_M_feed_47 (by decide) ?_
      refine lv_icmp_ge (tgt := 56) hx hb d_M_feed_49 (by decide) (fun cd => ?_) (fun cd => ?_)
      · have hf := it_e cd hf
        refine lv_iload hx hb d_M_feed_56 (lv_at hl 6 rfl) ?_
        refine lv_bipush (v := 12) hx hb d_M_feed_58 (by decide) ?_
        refine lv_icmp_ge (tgt := 67) hx hb d_M_feed_60 (by decide) (fun cd => ?_) (fun cd => ?_)
        · have hf := it_e cd hf
          refine lv_iload hx hb d_M_feed_67 (lv_at hl 6 rfl) ?_
          refine lv_bipush (v := 16) hx hb d_M_feed_69 (by decide) ?_
          refine lv_icmp_ge (tgt := 79) hx hb d_M_feed_71 (by decide) (fun cd => ?_) (fun cd => ?_)
          · have hf := it_e cd hf
            refine lv_iload hx hb d_M_feed_79 (lv_at hl 5 rfl) ?_
            exact t_M_feed_81 C hk28 hf w (lv_sub hl [0, 1, 2, 3, 4, 5, 6] rfl)
          · have hf := if_e cd hf
            refine lv_iload hx hb d_M_feed_74 (lv_at hl 4 rfl) ?_
            refine lv_goto (tgt := 81) hx hb d_M_feed_76 (by decide) ?_
            exact t_M_feed_81 C hk28 hf w (lv_sub hl [0, 1, 2, 3, 4, 5, 6] rfl)
        · have hf := if_e cd hf
          refine lv_iload_n hx hb d_M_feed_63 rfl (lv_at hl 3 rfl) ?_
          refine lv_goto (tgt := 81) hx hb d_M_feed_64 (by decide) ?_
          exact t_M_feed_81 C hk28 hf w (lv_sub hl [0, 1, 2, 3, 4, 5, 6] rfl)
      · have hf := if_e cd hf
        refine lv_iload_n hx hb d_M_feed_52 rfl (lv_at hl 2 rfl) ?_
        refine lv_goto (tgt := 81) hx hb d_M_feed_53 (by decide) ?_
        exact t_M_feed_81 C hk28 hf w (lv_sub hl [0, 1, 2, 3, 4, 5, 6] rfl)
    · have hf := if_e cd hf
      refine lv_iload_n hx hb d_M_feed_41 rfl (lv_at hl 1 rfl) ?_
      refine lv_goto (tgt := 81) hx hb d_M_feed_42 (by decide) ?_
      exact t_M_feed_81 C hk28 hf w (lv_sub hl [0, 1, 2, 3, 4, 5, 6] rfl)
set_option maxHeartbeats 4000000 in
set_option maxRecDepth 20000 in
theorem t_M_feed_28 {r : Int32} {σ2 : St} (C : Cx g A p s m av meth c prog_13_method_3_code 8 "BellHammerModel" (some .int))  : ∀ (n : Nat) (x1 : Int32) (x2 : Int32) (x3 : Int32) (x4 : Int32) (x5 : Int32) (x6 : Int32) (σ : St) (H : Heap) (locs : List Loc) (ls : Array Slot), f_M_feed_28   n x1 x2 x3 x4 x5 x6 σ = some (r, σ2) → Wd g (wM g q) A s σ H locs → lv_has ls 8 [(0, .ref (q 0)), (1, .int x1), (2, .int x2), (3, .int x3), (4, .int x4), (5, .int x5), (6, .int x6)] → WK p l e s m av below meth c 0 g (wM g q) A (some (.int r)) σ2 H locs (F0 m 28 ls []) := by
  intro n
  induction n with
  | zero => intro x1 x2 x3 x4 x5 x6 σ H locs ls hf; exact absurd hf (by intro z; cases z)
  | succ n ih => intro x1 x2 x3 x4 x5 x6 σ H locs ls hf w hl; exact t_M_feed_28b C  ih hf w hl
set_option maxHeartbeats 4000000 in
set_option maxRecDepth 20000 in
theorem c_M_feed {l : Launch} {g : GX} {q : Nat → Nat} {x1 : Int32} {x2 : Int32} {x3 : Int32} {x4 : Int32} {x5 : Int32}  {σ : St} {r : Int32} {σ2 : St} (hf : f_M_feed  x1 x2 x3 x4 x5 σ = some (r, σ2)) : KK l y_M_feed prog_13_method_3_code 8 (some .int) 0 g (wM g q) σ [.ref (q 0), .int x1, .int x2, .int x3, .int x4, .int x5] (some (.int r)) (wM g q) σ2 := by
  refine KK_of (plainFor_of_name (by decide)) (Nat.le_of_ble_eq_true rfl) (fun p e s m below meth c A ls C w hl => ?_)
  have hl : lv_has ls 8 [(0, .ref (q 0)), (1, .int x1), (2, .int x2), (3, .int x3), (4, .int x4), (5, .int x5)] := hl
  obtain ⟨hx, hb, hml, hown, hts, hK, hA, hZ, hlocks, hr, hN⟩ := id C
  unfold f_M_feed at hf
  refine lv_aload_n hx hb d_M_feed_0 rfl (lv_at hl 0 rfl) ?_
  refine mg_0_taped C w k1095 d_M_feed_1 ?_
  refine lv_bipush (v := 20) hx hb d_M_feed_4 (by decide) ?_
  refine lv_iadd hx hb d_M_feed_6 ?_
  refine lv_sipush (v := 1600) hx hb d_M_feed_7 (by decide) ?_
  refine lv_icmp_le (tgt := 25) hx hb d_M_feed_10 (by decide) (fun cd => ?_) (fun cd => ?_)
  · have hf := it_e cd hf
    refine lv_iconst (v := 0) hx hb d_M_feed_25 (by decide) ?_
    refine lv_istore (lv' := [(6, .int 0), (0, .ref (q 0)), (1, .int x1), (2, .int x2), (3, .int x3), (4, .int x4), (5, .int x5)]) hx hb d_M_feed_26 hl (by decide) rfl (fun ls hl => ?_)
    exact t_M_feed_28 C  FU x1 x2 x3 x4 x5 0 σ _ _ _ hf w (lv_sub hl [1, 2, 3, 4, 5, 6, 0] rfl)
  · have hf := if_e cd hf
    refine lv_aload_n hx hb d_M_feed_13 rfl (lv_at hl 0 rfl) ?_
    refine mg_0_refused C w k1103 d_M_feed_14 ?_
    refine lv_iconst (v := 0) hx hb d_M_feed_17 (by decide) ?_
    refine lv_dup2_11 hx hb d_M_feed_18 rfl rfl ?_
    refine ml_29 C w (by decide) d_M_feed_19 ?_
    refine lv_iconst (v := 1) hx hb d_M_feed_20 (by decide) ?_
    refine lv_iadd hx hb d_M_feed_21 ?_
    refine ms_29 C w (by decide) d_M_feed_22 (fun σ_1 H locs eσ_1 w => ?_)
    have hf := lt_e eσ_1 hf
    refine lv_iconst (v := (-1)) hx hb d_M_feed_23 (by decide) ?_
    obtain ⟨rfl, rfl⟩ := some2_e hf
    exact k_iret C w d_M_feed_24
def f_M_end_12 (σ : St) : Option (Int32 × St) :=
  lt (uA σ 1 (upd (sA σ 1) (0 : Int32).toNatClampNeg ((sA σ 1 (0 : Int32).toNatClampNeg) + 1))) fun σ_1 =>
  some (0, σ_1)
def f_M_end (x1 : Int32) (σ : St) : Option (Int32 × St) :=
  if x1 < 0 then
    f_M_end_12 σ
  else
    if x1 ≤ (sI σ 0) then
      lt (uI σ 0 x1) fun σ_1 =>
      some (1, σ_1)
    else
      f_M_end_12 σ
set_option maxHeartbeats 4000000 in
set_option maxRecDepth 20000 in
theorem t_M_end_12 {r : Int32} {σ2 : St} (C : Cx g A p s m av meth c prog_13_method_4_code 2 "BellHammerModel" (some .boolean))  {σ : St} {H : Heap} {locs : List Loc} {ls : Array Slot} (hf : f_M_end_12    σ = some (r, σ2)) (w : Wd g (wM g q) A s σ H locs) (hl : lv_has ls 2 [(0, .ref (q 0))]) : WK p l e s m av below meth c 0 g (wM g q) A (some (.int r)) σ2 H locs (F0 m 12 ls []) := by
  obtain ⟨hx, hb, hml, hown, hts, hK, hA, hZ, hlocks, hr, hN⟩ := id C
  unfold f_M_end_12 at hf
  refine lv_aload_n hx hb d_M_end_12 rfl (lv_at hl 0 rfl) ?_
  refine mg_0_refused C w k1103 d_M_end_13 ?_
  refine lv_iconst (v := 0) hx hb d_M_end_16 (by decide) ?_
  refine lv_dup2_11 hx hb d_M_end_17 rfl rfl ?_
  refine ml_29 C w (by decide) d_M_end_18 ?_
  refine lv_iconst (v := 1) hx hb d_M_end_19 (by decide) ?_
  refine lv_iadd hx hb d_M_end_20 ?_
  refine ms_29 C w (by decide) d_M_end_21 (fun σ_1 H locs eσ_1 w => ?_)
  have hf := lt_e eσ_1 hf
  refine lv_iconst (v := 0) hx hb d_M_end_22 (by decide) ?_
  obtain ⟨rfl, rfl⟩ := some2_e hf
  exact k_zret C w (by decide) d_M_end_23
set_option maxHeartbeats 4000000 in
set_option maxRecDepth 20000 in
theorem c_M_end {l : Launch} {g : GX} {q : Nat → Nat} {x1 : Int32}  {σ : St} {r : Int32} {σ2 : St} (hf : f_M_end  x1 σ = some (r, σ2)) : KK l y_M_end prog_13_method_4_code 2 (some .boolean) 0 g (wM g q) σ [.ref (q 0), .int x1] (some (.int r)) (wM g q) σ2 := by
  refine KK_of (plainFor_of_name (by decide)) (Nat.le_of_ble_eq_true rfl) (fun p e s m below meth c A ls C w hl => ?_)
  have hl : lv_has ls 2 [(0, .ref (q 0)), (1, .int x1)] := hl
  obtain ⟨hx, hb, hml, hown, hts, hK, hA, hZ, hlocks, hr, hN⟩ := id C
  unfold f_M_end at hf
  refine lv_iload_n hx hb d_M_end_0 rfl (lv_at hl 1 rfl) ?_
  refine lv_if_lt (tgt := 12) hx hb d_M_end_1 (by decide) (fun cd => ?_) (fun cd => ?_)
  · have hf := it_e cd hf
    exact t_M_end_12 C  hf w (lv_sub hl [0] rfl)
  · have hf := if_e cd hf
    refine lv_iload_n hx hb d_M_end_4 rfl (lv_at hl 1 rfl) ?_
    refine lv_aload_n hx hb d_M_end_5 rfl (lv_at hl 0 rfl) ?_
    refine mg_0_taped C w k1095 d_M_end_6 ?_
    refine lv_icmp_le (tgt := 24) hx hb d_M_end_9 (by decide) (fun cd => ?_) (fun cd => ?_)
    · have hf := it_e cd hf
      refine lv_aload_n hx hb d_M_end_24 rfl (lv_at hl 0 rfl) ?_
      refine lv_iload_n hx hb d_M_end_25 rfl (lv_at hl 1 rfl) ?_
      refine mp_0_taped C w k1095 d_M_end_26 (fun σ_1 H locs eσ_1 w => ?_)
      have hf := lt_e eσ_1 hf
      refine lv_iconst (v := 1) hx hb d_M_end_29 (by decide) ?_
      obtain ⟨rfl, rfl⟩ := some2_e hf
      exact k_zret C w (by decide) d_M_end_30
    · have hf := if_e cd hf
      exact t_M_end_12 C  hf w (lv_sub hl [0] rfl)
def f_M_stands_207b (k207 : Int32 → St → Option (St)) (x1 : Int32) (σ : St) : Option (St) :=
  if 7 ≤ x1 then
    lt (uA σ 11 (upd (sA σ 11) (2 : Int32).toNatClampNeg ((1 <<< ((sA σ 2 (2 : Int32).toNatClampNeg) &&& 31)) - 1))) fun σ_1 =>
    lt (uA σ_1 11 (upd (sA σ_1 11) (3 : Int32).toNatClampNeg (sA σ_1 5 (0 : Int32).toNatClampNeg))) fun σ_2 =>
    lt (uA σ_2 11 (upd (sA σ_2 11) (4 : Int32).toNatClampNeg (sA σ_2 5 (3 : Int32).toNatClampNeg))) fun σ_3 =>
    lt (uA σ_3 11 (upd (sA σ_3 11) (5 : Int32).toNatClampNeg (sA σ_3 5 (1 : Int32).toNatClampNeg))) fun σ_4 =>
    lt (uI σ_4 26 0) fun σ_5 =>
    lt (uI σ_5 28 0) fun σ_6 =>
    some σ_6
  else
    gd (inB x1 10) <|
    lt (uA σ 11 (upd (sA σ 11) x1.toNatClampNeg 0)) fun σ_8 =>
    lt ((x1 + 1)) fun x_9 =>
    k207 x_9 σ_8
def f_M_stands_207 : Nat → Int32 → St → Option (St)
  | 0 => fun _ _ => none
  | n + 1 => f_M_stands_207b   (f_M_stands_207   n)
def f_M_stands_175b (k175 : Int32 → St → Option (St)) (x1 : Int32) (σ : St) : Option (St) :=
  if (sI σ 10) ≤ x1 then
    f_M_stands_207 FU 0 σ
  else
    gd (inB x1 3200) <|
    gd (inB (1600 + x1) 3200) <|
    lt (uA σ 6 (upd (sA σ 6) (1600 + x1).toNatClampNeg (sA σ 6 x1.toNatClampNeg))) fun σ_3 =>
    lt ((x1 + 1)) fun x_4 =>
    k175 x_4 σ_3
def f_M_stands_175 : Nat → Int32 → St → Option (St)
  | 0 => fun _ _ => none
  | n + 1 => f_M_stands_175b   (f_M_stands_175   n)
def f_M_stands_146b (k146 : Int32 → St → Option (St)) (x1 : Int32) (σ : St) : Option (St) :=
  if 9 ≤ x1 then
    f_M_stands_175 FU 0 σ
  else
    gd (inB x1 18) <|
    gd (inB (9 + x1) 18) <|
    lt (uA σ 5 (upd (sA σ 5) (9 + x1).toNatClampNeg (sA σ 5 x1.toNatClampNeg))) fun σ_3 =>
    lt ((x1 + 1)) fun x_4 =>
    k146 x_4 σ_3
def f_M_stands_146 : Nat → Int32 → St → Option (St)
  | 0 => fun _ _ => none
  | n + 1 => f_M_stands_146b   (f_M_stands_146   n)
def f_M_stands_117b (k117 : Int32 → St → Option (St)) (x1 : Int32) (σ : St) : Option (St) :=
  if 48 ≤ x1 then
    f_M_stands_146 FU 0 σ
  else
    gd (inB x1 96) <|
    gd (inB (48 + x1) 96) <|
    lt (uA σ 4 (upd (sA σ 4) (48 + x1).toNatClampNeg (sA σ 4 x1.toNatClampNeg))) fun σ_3 =>
    lt ((x1 + 1)) fun x_4 =>
    k117 x_4 σ_3
def f_M_stands_117 : Nat → Int32 → St → Option (St)
  | 0 => fun _ _ => none
  | n + 1 => f_M_stands_117b   (f_M_stands_117   n)
def f_M_stands_58b (k58 : Int32 → St → Option (St)) (x1 : Int32) (σ : St) : Option (St) :=
  if 6 ≤ x1 then
    f_M_stands_117 FU 0 σ
  else
    gd (inB x1 12) <|
    gd (inB (6 + x1) 12) <|
    lt (uA σ 3 (upd (sA σ 3) (6 + x1).toNatClampNeg (sA σ 3 x1.toNatClampNeg))) fun σ_3 =>
    gd (inB x1 12) <|
    gd (inB (6 + x1) 12) <|
    lt (uA σ_3 8 (upd (sA σ_3 8) (6 + x1).toNatClampNeg (sA σ_3 8 x1.toNatClampNeg))) fun σ_6 =>
    gd (inB x1 12) <|
    gd (inB (6 + x1) 12) <|
    lt (uA σ_6 9 (upd (sA σ_6 9) (6 + x1).toNatClampNeg (sA σ_6 9 x1.toNatClampNeg))) fun σ_9 =>
    lt ((x1 + 1)) fun x_10 =>
    k58 x_10 σ_9
def f_M_stands_58 : Nat → Int32 → St → Option (St)
  | 0 => fun _ _ => none
  | n + 1 => f_M_stands_58b   (f_M_stands_58   n)
def f_M_stands_29b (k29 : Int32 → St → Option (St)) (x1 : Int32) (σ : St) : Option (St) :=
  if 16 ≤ x1 then
    f_M_stands_58 FU 0 σ
  else
    gd (inB x1 32) <|
    gd (inB (16 + x1) 32) <|
    lt (uB σ 0 (vp_updL (sB σ 0) (16 + x1).toNatClampNeg (sB σ 0 x1.toNatClampNeg))) fun σ_3 =>
    lt ((x1 + 1)) fun x_4 =>
    k29 x_4 σ_3
def f_M_stands_29 : Nat → Int32 → St → Option (St)
  | 0 => fun _ _ => none
  | n + 1 => f_M_stands_29b   (f_M_stands_29   n)
def f_M_stands_2b (k2 : Int32 → St → Option (St)) (x1 : Int32) (σ : St) : Option (St) :=
  if 3 ≤ x1 then
    f_M_stands_29 FU 0 σ
  else
    gd (inB x1 6) <|
    gd (inB (3 + x1) 6) <|
    lt (uA σ 2 (upd (sA σ 2) (3 + x1).toNatClampNeg (sA σ 2 x1.toNatClampNeg))) fun σ_3 =>
    lt ((x1 + 1)) fun x_4 =>
    k2 x_4 σ_3
def f_M_stands_2 : Nat → Int32 → St → Option (St)
  | 0 => fun _ _ => none
  | n + 1 => f_M_stands_2b   (f_M_stands_2   n)
def f_M_stands (σ : St) : Option (St) :=
  f_M_stands_2 FU 0 σ
set_option maxHeartbeats 4000000 in
set_option maxRecDepth 20000 in
theorem t_M_stands_207b {σ2 : St} (C : Cx g A p s m av meth c prog_13_method_26_code 2 "BellHammerModel" none) {k207 : Int32 → St → Option (St)} (hk207 : ∀ (x1 : Int32) (σ : St) (H : Heap) (locs : List Loc) (ls : Array Slot), k207 x1 σ = some σ2 → Wd g (wM g q) A s σ H locs → lv_has ls 2 [(0, .ref (q 0)), (1, .int x1)] → WK p l e s m av below meth c 0 g (wM g q) A none σ2 H locs (F0 m 207 ls []))  {x1 : Int32} {σ : St} {H : Heap} {locs : List Loc} {ls : Array Slot} (hf : f_M_stands_207b  k207 x1 σ = some σ2) (w : Wd g (wM g q) A s σ H locs) (hl : lv_has ls 2 [(0, .ref (q 0)), (1, .int x1)]) : WK p l e s m av below meth c 0 g (wM g q) A none σ2 H locs (F0 m 207 ls []) := by
  obtain ⟨hx, hb, hml, hown, hts, hK, hA, hZ, hlocks, hr, hN⟩ := id C
  unfold f_M_stands_207b at hf
  refine lv_iload_n hx hb d_M_stands_207 rfl (lv_at hl 1 rfl) ?_
  refine lv_bipush (v := 7) hx hb d_M_stands_208 (by decide) ?_
  refine lv_icmp_ge (tgt := 226) hx hb d_M_stands_210 (by decide) (fun cd => ?_) (fun cd => ?_)
  · have hf := it_e cd hf
    refine lv_aload_n hx hb d_M_stands_226 rfl (lv_at hl 0 rfl) ?_
    refine mg_0_now C w k1149 d_M_stands_227 ?_
    refine lv_iconst (v := 2) hx hb d_M_stands_230 (by decide) ?_
    refine lv_iconst (v := 1) hx hb d_M_stands_231 (by decide) ?_
    refine lv_aload_n hx hb d_M_stands_232 rfl (lv_at hl 0 rfl) ?_
    refine mg_0_many C w k1132 d_M_stands_233 ?_
    refine lv_iconst (v := 2) hx hb d_M_stands_236 (by decide) ?_
    refine ml_30 C w (by decide) d_M_stands_237 ?_
    refine lv_ishl hx hb d_M_stands_238 ?_
    refine lv_iconst (v := 1) hx hb d_M_stands_239 (by decide) ?_
    refine lv_isub hx hb d_M_stands_240 ?_
    refine ms_41 C w (by decide) d_M_stands_241 (fun σ_1 H locs eσ_1 w => ?_)
    have hf := lt_e eσ_1 hf
    refine lv_aload_n hx hb d_M_stands_242 rfl (lv_at hl 0 rfl) ?_
    refine mg_0_now C w k1149 d_M_stands_243 ?_
    refine lv_iconst (v := 3) hx hb d_M_stands_246 (by decide) ?_
    refine lv_aload_n hx hb d_M_stands_247 rfl (lv_at hl 0 rfl) ?_
    refine mg_0_told C w k1136 d_M_stands_248 ?_
    refine lv_iconst (v := 0) hx hb d_M_stands_251 (by decide) ?_
    refine ml_34 C w (by decide) d_M_stands_252 ?_
    refine ms_41 C w (by decide) d_M_stands_253 (fun σ_2 H locs eσ_2 w => ?_)
    have hf := lt_e eσ_2 hf
    refine lv_aload_n hx hb d_M_stands_254 rfl (lv_at hl 0 rfl) ?_
    refine mg_0_now C w k1149 d_M_stands_255 ?_
    refine lv_iconst (v := 4) hx hb d_M_stands_258 (by decide) ?_
    refine lv_aload_n hx hb d_M_stands_259 rfl (lv_at hl 0 rfl) ?_
    refine mg_0_told C w k1136 d_M_stands_260 ?_
    refine lv_iconst (v := 3) hx hb d_M_stands_263 (by decide) ?_
    refine ml_34 C w (by decide) d_M_stands_264 ?_
    refine ms_41 C w (by decide) d_M_stands_265 (fun σ_3 H locs eσ_3 w => ?_)
    have hf := lt_e eσ_3 hf
    refine lv_aload_n hx hb d_M_stands_266 rfl (lv_at hl 0 rfl) ?_
    refine mg_0_now C w k1149 d_M_stands_267 ?_
    refine lv_iconst (v := 5) hx hb d_M_stands_270 (by decide) ?_
    refine lv_aload_n hx hb d_M_stands_271 rfl (lv_at hl 0 rfl) ?_
    refine mg_0_told C w k1136 d_M_stands_272 ?_
    refine lv_iconst (v := 1) hx hb d_M_stands_275 (by decide) ?_
    refine ml_34 C w (by decide) d_M_stands_276 ?_
    refine ms_41 C w (by decide) d_M_stands_277 (fun σ_4 H locs eσ_4 w => ?_)
    have hf := lt_e eσ_4 hf
    refine lv_aload_n hx hb d_M_stands_278 rfl (lv_at hl 0 rfl) ?_
    refine lv_iconst (v := 0) hx hb d_M_stands_279 (by decide) ?_
    refine mp_0_undoable C w k1168 d_M_stands_280 (fun σ_5 H locs eσ_5 w => ?_)
    have hf := lt_e eσ_5 hf
    refine lv_aload_n hx hb d_M_stands_283 rfl (lv_at hl 0 rfl) ?_
    refine lv_iconst (v := 0) hx hb d_M_stands_284 (by decide) ?_
    refine mp_0_seenMany C w k1171 d_M_stands_285 (fun σ_6 H locs eσ_6 w => ?_)
    have hf := lt_e eσ_6 hf
    cases some_e hf
    exact k_vret C w d_M_stands_288
  · have hf := if_e cd hf
    refine lv_aload_n hx hb d_M_stands_213 rfl (lv_at hl 0 rfl) ?_
    refine mg_0_now C w k1149 d_M_stands_214 ?_
    refine lv_iload_n hx hb d_M_stands_217 rfl (lv_at hl 1 rfl) ?_
    refine lv_iconst (v := 0) hx hb d_M_stands_218 (by decide) ?_
    obtain ⟨g_7, hf⟩ := gd_e hf
    refine ms_41 C w g_7 d_M_stands_219 (fun σ_8 H locs eσ_8 w => ?_)
    have hf := lt_e eσ_8 hf
    obtain ⟨x_9, ex_9⟩ : ∃ y : Int32, y = (x1 + 1) := ⟨_, rfl⟩
    have hf := lt_e ex_9 hf
    refine lv_iinc (v := x_9) (lv' := [(1, .int x_9), (0, .ref (q 0))]) hx hb d_M_stands_220 hl (k := 1) rfl (by rw [ex_9]; rfl) (by decide) rfl (fun ls hl => ?_)
    refine lv_goto (tgt := 207) hx hb d_M_stands_223 (by decide) ?_
    exact hk207 x_9 σ_8 _ _ _ hf w (lv_sub hl [1, 0] rfl)
set_option maxHeartbeats 4000000 in
set_option maxRecDepth 20000 in
theorem t_M_stands_207 {σ2 : St} (C : Cx g A p s m av meth c prog_13_method_26_code 2 "BellHammerModel" none)  : ∀ (n : Nat) (x1 : Int32) (σ : St) (H : Heap) (locs : List Loc) (ls : Array Slot), f_M_stands_207   n x1 σ = some σ2 → Wd g (wM g q) A s σ H locs → lv_has ls 2 [(0, .ref (q 0)), (1, .int x1)] → WK p l e s m av below meth c 0 g (wM g q) A none σ2 H locs (F0 m 207 ls []) := by
  intro n
  induction n with
  | zero => intro x1 σ H locs ls hf; exact absurd hf (by intro z; cases z)
  | succ n ih => intro x1 σ H locs ls hf w hl; exact t_M_stands_207b C  ih hf w hl
set_option maxHeartbeats 4000000 in
set_option maxRecDepth 20000 in
theorem t_M_stands_175b {σ2 : St} (C : Cx g A p s m av meth c prog_13_method_26_code 2 "BellHammerModel" none) {k175 : Int32 → St → Option (St)} (hk175 : ∀ (x1 : Int32) (σ : St) (H : Heap) (locs : List Loc) (ls : Array Slot), k175 x1 σ = some σ2 → Wd g (wM g q) A s σ H locs → lv_has ls 2 [(0, .ref (q 0)), (1, .int x1)] → WK p l e s m av below meth c 0 g (wM g q) A none σ2 H locs (F0 m 175 ls []))  {x1 : Int32} {σ : St} {H : Heap} {locs : List Loc} {ls : Array Slot} (hf : f_M_stands_175b  k175 x1 σ = some σ2) (w : Wd g (wM g q) A s σ H locs) (hl : lv_has ls 2 [(0, .ref (q 0)), (1, .int x1)]) : WK p l e s m av below meth c 0 g (wM g q) A none σ2 H locs (F0 m 175 ls []) := by
  obtain ⟨hx, hb, hml, hown, hts, hK, hA, hZ, hlocks, hr, hN⟩ := id C
  unfold f_M_stands_175b at hf
  refine lv_iload_n hx hb d_M_stands_175 rfl (lv_at hl 1 rfl) ?_
  refine lv_aload_n hx hb d_M_stands_176 rfl (lv_at hl 0 rfl) ?_
  refine mg_0_coded C w k1139 d_M_stands_177 ?_
  refine lv_icmp_ge (tgt := 205) hx hb d_M_stands_180 (by decide) (fun cd => ?_) (fun cd => ?_)
  · have hf := it_e cd hf
    refine lv_iconst (v := 0) hx hb d_M_stands_205 (by decide) ?_
    refine lv_istore_n (lv' := [(1, .int 0), (0, .ref (q 0))]) hx hb d_M_stands_206 rfl hl (by decide) rfl (fun ls hl => ?_)
    exact t_M_stands_207 C  FU 0 σ _ _ _ hf w (lv_sub hl [1, 0] rfl)
  · have hf := if_e cd hf
    refine lv_aload_n hx hb d_M_stands_183 rfl (lv_at hl 0 rfl) ?_
    refine mg_0_codes C w k1138 d_M_stands_184 ?_
    refine lv_sipush (v := 1600) hx hb d_M_stands_187 (by decide) ?_
    refine lv_iload_n hx hb d_M_stands_190 rfl (lv_at hl 1 rfl) ?_
    refine lv_iadd hx hb d_M_stands_191 ?_
    refine lv_aload_n hx hb d_M_stands_192 rfl (lv_at hl 0 rfl) ?_
    refine mg_0_codes C w k1138 d_M_stands_193 ?_
    refine lv_iload_n hx hb d_M_stands_196 rfl (lv_at hl 1 rfl) ?_
    obtain ⟨g_1, hf⟩ := gd_e hf
    refine ml_35 C w g_1 d_M_stands_197 ?_
    obtain ⟨g_2, hf⟩ := gd_e hf
    refine ms_35 C w g_2 d_M_stands_198 (fun σ_3 H locs eσ_3 w => ?_)
    have hf := lt_e eσ_3 hf
    obtain ⟨x_4, ex_4⟩ : ∃ y : Int32, y = (x1 + 1) := ⟨_, rfl⟩
    have hf := lt_e ex_4 hf
    refine lv_iinc (v := x_4) (lv' := [(1, .int x_4), (0, .ref (q 0))]) hx hb d_M_stands_199 hl (k := 1) rfl (by rw [ex_4]; rfl) (by decide) rfl (fun ls hl => ?_)
    refine lv_goto (tgt := 175) hx hb d_M_stands_202 (by decide) ?_
    exact hk175 x_4 σ_3 _ _ _ hf w (lv_sub hl [1, 0] rfl)
set_option maxHeartbeats 4000000 in
set_option maxRecDepth 20000 in
theorem t_M_stands_175 {σ2 : St} (C : Cx g A p s m av meth c prog_13_method_26_code 2 "BellHammerModel" none)  : ∀ (n : Nat) (x1 : Int32) (σ : St) (H : Heap) (locs : List Loc) (ls : Array Slot), f_M_stands_175   n x1 σ = some σ2 → Wd g (wM g q) A s σ H locs → lv_has ls 2 [(0, .ref (q 0)), (1, .int x1)] → WK p l e s m av below meth c 0 g (wM g q) A none σ2 H locs (F0 m 175 ls []) := by
  intro n
  induction n with
  | zero => intro x1 σ H locs ls hf; exact absurd hf (by intro z; cases z)
  | succ n ih => intro x1 σ H locs ls hf w hl; exact t_M_stands_175b C  ih hf w hl
set_option maxHeartbeats 4000000 in
set_option maxRecDepth 20000 in
theorem t_M_stands_146b {σ2 : St} (C : Cx g A p s m av meth c prog_13_method_26_code 2 "BellHammerModel" none) {k146 : Int32 → St → Option (St)} (hk146 : ∀ (x1 : Int32) (σ : St) (H : Heap) (locs : List Loc) (ls : Array Slot), k146 x1 σ = some σ2 → Wd g (wM g q) A s σ H locs → lv_has ls 2 [(0, .ref (q 0)), (1, .int x1)] → WK p l e s m av below meth c 0 g (wM g q) A none σ2 H locs (F0 m 146 ls []))  {x1 : Int32} {σ : St} {H : Heap} {locs : List Loc} {ls : Array Slot} (hf : f_M_stands_146b  k146 x1 σ = some σ2) (w : Wd g (wM g q) A s σ H locs) (hl : lv_has ls 2 [(0, .ref (q 0)), (1, .int x1)]) : WK p l e s m av below meth c 0 g (wM g q) A none σ2 H locs (F0 m 146 ls []) := by
  obtain ⟨hx, hb, hml, hown, hts, hK, hA, hZ, hlocks, hr, hN⟩ := id C
  unfold f_M_stands_146b at hf
  refine lv_iload_n hx hb d_M_stands_146 rfl (lv_at hl 1 rfl) ?_
  refine lv_bipush (v := 9) hx hb d_M_stands_147 (by decide) ?_
  refine lv_icmp_ge (tgt := 173) hx hb d_M_stands_149 (by decide) (fun cd => ?_) (fun cd => ?_)
  · have hf := it_e cd hf
    refine lv_iconst (v := 0) hx hb d_M_stands_173 (by decide) ?_
    refine lv_istore_n (lv' := [(1, .int 0), (0, .ref (q 0))]) hx hb d_M_stands_174 rfl hl (by decide) rfl (fun ls hl => ?_)
    exact t_M_stands_175 C  FU 0 σ _ _ _ hf w (lv_sub hl [1, 0] rfl)
  · have hf := if_e cd hf
    refine lv_aload_n hx hb d_M_stands_152 rfl (lv_at hl 0 rfl) ?_
    refine mg_0_told C w k1136 d_M_stands_153 ?_
    refine lv_bipush (v := 9) hx hb d_M_stands_156 (by decide) ?_
    refine lv_iload_n hx hb d_M_stands_158 rfl (lv_at hl 1 rfl) ?_
    refine lv_iadd hx hb d_M_stands_159 ?_
    refine lv_aload_n hx hb d_M_stands_160 rfl (lv_at hl 0 rfl) ?_
    refine mg_0_told C w k1136 d_M_stands_161 ?_
    refine lv_iload_n hx hb d_M_stands_164 rfl (lv_at hl 1 rfl) ?_
    obtain ⟨g_1, hf⟩ := gd_e hf
    refine ml_34 C w g_1 d_M_stands_165 ?_
    obtain ⟨g_2, hf⟩ := gd_e hf
    refine ms_34 C w g_2 d_M_stands_166 (fun σ_3 H locs eσ_3 w => ?_)
    have hf := lt_e eσ_3 hf
    obtain ⟨x_4, ex_4⟩ : ∃ y : Int32, y = (x1 + 1) := ⟨_, rfl⟩
    have hf := lt_e ex_4 hf
    refine lv_iinc (v := x_4) (lv' := [(1, .int x_4), (0, .ref (q 0))]) hx hb d_M_stands_167 hl (k := 1) rfl (by rw [ex_4]; rfl) (by decide) rfl (fun ls hl => ?_)
    refine lv_goto (tgt := 146) hx hb d_M_stands_170 (by decide) ?_
    exact hk146 x_4 σ_3 _ _ _ hf w (lv_sub hl [1, 0] rfl)
set_option maxHeartbeats 4000000 in
set_option maxRecDepth 20000 in
theorem t_M_stands_146 {σ2 : St} (C : Cx g A p s m av meth c prog_13_method_26_code 2 "BellHammerModel" none)  : ∀ (n : Nat) (x1 : Int32) (σ : St) (H : Heap) (locs : List Loc) (ls : Array Slot), f_M_stands_146   n x1 σ = some σ2 → Wd g (wM g q) A s σ H locs → lv_has ls 2 [(0, .ref (q 0)), (1, .int x1)] → WK p l e s m av below meth c 0 g (wM g q) A none σ2 H locs (F0 m 146 ls []) := by
  intro n
  induction n with
  | zero => intro x1 σ H locs ls hf; exact absurd hf (by intro z; cases z)
  | succ n ih => intro x1 σ H locs ls hf w hl; exact t_M_stands_146b C  ih hf w hl
set_option maxHeartbeats 4000000 in
set_option maxRecDepth 20000 in
theorem t_M_stands_117b {σ2 : St} (C : Cx g A p s m av meth c prog_13_method_26_code 2 "BellHammerModel" none) {k117 : Int32 → St → Option (St)} (hk117 : ∀ (x1 : Int32) (σ : St) (H : Heap) (locs : List Loc) (ls : Array Slot), k117 x1 σ = some σ2 → Wd g (wM g q) A s σ H locs → lv_has ls 2 [(0, .ref (q 0)), (1, .int x1)] → WK p l e s m av below meth c 0 g (wM g q) A none σ2 H locs (F0 m 117 ls []))  {x1 : Int32} {σ : St} {H : Heap} {locs : List Loc} {ls : Array Slot} (hf : f_M_stands_117b  k117 x1 σ = some σ2) (w : Wd g (wM g q) A s σ H locs) (hl : lv_has ls 2 [(0, .ref (q 0)), (1, .int x1)]) : WK p l e s m av below meth c 0 g (wM g q) A none σ2 H locs (F0 m 117 ls []) := by
  obtain ⟨hx, hb, hml, hown, hts, hK, hA, hZ, hlocks, hr, hN⟩ := id C
  unfold f_M_stands_117b at hf
  refine lv_iload_n hx hb d_M_stands_117 rfl (lv_at hl 1 rfl) ?_
  refine lv_bipush (v := 48) hx hb d_M_stands_118 (by decide) ?_
  refine lv_icmp_ge (tgt := 144) hx hb d_M_stands_120 (by decide) (fun cd => ?_) (fun cd => ?_)
  · have hf := it_e cd hf
    refine lv_iconst (v := 0) hx hb d_M_stands_144 (by decide) ?_
    refine lv_istore_n (lv' := [(1, .int 0), (0, .ref (q 0))]) hx hb d_M_stands_145 rfl hl (by decide) rfl (fun ls hl => ?_)
    exact t_M_stands_146 C  FU 0 σ _ _ _ hf w (lv_sub hl [1, 0] rfl)
  · have hf := if_e cd hf
    refine lv_aload_n hx hb d_M_stands_123 rfl (lv_at hl 0 rfl) ?_
    refine mg_0_triers C w k1135 d_M_stands_124 ?_
    refine lv_bipush (v := 48) hx hb d_M_stands_127 (by decide) ?_
    refine lv_iload_n hx hb d_M_stands_129 rfl (lv_at hl 1 rfl) ?_
    refine lv_iadd hx hb d_M_stands_130 ?_
    refine lv_aload_n hx hb d_M_stands_131 rfl (lv_at hl 0 rfl) ?_
    refine mg_0_triers C w k1135 d_M_stands_132 ?_
    refine lv_iload_n hx hb d_M_stands_135 rfl (lv_at hl 1 rfl) ?_
    obtain ⟨g_1, hf⟩ := gd_e hf
    refine ml_33 C w g_1 d_M_stands_136 ?_
    obtain ⟨g_2, hf⟩ := gd_e hf
    refine ms_33 C w g_2 d_M_stands_137 (fun σ_3 H locs eσ_3 w => ?_)
    have hf := lt_e eσ_3 hf
    obtain ⟨x_4, ex_4⟩ : ∃ y : Int32, y = (x1 + 1) := ⟨_, rfl⟩
    have hf := lt_e ex_4 hf
    refine lv_iinc (v := x_4) (lv' := [(1, .int x_4), (0, .ref (q 0))]) hx hb d_M_stands_138 hl (k := 1) rfl (by rw [ex_4]; rfl) (by decide) rfl (fun ls hl => ?_)
    refine lv_goto (tgt := 117) hx hb d_M_stands_141 (by decide) ?_
    exact hk117 x_4 σ_3 _ _ _ hf w (lv_sub hl [1, 0] rfl)
set_option maxHeartbeats 4000000 in
set_option maxRecDepth 20000 in
theorem t_M_stands_117 {σ2 : St} (C : Cx g A p s m av meth c prog_13_method_26_code 2 "BellHammerModel" none)  : ∀ (n : Nat) (x1 : Int32) (σ : St) (H : Heap) (locs : List Loc) (ls : Array Slot), f_M_stands_117   n x1 σ = some σ2 → Wd g (wM g q) A s σ H locs → lv_has ls 2 [(0, .ref (q 0)), (1, .int x1)] → WK p l e s m av below meth c 0 g (wM g q) A none σ2 H locs (F0 m 117 ls []) := by
  intro n
  induction n with
  | zero => intro x1 σ H locs ls hf; exact absurd hf (by intro z; cases z)
  | succ n ih => intro x1 σ H locs ls hf w hl; exact t_M_stands_117b C  ih hf w hl
set_option maxHeartbeats 4000000 in
set_option maxRecDepth 20000 in
theorem t_M_stands_58b {σ2 : St} (C : Cx g A p s m av meth c prog_13_method_26_code 2 "BellHammerModel" none) {k58 : Int32 → St → Option (St)} (hk58 : ∀ (x1 : Int32) (σ : St) (H : Heap) (locs : List Loc) (ls : Array Slot), k58 x1 σ = some σ2 → Wd g (wM g q) A s σ H locs → lv_has ls 2 [(0, .ref (q 0)), (1, .int x1)] → WK p l e s m av below meth c 0 g (wM g q) A none σ2 H locs (F0 m 58 ls []))  {x1 : Int32} {σ : St} {H : Heap} {locs : List Loc} {ls : Array Slot} (hf : f_M_stands_58b  k58 x1 σ = some σ2) (w : Wd g (wM g q) A s σ H locs) (hl : lv_has ls 2 [(0, .ref (q 0)), (1, .int x1)]) : WK p l e s m av below meth c 0 g (wM g q) A none σ2 H locs (F0 m 58 ls []) := by
  obtain ⟨hx, hb, hml, hown, hts, hK, hA, hZ, hlocks, hr, hN⟩ := id C
  unfold f_M_stands_58b at hf
  refine lv_iload_n hx hb d_M_stands_58 rfl (lv_at hl 1 rfl) ?_
  refine lv_bipush (v := 6) hx hb d_M_stands_59 (by decide) ?_
  refine lv_icmp_ge (tgt := 115) hx hb d_M_stands_61 (by decide) (fun cd => ?_) (fun cd => ?_)
  · have hf := it_e cd hf
    refine lv_iconst (v := 0) hx hb d_M_stands_115 (by decide) ?_
    refine lv_istore_n (lv' := [(1, .int 0), (0, .ref (q 0))]) hx hb d_M_stands_116 rfl hl (by decide) rfl (fun ls hl => ?_)
    exact t_M_stands_117 C  FU 0 σ _ _ _ hf w (lv_sub hl [1, 0] rfl)
  · have hf := if_e cd hf
    refine lv_aload_n hx hb d_M_stands_64 rfl (lv_at hl 0 rfl) ?_
    refine mg_0_marks C w k1134 d_M_stands_65 ?_
    refine lv_bipush (v := 6) hx hb d_M_stands_68 (by decide) ?_
    refine lv_iload_n hx hb d_M_stands_70 rfl (lv_at hl 1 rfl) ?_
    refine lv_iadd hx hb d_M_stands_71 ?_
    refine lv_aload_n hx hb d_M_stands_72 rfl (lv_at hl 0 rfl) ?_
    refine mg_0_marks C w k1134 d_M_stands_73 ?_
    refine lv_iload_n hx hb d_M_stands_76 rfl (lv_at hl 1 rfl) ?_
    obtain ⟨g_1, hf⟩ := gd_e hf
    refine ml_32 C w g_1 d_M_stands_77 ?_
    obtain ⟨g_2, hf⟩ := gd_e hf
    refine ms_32 C w g_2 d_M_stands_78 (fun σ_3 H locs eσ_3 w => ?_)
    have hf := lt_e eσ_3 hf
    refine lv_aload_n hx hb d_M_stands_79 rfl (lv_at hl 0 rfl) ?_
    refine mg_0_testFrom C w k1143 d_M_stands_80 ?_
    refine lv_bipush (v := 6) hx hb d_M_stands_83 (by decide) ?_
    refine lv_iload_n hx hb d_M_stands_85 rfl (lv_at hl 1 rfl) ?_
    refine lv_iadd hx hb d_M_stands_86 ?_
    refine lv_aload_n hx hb d_M_stands_87 rfl (lv_at hl 0 rfl) ?_
    refine mg_0_testFrom C w k1143 d_M_stands_88 ?_
    refine lv_iload_n hx hb d_M_stands_91 rfl (lv_at hl 1 rfl) ?_
    obtain ⟨g_4, hf⟩ := gd_e hf
    refine ml_37 C w g_4 d_M_stands_92 ?_
    obtain ⟨g_5, hf⟩ := gd_e hf
    refine ms_37 C w g_5 d_M_stands_93 (fun σ_6 H locs eσ_6 w => ?_)
    have hf := lt_e eσ_6 hf
    refine lv_aload_n hx hb d_M_stands_94 rfl (lv_at hl 0 rfl) ?_
    refine mg_0_testEnd C w k1144 d_M_stands_95 ?_
    refine lv_bipush (v := 6) hx hb d_M_stands_98 (by decide) ?_
    refine lv_iload_n hx hb d_M_stands_100 rfl (lv_at hl 1 rfl) ?_
    refine lv_iadd hx hb d_M_stands_101 ?_
    refine lv_aload_n hx hb d_M_stands_102 rfl (lv_at hl 0 rfl) ?_
    refine mg_0_testEnd C w k1144 d_M_stands_103 ?_
    refine lv_iload_n hx hb d_M_stands_106 rfl (lv_at hl 1 rfl) ?_
    obtain ⟨g_7, hf⟩ := gd_e hf
    refine ml_38 C w g_7 d_M_stands_107 ?_
    obtain ⟨g_8, hf⟩ := gd_e hf
    refine ms_38 C w g_8 d_M_stands_108 (fun σ_9 H locs eσ_9 w => ?_)
    have hf := lt_e eσ_9 hf
    obtain ⟨x_10, ex_10⟩ : ∃ y : Int32, y = (x1 + 1) := ⟨_, rfl⟩
    have hf := lt_e ex_10 hf
    refine lv_iinc (v := x_10) (lv' := [(1, .int x_10), (0, .ref (q 0))]) hx hb d_M_stands_109 hl (k := 1) rfl (by rw [ex_10]; rfl) (by decide) rfl (fun ls hl => ?_)
    refine lv_goto (tgt := 58) hx hb d_M_stands_112 (by decide) ?_
    exact hk58 x_10 σ_9 _ _ _ hf w (lv_sub hl [1, 0] rfl)
set_option maxHeartbeats 4000000 in
set_option maxRecDepth 20000 in
theorem t_M_stands_58 {σ2 : St} (C : Cx g A p s m av meth c prog_13_method_26_code 2 "BellHammerModel" none)  : ∀ (n : Nat) (x1 : Int32) (σ : St) (H : Heap) (locs : List Loc) (ls : Array Slot), f_M_stands_58   n x1 σ = some σ2 → Wd g (wM g q) A s σ H locs → lv_has ls 2 [(0, .ref (q 0)), (1, .int x1)] → WK p l e s m av below meth c 0 g (wM g q) A none σ2 H locs (F0 m 58 ls []) := by
  intro n
  induction n with
  | zero => intro x1 σ H locs ls hf; exact absurd hf (by intro z; cases z)
  | succ n ih => intro x1 σ H locs ls hf w hl; exact t_M_stands_58b C  ih hf w hl
set_option maxHeartbeats 4000000 in
set_option maxRecDepth 20000 in
theorem t_M_stands_29b {σ2 : St} (C : Cx g A p s m av meth c prog_13_method_26_code 2 "BellHammerModel" none) {k29 : Int32 → St → Option (St)} (hk29 : ∀ (x1 : Int32) (σ : St) (H : Heap) (locs : List Loc) (ls : Array Slot), k29 x1 σ = some σ2 → Wd g (wM g q) A s σ H locs → lv_has ls 2 [(0, .ref (q 0)), (1, .int x1)] → WK p l e s m av below meth c 0 g (wM g q) A none σ2 H locs (F0 m 29 ls []))  {x1 : Int32} {σ : St} {H : Heap} {locs : List Loc} {ls : Array Slot} (hf : f_M_stands_29b  k29 x1 σ = some σ2) (w : Wd g (wM g q) A s σ H locs) (hl : lv_has ls 2 [(0, .ref (q 0)), (1, .int x1)]) : WK p l e s m av below meth c 0 g (wM g q) A none σ2 H locs (F0 m 29 ls []) := by
  obtain ⟨hx, hb, hml, hown, hts, hK, hA, hZ, hlocks, hr, hN⟩ := id C
  unfold f_M_stands_29b at hf
  refine lv_iload_n hx hb d_M_stands_29 rfl (lv_at hl 1 rfl) ?_
  refine lv_bipush (v := 16) hx hb d_M_stands_30 (by decide) ?_
  refine lv_icmp_ge (tgt := 56) hx hb d_M_stands_32 (by decide) (fun cd => ?_) (fun cd => ?_)
  · have hf := it_e cd hf
    refine lv_iconst (v := 0) hx hb d_M_stands_56 (by decide) ?_
    refine lv_istore_n (lv' := [(1, .int 0), (0, .ref (q 0))]) hx hb d_M_stands_57 rfl hl (by decide) rfl (fun ls hl => ?_)
    exact t_M_stands_58 C  FU 0 σ _ _ _ hf w (lv_sub hl [1, 0] rfl)
  · have hf := if_e cd hf
    refine lv_aload_n hx hb d_M_stands_35 rfl (lv_at hl 0 rfl) ?_
    refine mg_0_names C w k1133 d_M_stands_36 ?_
    refine lv_bipush (v := 16) hx hb d_M_stands_39 (by decide) ?_
    refine lv_iload_n hx hb d_M_stands_41 rfl (lv_at hl 1 rfl) ?_
    refine lv_iadd hx hb d_M_stands_42 ?_
    refine lv_aload_n hx hb d_M_stands_43 rfl (lv_at hl 0 rfl) ?_
    refine mg_0_names C w k1133 d_M_stands_44 ?_
    refine lv_iload_n hx hb d_M_stands_47 rfl (lv_at hl 1 rfl) ?_
    obtain ⟨g_1, hf⟩ := gd_e hf
    refine ml_31 C w g_1 d_M_stands_48 ?_
    obtain ⟨g_2, hf⟩ := gd_e hf
    refine ms_31 C w g_2 d_M_stands_49 (fun σ_3 H locs eσ_3 w => ?_)
    have hf := lt_e eσ_3 hf
    obtain ⟨x_4, ex_4⟩ : ∃ y : Int32, y = (x1 + 1) := ⟨_, rfl⟩
    have hf := lt_e ex_4 hf
    refine lv_iinc (v := x_4) (lv' := [(1, .int x_4), (0, .ref (q 0))]) hx hb d_M_stands_50 hl (k := 1) rfl (by rw [ex_4]; rfl) (by decide) rfl (fun ls hl => ?_)
    refine lv_goto (tgt := 29) hx hb d_M_stands_53 (by decide) ?_
    exact hk29 x_4 σ_3 _ _ _ hf w (lv_sub hl [1, 0] rfl)
set_option maxHeartbeats 4000000 in
set_option maxRecDepth 20000 in
theorem t_M_stands_29 {σ2 : St} (C : Cx g A p s m av meth c prog_13_method_26_code 2 "BellHammerModel" none)  : ∀ (n : Nat) (x1 : Int32) (σ : St) (H : Heap) (locs : List Loc) (ls : Array Slot), f_M_stands_29   n x1 σ = some σ2 → Wd g (wM g q) A s σ H locs → lv_has ls 2 [(0, .ref (q 0)), (1, .int x1)] → WK p l e s m av below meth c 0 g (wM g q) A none σ2 H locs (F0 m 29 ls []) := by
  intro n
  induction n with
  | zero => intro x1 σ H locs ls hf; exact absurd hf (by intro z; cases z)
  | succ n ih => intro x1 σ H locs ls hf w hl; exact t_M_stands_29b C  ih hf w hl
set_option maxHeartbeats 4000000 in
set_option maxRecDepth 20000 in
theorem t_M_stands_2b {σ2 : St} (C : Cx g A p s m av meth c prog_13_method_26_code 2 "BellHammerModel" none) {k2 : Int32 → St → Option (St)} (hk2 : ∀ (x1 : Int32) (σ : St) (H : Heap) (locs : List Loc) (ls : Array Slot), k2 x1 σ = some σ2 → Wd g (wM g q) A s σ H locs → lv_has ls 2 [(0, .ref (q 0)), (1, .int x1)] → WK p l e s m av below meth c 0 g (wM g q) A none σ2 H locs (F0 m 2 ls []))  {x1 : Int32} {σ : St} {H : Heap} {locs : List Loc} {ls : Array Slot} (hf : f_M_stands_2b  k2 x1 σ = some σ2) (w : Wd g (wM g q) A s σ H locs) (hl : lv_has ls 2 [(0, .ref (q 0)), (1, .int x1)]) : WK p l e s m av below meth c 0 g (wM g q) A none σ2 H locs (F0 m 2 ls []) := by
  obtain ⟨hx, hb, hml, hown, hts, hK, hA, hZ, hlocks, hr, hN⟩ := id C
  unfold f_M_stands_2b at hf
  refine lv_iload_n hx hb d_M_stands_2 rfl (lv_at hl 1 rfl) ?_
  refine lv_iconst (v := 3) hx hb d_M_stands_3 (by decide) ?_
  refine lv_icmp_ge (tgt := 27) hx hb d_M_stands_4 (by decide) (fun cd => ?_) (fun cd => ?_)
  · have hf := it_e cd hf
    refine lv_iconst (v := 0) hx hb d_M_stands_27 (by decide) ?_
    refine lv_istore_n (lv' := [(1, .int 0), (0, .ref (q 0))]) hx hb d_M_stands_28 rfl hl (by decide) rfl (fun ls hl => ?_)
    exact t_M_stands_29 C  FU 0 σ _ _ _ hf w (lv_sub hl [1, 0] rfl)
  · have hf := if_e cd hf
    refine lv_aload_n hx hb d_M_stands_7 rfl (lv_at hl 0 rfl) ?_
    refine mg_0_many C w k1132 d_M_stands_8 ?_
    refine lv_iconst (v := 3) hx hb d_M_stands_11 (by decide) ?_
    refine lv_iload_n hx hb d_M_stands_12 rfl (lv_at hl 1 rfl) ?_
    refine lv_iadd hx hb d_M_stands_13 ?_
    refine lv_aload_n hx hb d_M_stands_14 rfl (lv_at hl 0 rfl) ?_
    refine mg_0_many C w k1132 d_M_stands_15 ?_
    refine lv_iload_n hx hb d_M_stands_18 rfl (lv_at hl 1 rfl) ?_
    obtain ⟨g_1, hf⟩ := gd_e hf
    refine ml_30 C w g_1 d_M_stands_19 ?_
    obtain ⟨g_2, hf⟩ := gd_e hf
    refine ms_30 C w g_2 d_M_stands_20 (fun σ_3 H locs eσ_3 w => ?_)
    have hf := lt_e eσ_3 hf
    obtain ⟨x_4, ex_4⟩ : ∃ y : Int32, y = (x1 + 1) := ⟨_, rfl⟩
    have hf := lt_e ex_4 hf
    refine lv_iinc (v := x_4) (lv' := [(1, .int x_4), (0, .ref (q 0))]) hx hb d_M_stands_21 hl (k := 1) rfl (by rw [ex_4]; rfl) (by decide) rfl (fun ls hl => ?_)
    refine lv_goto (tgt := 2) hx hb d_M_stands_24 (by decide) ?_
    exact hk2 x_4 σ_3 _ _ _ hf w (lv_sub hl [1, 0] rfl)
set_option maxHeartbeats 4000000 in
set_option maxRecDepth 20000 in
theorem t_M_stands_2 {σ2 : St} (C : Cx g A p s m av meth c prog_13_method_26_code 2 "BellHammerModel" none)  : ∀ (n : Nat) (x1 : Int32) (σ : St) (H : Heap) (locs : List Loc) (ls : Array Slot), f_M_stands_2   n x1 σ = some σ2 → Wd g (wM g q) A s σ H locs → lv_has ls 2 [(0, .ref (q 0)), (1, .int x1)] → WK p l e s m av below meth c 0 g (wM g q) A none σ2 H locs (F0 m 2 ls []) := by
  intro n
  induction n with
  | zero => intro x1 σ H locs ls hf; exact absurd hf (by intro z; cases z)
  | succ n ih => intro x1 σ H locs ls hf w hl; exact t_M_stands_2b C  ih hf w hl
set_option maxHeartbeats 4000000 in
set_option maxRecDepth 20000 in
theorem c_M_stands {l : Launch} {g : GX} {q : Nat → Nat}  {σ : St} {σ2 : St} (hf : f_M_stands   σ = some σ2) : KK l y_M_stands prog_13_method_26_code 2 none 0 g (wM g q) σ [.ref (q 0)] none (wM g q) σ2 := by
  refine KK_of (plainFor_of_name (by decide)) (Nat.le_of_ble_eq_true rfl) (fun p e s m below meth c A ls C w hl => ?_)
  have hl : lv_has ls 2 [(0, .ref (q 0))] := hl
  obtain ⟨hx, hb, hml, hown, hts, hK, hA, hZ, hlocks, hr, hN⟩ := id C
  unfold f_M_stands at hf
  refine lv_iconst (v := 0) hx hb d_M_stands_0 (by decide) ?_
  refine lv_istore_n (lv' := [(1, .int 0), (0, .ref (q 0))]) hx hb d_M_stands_1 rfl hl (by decide) rfl (fun ls hl => ?_)
  exact t_M_stands_2 C  FU 0 σ _ _ _ hf w (lv_sub hl [1, 0] rfl)
def f_M_look_52 (σ : St) : Option (Int32 × St) :=
  if (sI σ 2) ≤ (sI σ 1) then
    some ((-1), σ)
  else
    gd (inB (sI σ 1) 1600) <|
    some ((sA σ 0 (sI σ 1).toNatClampNeg), σ)
def f_M_look_39 (k0 : St → Option (Int32 × St)) (σ : St) : Option (Int32 × St) :=
  lt (uI σ 1 ((sI σ 1) + 1)) fun σ_1 =>
  k0 σ_1
def f_M_look_0b (k0 : St → Option (Int32 × St)) (σ : St) : Option (Int32 × St) :=
  if (sI σ 2) ≤ (sI σ 1) then
    f_M_look_52 σ
  else
    gd (inB (sI σ 1) 1600) <|
    if (sA σ 0 (sI σ 1).toNatClampNeg) = 10 then
      f_M_look_39 k0 σ
    else
      gd (inB (sI σ 1) 1600) <|
      if (sA σ 0 (sI σ 1).toNatClampNeg) = 32 then
        f_M_look_39 k0 σ
      else
        f_M_look_52 σ
def f_M_look_0 : Nat → St → Option (Int32 × St)
  | 0 => fun  _ => none
  | n + 1 => f_M_look_0b   (f_M_look_0   n)
def f_M_look (σ : St) : Option (Int32 × St) :=
  f_M_look_0 FU σ
set_option maxHeartbeats 4000000 in
set_option maxRecDepth 20000 in
theorem t_M_look_52 {r : Int32} {σ2 : St} (C : Cx g A p s m av meth c prog_13_method_8_code 1 "BellHammerModel" (some .int))  {σ : St} {H : Heap} {locs : List Loc} {ls : Array Slot} (hf : f_M_look_52    σ = some (r, σ2)) (w : Wd g (wM g q) A s σ H locs) (hl : lv_has ls 1 [(0, .ref (q 0))]) : WK p l e s m av below meth c 0 g (wM g q) A (some (.int r)) σ2 H locs (F0 m 52 ls []) := by
  obtain ⟨hx, hb, hml, hown, hts, hK, hA, hZ, hlocks, hr, hN⟩ := id C
  unfold f_M_look_52 at hf
  refine lv_aload_n hx hb d_M_look_52 rfl (lv_at hl 0 rfl) ?_
  refine mg_0_at C w k1096 d_M_look_53 ?_
  refine lv_aload_n hx hb d_M_look_56 rfl (lv_at hl 0 rfl) ?_
  refine mg_0_end C w k1097 d_M_look_57 ?_
  refine lv_icmp_ge (tgt := 75) hx hb d_M_look_60 (by decide) (fun cd => ?_) (fun cd => ?_)
  · have hf := it_e cd hf
    refine lv_iconst (v := (-1)) hx hb d_M_look_75 (by decide) ?_
    obtain ⟨rfl, rfl⟩ := some2_e hf
    exact k_iret C w d_M_look_76
  · have hf := if_e cd hf
    refine lv_aload_n hx hb d_M_look_63 rfl (lv_at hl 0 rfl) ?_
    refine mg_0_tape C w k1094 d_M_look_64 ?_
    refine lv_aload_n hx hb d_M_look_67 rfl (lv_at hl 0 rfl) ?_
    refine mg_0_at C w k1096 d_M_look_68 ?_
    obtain ⟨g_1, hf⟩ := gd_e hf
    refine ml_28 C w g_1 d_M_look_71 ?_
    refine lv_goto (tgt := 76) hx hb d_M_look_72 (by decide) ?_
    obtain ⟨rfl, rfl⟩ := some2_e hf
    exact k_iret C w d_M_look_76
set_option maxHeartbeats 4000000 in
set_option maxRecDepth 20000 in
theorem t_M_look_39 {r : Int32} {σ2 : St} (C : Cx g A p s m av meth c prog_13_method_8_code 1 "BellHammerModel" (some .int)) {k0 : St → Option (Int32 × St)} (hk0 : ∀  (σ : St) (H : Heap) (locs : List Loc) (ls : Array Slot), k0  σ = some (r, σ2) → Wd g (wM g q) A s σ H locs → lv_has ls 1 [(0, .ref (q 0))] → WK p l e s m av below meth c 0 g (wM g q) A (some (.int r)) σ2 H locs (F0 m 0 ls []))  {σ : St} {H : Heap} {locs : List Loc} {ls : Array Slot} (hf : f_M_look_39  k0  σ = some (r, σ2)) (w : Wd g (wM g q) A s σ H locs) (hl : lv_has ls 1 [(0, .ref (q 0))]) : WK p l e s m av below meth c 0 g (wM g q) A (some (.int r)) σ2 H locs (F0 m 39 ls []) := by
  obtain ⟨hx, hb, hml, hown, hts, hK, hA, hZ, hlocks, hr, hN⟩ := id C
  unfold f_M_look_39 at hf
  refine lv_aload_n hx hb d_M_look_39 rfl (lv_at hl 0 rfl) ?_
  refine lv_dup hx hb d_M_look_40 rfl ?_
  refine mg_0_at C w k1096 d_M_look_41 ?_
  refine lv_iconst (v := 1) hx hb d_M_look_44 (by decide) ?_
  refine lv_iadd hx hb d_M_look_45 ?_
  refine mp_0_at C w k1096 d_M_look_46 (fun σ_1 H locs eσ_1 w => ?_)
  have hf := lt_e eσ_1 hf
  refine lv_goto (tgt := 0) hx hb d_M_look_49 (by decide) ?_
  exact hk0  σ_1 _ _ _ hf w (lv_sub hl [0] rfl)
set_option maxHeartbeats 4000000 in
set_option maxRecDepth 20000 in
theorem t_M_look_0b {r : Int32} {σ2 : St} (C : Cx g A p s m av meth c prog_13_method_8_code 1 "BellHammerModel" (some .int)) {k0 : St → Option (Int32 × St)} (hk0 : ∀  (σ : St) (H : Heap) (locs : List Loc) (ls : Array Slot), k0  σ = some (r, σ2) → Wd g (wM g q) A s σ H locs → lv_has ls 1 [(0, .ref (q 0))] → WK p l e s m av below meth c 0 g (wM g q) A (some (.int r)) σ2 H locs (F0 m 0 ls []))  {σ : St} {H : Heap} {locs : List Loc} {ls : Array Slot} (hf : f_M_look_0b  k0  σ = some (r, σ2)) (w : Wd g (wM g q) A s σ H locs) (hl : lv_has ls 1 [(0, .ref (q 0))]) : WK p l e s m av below meth c 0 g (wM g q) A (some (.int r)) σ2 H locs (F0 m 0 ls []) := by
  obtain ⟨hx, hb, hml, hown, hts, hK, hA, hZ, hlocks, hr, hN⟩ := id C
  unfold f_M_look_0b at hf
  refine lv_aload_n hx hb d_M_look_0 rfl (lv_at hl 0 rfl) ?_
  refine mg_0_at C w k1096 d_M_look_1 ?_
  refine lv_aload_n hx hb d_M_look_4 rfl (lv_at hl 0 rfl) ?_
  refine mg_0_end C w k1097 d_M_look_5 ?_
  refine lv_icmp_ge (tgt := 52) hx hb d_M_look_8 (by decide) (fun cd => ?_) (fun cd => ?_)
  · have hf := it_e cd hf
    exact t_M_look_52 C  hf w (lv_sub hl [0] rfl)
  · have hf := if_e cd hf
    refine lv_aload_n hx hb d_M_look_11 rfl (lv_at hl 0 rfl) ?_
    refine mg_0_tape C w k1094 d_M_look_12 ?_
    refine lv_aload_n hx hb d_M_look_15 rfl (lv_at hl 0 rfl) ?_
    refine mg_0_at C w k1096 d_M_look_16 ?_
    obtain ⟨g_1, hf⟩ := gd_e hf
    refine ml_28 C w g_1 d_M_look_19 ?_
    refine lv_bipush (v := 10) hx hb d_M_look_20 (by decide) ?_
    refine lv_icmp_eq (tgt := 39) hx hb d_M_look_22 (by decide) (fun cd => ?_) (fun cd => ?_)
    · have hf := it_e cd hf
      exact t_M_look_39 C hk0 hf w (lv_sub hl [0] rfl)
    · have hf := if_e cd hf
      refine lv_aload_n hx hb d_M_look_25 rfl (lv_at hl 0 rfl) ?_
      refine mg_0_tape C w k1094 d_M_look_26 ?_
      refine lv_aload_n hx hb d_M_look_29 rfl (lv_at hl 0 rfl) ?_
      refine mg_0_at C w k1096 d_M_look_30 ?_
      obtain ⟨g_2, hf⟩ := gd_e hf
      refine ml_28 C w g_2 d_M_look_33 ?_
      refine lv_bipush (v := 32) hx hb d_M_look_34 (by decide) ?_
      refine lv_icmp_ne (tgt := 52) hx hb d_M_look_36 (by decide) (fun cd => ?_) (fun cd => ?_)
      · have hf := if_e cd hf
        exact t_M_look_52 C  hf w (lv_sub hl [0] rfl)
      · have hf := it_e cd hf
        exact t_M_look_39 C hk0 hf w (lv_sub hl [0] rfl)
set_option maxHeartbeats 4000000 in
set_option maxRecDepth 20000 in
theorem t_M_look_0 {r : Int32} {σ2 : St} (C : Cx g A p s m av meth c prog_13_method_8_code 1 "BellHammerModel" (some .int))  : ∀ (n : Nat)  (σ : St) (H : Heap) (locs : List Loc) (ls : Array Slot), f_M_look_0   n  σ = some (r, σ2) → Wd g (wM g q) A s σ H locs → lv_has ls 1 [(0, .ref (q 0))] → WK p l e s m av below meth c 0 g (wM g q) A (some (.int r)) σ2 H locs (F0 m 0 ls []) := by
  intro n
  induction n with
  | zero => intro  σ H locs ls hf; exact absurd hf (by intro z; cases z)
  | succ n ih => intro  σ H locs ls hf w hl; exact t_M_look_0b C  ih hf w hl
set_option maxHeartbeats 4000000 in
set_option maxRecDepth 20000 in
theorem c_M_look {l : Launch} {g : GX} {q : Nat → Nat}  {σ : St} {r : Int32} {σ2 : St} (hf : f_M_look   σ = some (r, σ2)) : KK l y_M_look prog_13_method_8_code 1 (some .int) 0 g (wM g q) σ [.ref (q 0)] (some (.int r)) (wM g q) σ2 := by
  refine KK_of (plainFor_of_name (by decide)) (Nat.le_of_ble_eq_true rfl) (fun p e s m below meth c A ls C w hl => ?_)
  have hl : lv_has ls 1 [(0, .ref (q 0))] := hl
  obtain ⟨hx, hb, hml, hown, hts, hK, hA, hZ, hlocks, hr, hN⟩ := id C
  unfold f_M_look at hf
  exact t_M_look_0 C  FU  σ _ _ _ hf w (lv_sub hl [0] rfl)
def f_M_isLetter (x0 : Int32) (σ : St) : Option (Int32) :=
  if x0 < 97 then
    some 0
  else
    if 122 < x0 then
      some 0
    else
      some 1
set_option maxHeartbeats 4000000 in
set_option maxRecDepth 20000 in
theorem c_M_isLetter {l : Launch} {g : GX} {q : Nat → Nat} {x0 : Int32}  {σ : St} {r : Int32} (hf : f_M_isLetter  x0 σ = some r) : KK l y_M_isLetter prog_13_method_6_code 1 (some .boolean) 0 g (wM g q) σ [.int x0] (some (.int r)) (wM g q) σ := by
  refine KK_of (plainFor_of_name (by decide)) (Nat.le_of_ble_eq_true rfl) (fun p e s m below meth c A ls C w hl => ?_)
  have hl : lv_has ls 1 [(0, .int x0)] := hl
  obtain ⟨hx, hb, hml, hown, hts, hK, hA, hZ, hlocks, hr, hN⟩ := id C
  unfold f_M_isLetter at hf
  refine lv_iload_n hx hb d_M_isLetter_0 rfl (lv_at hl 0 rfl) ?_
  refine lv_bipush (v := 97) hx hb d_M_isLetter_1 (by decide) ?_
  refine lv_icmp_lt (tgt := 16) hx hb d_M_isLetter_3 (by decide) (fun cd => ?_) (fun cd => ?_)
  · have hf := it_e cd hf
    refine lv_iconst (v := 0) hx hb d_M_isLetter_16 (by decide) ?_
    cases some_e hf
    exact k_zret C w (by decide) d_M_isLetter_17
  · have hf := if_e cd hf
    refine lv_iload_n hx hb d_M_isLetter_6 rfl (lv_at hl 0 rfl) ?_
    refine lv_bipush (v := 122) hx hb d_M_isLetter_7 (by decide) ?_
    refine lv_icmp_gt (tgt := 16) hx hb d_M_isLetter_9 (by decide) (fun cd => ?_) (fun cd => ?_)
    · have hf := it_e cd hf
      refine lv_iconst (v := 0) hx hb d_M_isLetter_16 (by decide) ?_
      cases some_e hf
      exact k_zret C w (by decide) d_M_isLetter_17
    · have hf := if_e cd hf
      refine lv_iconst (v := 1) hx hb d_M_isLetter_12 (by decide) ?_
      refine lv_goto (tgt := 17) hx hb d_M_isLetter_13 (by decide) ?_
      cases some_e hf
      exact k_zret C w (by decide) d_M_isLetter_17
def f_M_isHere_76b (j : Nat) (k76 : Int32 → St → Option (Int32 × St)) (x3 : Int32) (σ : St) : Option (Int32 × St) :=
  if (Int32.ofNat (wlen j)) ≤ x3 then
    some (1, σ)
  else
    gd (inB ((sI σ 1) + x3) 1600) <|
    gd (inB x3 (wlen j)) <|
    if (sA σ 0 ((sI σ 1) + x3).toNatClampNeg) = (wchr j x3.toNatClampNeg) then
      lt ((x3 + 1)) fun x_3 =>
      k76 x_3 σ
    else
      some (0, σ)
def f_M_isHere_76 (j : Nat) : Nat → Int32 → St → Option (Int32 × St)
  | 0 => fun _ _ => none
  | n + 1 => f_M_isHere_76b j  (f_M_isHere_76 j  n)
def f_M_isHere_61 (j : Nat) (x2 : Int32) (σ : St) : Option (Int32 × St) :=
  if (x2 - (sI σ 1)) = (Int32.ofNat (wlen j)) then
    f_M_isHere_76 j FU 0 σ
  else
    some (0, σ)
def f_M_isHere_35b (j : Nat) (k35 : Int32 → St → Option (Int32 × St)) (x2 : Int32) (σ : St) : Option (Int32 × St) :=
  if (sI σ 2) ≤ x2 then
    f_M_isHere_61 j x2 σ
  else
    gd (inB x2 1600) <|
    bp (f_M_isLetter (sA σ 0 x2.toNatClampNeg) σ) fun r_3 =>
    if r_3 = 0 then
      f_M_isHere_61 j x2 σ
    else
      lt ((x2 + 1)) fun x_4 =>
      k35 x_4 σ
def f_M_isHere_35 (j : Nat) : Nat → Int32 → St → Option (Int32 × St)
  | 0 => fun _ _ => none
  | n + 1 => f_M_isHere_35b j  (f_M_isHere_35 j  n)
def f_M_isHere (j : Nat) (σ : St) : Option (Int32 × St) :=
  if (sI σ 4) = 0 then
    bd (f_M_look σ) fun r_2 σ_3 =>
    bp (f_M_isLetter r_2 σ_3) fun r_5 =>
    if r_5 = 0 then
      some (0, σ_3)
    else
      if (sI σ_3 1) = (sI σ_3 3) then
        some (0, σ_3)
      else
        lt ((sI σ_3 1)) fun x_6 =>
        f_M_isHere_35 j FU x_6 σ_3
  else
    some (0, σ)
set_option maxHeartbeats 4000000 in
set_option maxRecDepth 20000 in
theorem t_M_isHere_76b {r : Int32} {σ2 : St} (C : Cx g A p s m av meth c prog_13_method_9_code 4 "BellHammerModel" (some .boolean)) {j : Nat} (hj : j < 27) {k76 : Int32 → St → Option (Int32 × St)} (hk76 : ∀ (x3 : Int32) (σ : St) (H : Heap) (locs : List Loc) (ls : Array Slot), k76 x3 σ = some (r, σ2) → Wd g (wM g q) A s σ H locs → lv_has ls 4 [(0, .ref (q 0)), (1, .ref (q (1 + j))), (3, .int x3)] → WK p l e s m av below meth c 1 g (wM g q) A (some (.int r)) σ2 H locs (F0 m 76 ls []))  {x3 : Int32} {σ : St} {H : Heap} {locs : List Loc} {ls : Array Slot} (hf : f_M_isHere_76b j k76 x3 σ = some (r, σ2)) (w : Wd g (wM g q) A s σ H locs) (hl : lv_has ls 4 [(0, .ref (q 0)), (1, .ref (q (1 + j))), (3, .int x3)]) : WK p l e s m av below meth c 1 g (wM g q) A (some (.int r)) σ2 H locs (F0 m 76 ls []) := by
  obtain ⟨hx, hb, hml, hown, hts, hK, hA, hZ, hlocks, hr, hN⟩ := id C
  unfold f_M_isHere_76b at hf
  refine lv_iload_n hx hb d_M_isHere_76 rfl (lv_at hl 2 rfl) ?_
  refine lv_aload_n hx hb d_M_isHere_77 rfl (lv_at hl 1 rfl) ?_
  refine mn_word C w hj d_M_isHere_78 ?_
  refine lv_icmp_ge (tgt := 107) hx hb d_M_isHere_79 (by decide) (fun cd => ?_) (fun cd => ?_)
  · have hf := it_e cd hf
    refine lv_iconst (v := 1) hx hb d_M_isHere_107 (by decide) ?_
    obtain ⟨rfl, rfl⟩ := some2_e hf
    exact k_zret C w (by decide) d_M_isHere_108
  · have hf := if_e cd hf
    refine lv_aload_n hx hb d_M_isHere_82 rfl (lv_at hl 0 rfl) ?_
    refine mg_0_tape C w k1094 d_M_isHere_83 ?_
    refine lv_aload_n hx hb d_M_isHere_86 rfl (lv_at hl 0 rfl) ?_
    refine mg_0_at C w k1096 d_M_isHere_87 ?_
    refine lv_iload_n hx hb d_M_isHere_90 rfl (lv_at hl 2 rfl) ?_
    refine lv_iadd hx hb d_M_isHere_91 ?_
    obtain ⟨g_1, hf⟩ := gd_e hf
    refine ml_28 C w g_1 d_M_isHere_92 ?_
    refine lv_aload_n hx hb d_M_isHere_93 rfl (lv_at hl 1 rfl) ?_
    refine lv_iload_n hx hb d_M_isHere_94 rfl (lv_at hl 2 rfl) ?_
    obtain ⟨g_2, hf⟩ := gd_e hf
    refine ml_word C w hj g_2 d_M_isHere_95 ?_
    refine lv_icmp_eq (tgt := 101) hx hb d_M_isHere_96 (by decide) (fun cd => ?_) (fun cd => ?_)
    · have hf := it_e cd hf
      obtain ⟨x_3, ex_3⟩ : ∃ y : Int32, y = (x3 + 1) := ⟨_, rfl⟩
      have hf := lt_e ex_3 hf
      refine lv_iinc (v := x_3) (lv' := [(3, .int x_3), (0, .ref (q 0)), (1, .ref (q (1 + j)))]) hx hb d_M_isHere_101 hl (k := 2) rfl (by rw [ex_3]; rfl) (by decide) rfl (fun ls hl => ?_)
      refine lv_goto (tgt := 76) hx hb d_M_isHere_104 (by decide) ?_
      exact hk76 x_3 σ _ _ _ hf w (lv_sub hl [1, 2, 0] rfl)
    · have hf := if_e cd hf
      refine lv_iconst (v := 0) hx hb d_M_isHere_99 (by decide) ?_
      obtain ⟨rfl, rfl⟩ := some2_e hf
      exact k_zret C w (by decide) d_M_isHere_100
set_option maxHeartbeats 4000000 in
set_option maxRecDepth 20000 in
theorem t_M_isHere_76 {r : Int32} {σ2 : St} (C : Cx g A p s m av meth c prog_13_method_9_code 4 "BellHammerModel" (some .boolean)) {j : Nat} (hj : j < 27)  : ∀ (n : Nat) (x3 : Int32) (σ : St) (H : Heap) (locs : List Loc) (ls : Array Slot), f_M_isHere_76 j  n x3 σ = some (r, σ2) → Wd g (wM g q) A s σ H locs → lv_has ls 4 [(0, .ref (q 0)), (1, .ref (q (1 + j))), (3, .int x3)] → WK p l e s m av below meth c 1 g (wM g q) A (some (.int r)) σ2 H locs (F0 m 76 ls []) := by
  intro n
  induction n with
  | zero => intro x3 σ H locs ls hf; exact absurd hf (by intro z; cases z)
  | succ n ih => intro x3 σ H locs ls hf w hl; exact t_M_isHere_76b C hj  ih hf w hl
set_option maxHeartbeats 4000000 in
set_option maxRecDepth 20000 in
theorem t_M_isHere_61 {r : Int32} {σ2 : St} (C : Cx g A p s m av meth c prog_13_method_9_code 4 "BellHammerModel" (some .boolean)) {j : Nat} (hj : j < 27)  {x2 : Int32} {σ : St} {H : Heap} {locs : List Loc} {ls : Array Slot} (hf : f_M_isHere_61 j  x2 σ = some (r, σ2)) (w : Wd g (wM g q) A s σ H locs) (hl : lv_has ls 4 [(0, .ref (q 0)), (1, .ref (q (1 + j))), (2, .int x2)]) : WK p l e s m av below meth c 1 g (wM g q) A (some (.int r)) σ2 H locs (F0 m 61 ls []) := by
  obtain ⟨hx, hb, hml, hown, hts, hK, hA, hZ, hlocks, hr, hN⟩ := id C
  unfold f_M_isHere_61 at hf
  refine lv_iload_n hx hb d_M_isHere_61 rfl (lv_at hl 2 rfl) ?_
  refine lv_aload_n hx hb d_M_isHere_62 rfl (lv_at hl 0 rfl) ?_
  refine mg_0_at C w k1096 d_M_isHere_63 ?_
  refine lv_isub hx hb d_M_isHere_66 ?_
  refine lv_aload_n hx hb d_M_isHere_67 rfl (lv_at hl 1 rfl) ?_
  refine mn_word C w hj d_M_isHere_68 ?_
  refine lv_icmp_eq (tgt := 74) hx hb d_M_isHere_69 (by decide) (fun cd => ?_) (fun cd => ?_)
  · have hf := it_e cd hf
    refine lv_iconst (v := 0) hx hb d_M_isHere_74 (by decide) ?_
    refine lv_istore_n (lv' := [(3, .int 0), (0, .ref (q 0)), (1, .ref (q (1 + j))), (2, .int x2)]) hx hb d_M_isHere_75 rfl hl (by decide) rfl (fun ls hl => ?_)
    exact t_M_isHere_76 C hj  FU 0 σ _ _ _ hf w (lv_sub hl [1, 2, 0] rfl)
  · have hf := if_e cd hf
    refine lv_iconst (v := 0) hx hb d_M_isHere_72 (by decide) ?_
    obtain ⟨rfl, rfl⟩ := some2_e hf
    exact k_zret C w (by decide) d_M_isHere_73
set_option maxHeartbeats 4000000 in
set_option maxRecDepth 20000 in
theorem t_M_isHere_35b {r : Int32} {σ2 : St} (C : Cx g A p s m av meth c prog_13_method_9_code 4 "BellHammerModel" (some .boolean)) {j : Nat} (hj : j < 27) {k35 : Int32 → St → Option (Int32 × St)} (hk35 : ∀ (x2 : Int32) (σ : St) (H : Heap) (locs : List Loc) (ls : Array Slot), k35 x2 σ = some (r, σ2) → Wd g (wM g q) A s σ H locs → lv_has ls 4 [(0, .ref (q 0)), (1, .ref (q (1 + j))), (2, .int x2)] → WK p l e s m av below meth c 1 g (wM g q) A (some (.int r)) σ2 H locs (F0 m 35 ls []))  {x2 : Int32} {σ : St} {H : Heap} {locs : List Loc} {ls : Array Slot} (hf : f_M_isHere_35b j k35 x2 σ = some (r, σ2)) (w : Wd g (wM g q) A s σ H locs) (hl : lv_has ls 4 [(0, .ref (q 0)), (1, .ref (q (1 + j))), (2, .int x2)]) : WK p l e s m av below meth c 1 g (wM g q) A (some (.int r)) σ2 H locs (F0 m 35 ls []) := by
  obtain ⟨hx, hb, hml, hown, hts, hK, hA, hZ, hlocks, hr, hN⟩ := id C
  unfold f_M_isHere_35b at hf
  refine lv_iload_n hx hb d_M_isHere_35 rfl (lv_at hl 2 rfl) ?_
  refine lv_aload_n hx hb d_M_isHere_36 rfl (lv_at hl 0 rfl) ?_
  refine mg_0_end C w k1097 d_M_isHere_37 ?_
  refine lv_icmp_ge (tgt := 61) hx hb d_M_isHere_40 (by decide) (fun cd => ?_) (fun cd => ?_)
  · have hf := it_e cd hf
    exact t_M_isHere_61 C hj  hf w (lv_sub hl [0, 1, 2] rfl)
  · have hf := if_e cd hf
    refine lv_aload_n hx hb d_M_isHere_43 rfl (lv_at hl 0 rfl) ?_
    refine mg_0_tape C w k1094 d_M_isHere_44 ?_
    refine lv_iload_n hx hb d_M_isHere_47 rfl (lv_at hl 2 rfl) ?_
    obtain ⟨g_1, hf⟩ := gd_e hf
    refine ml_28 C w g_1 d_M_isHere_48 ?_
    obtain ⟨r_3, h_2, hf⟩ := bp_e hf
    refine k_callS (As := [.int (sA σ 0 x2.toNatClampNeg)]) (rest := []) C w (c_M_isLetter (q := q) h_2) cv_M_isLetter k1374 (by decide) hl.1 rfl (Nat.le_of_ble_eq_true rfl) d_M_isHere_49 (fun H locs w => ?_)
    show WK p l e s m av below meth c 1 g (wM g q) A (some (.int r)) σ2 H locs (F0 m 52 ls [.int r_3])
    refine lv_if_eq (tgt := 61) hx hb d_M_isHere_52 (by decide) (fun cd => ?_) (fun cd => ?_)
    · have hf := it_e cd hf
      exact t_M_isHere_61 C hj  hf w (lv_sub hl [0, 1, 2] rfl)
    · have hf := if_e cd hf
      obtain ⟨x_4, ex_4⟩ : ∃ y : Int32, y = (x2 + 1) := ⟨_, rfl⟩
      have hf := lt_e ex_4 hf
      refine lv_iinc (v := x_4) (lv' := [(2, .int x_4), (0, .ref (q 0)), (1, .ref (q (1 + j)))]) hx hb d_M_isHere_55 hl (k := 2) rfl (by rw [ex_4]; rfl) (by decide) rfl (fun ls hl => ?_)
      refine lv_goto (tgt := 35) hx hb d_M_isHere_58 (by decide) ?_
      exact hk35 x_4 σ _ _ _ hf w (lv_sub hl [1, 2, 0] rfl)
set_option maxHeartbeats 4000000 in
set_option maxRecDepth 20000 in
theorem t_M_isHere_35 {r : Int32} {σ2 : St} (C : Cx g A p s m av meth c prog_13_method_9_code 4 "BellHammerModel" (some .boolean)) {j : Nat} (hj : j < 27)  : ∀ (n : Nat) (x2 : Int32) (σ : St) (H : Heap) (locs : List Loc) (ls : Array Slot), f_M_isHere_35 j  n x2 σ = some (r, σ2) → Wd g (wM g q) A s σ H locs → lv_has ls 4 [(0, .ref (q 0)), (1, .ref (q (1 + j))), (2, .int x2)] → WK p l e s m av below meth c 1 g (wM g q) A (some (.int r)) σ2 H locs (F0 m 35 ls []) := by
  intro n
  induction n with
  | zero => intro x2 σ H locs ls hf; exact absurd hf (by intro z; cases z)
  | succ n ih => intro x2 σ H locs ls hf w hl; exact t_M_isHere_35b C hj  ih hf w hl
set_option maxHeartbeats 4000000 in
set_option maxRecDepth 20000 in
theorem c_M_isHere {l : Launch} {g : GX} {q : Nat → Nat} {j : Nat} (hj : j < 27)  {σ : St} {r : Int32} {σ2 : St} (hf : f_M_isHere j  σ = some (r, σ2)) : KK l y_M_isHere prog_13_method_9_code 4 (some .boolean) 1 g (wM g q) σ [.ref (q 0), .ref (q (1 + j))] (some (.int r)) (wM g q) σ2 := by
  refine KK_of (plainFor_of_name (by decide)) (Nat.le_of_ble_eq_true rfl) (fun p e s m below meth c A ls C w hl => ?_)
  have hl : lv_has ls 4 [(0, .ref (q 0)), (1, .ref (q (1 + j)))] := hl
  obtain ⟨hx, hb, hml, hown, hts, hK, hA, hZ, hlocks, hr, hN⟩ := id C
  unfold f_M_isHere at hf
  refine lv_aload_n hx hb d_M_isHere_0 rfl (lv_at hl 0 rfl) ?_
  refine mg_0_bad C w k1099 d_M_isHere_1 ?_
  refine lv_if_ne (tgt := 28) hx hb d_M_isHere_4 (by decide) (fun cd => ?_) (fun cd => ?_)
  · have hf := if_e cd hf
    refine lv_iconst (v := 0) hx hb d_M_isHere_28 (by decide) ?_
    obtain ⟨rfl, rfl⟩ := some2_e hf
    exact k_zret C w (by decide) d_M_isHere_29
  · have hf := it_e cd hf
    refine lv_aload_n hx hb d_M_isHere_7 rfl (lv_at hl 0 rfl) ?_
    obtain ⟨r_2, σ_3, h_1, hf⟩ := bd_e hf
    refine k_callV (As := []) (rest := []) C w (c_M_look (q := q) h_1) cv_M_look k1354 (mr_0 C w) (by decide) hl.1 rfl (Nat.le_of_ble_eq_true rfl) d_M_isHere_8 (fun H locs w => ?_)
    show WK p l e s m _ below meth c 1 g (wM g q) A (some (.int r)) σ2 H locs (F0 m 11 ls [.int r_2])
    obtain ⟨r_5, h_4, hf⟩ := bp_e hf
    refine k_callS (As := [.int r_2]) (rest := []) C w (c_M_isLetter (q := q) h_4) cv_M_isLetter k1374 (by decide) hl.1 rfl (Nat.le_of_ble_eq_true rfl) d_M_isHere_11 (fun H locs w => ?_)
    show WK p l e s m _ below meth c 1 g (wM g q) A (some (.int r)) σ2 H locs (F0 m 14 ls [.int r_5])
    refine lv_if_eq (tgt := 28) hx hb d_M_isHere_14 (by decide) (fun cd => ?_) (fun cd => ?_)
    · have hf := it_e cd hf
      refine lv_iconst (v := 0) hx hb d_M_isHere_28 (by decide) ?_
      obtain ⟨rfl, rfl⟩ := some2_e hf
      exact k_zret C w (by decide) d_M_isHere_29
    · have hf := if_e cd hf
      refine lv_aload_n hx hb d_M_isHere_17 rfl (lv_at hl 0 rfl) ?_
      refine mg_0_at C w k1096 d_M_isHere_18 ?_
      refine lv_aload_n hx hb d_M_isHere_21 rfl (lv_at hl 0 rfl) ?_
      refine mg_0_ended C w k1098 d_M_isHere_22 ?_
      refine lv_icmp_ne (tgt := 30) hx hb d_M_isHere_25 (by decide) (fun cd => ?_) (fun cd => ?_)
      · have hf := if_e cd hf
        refine lv_aload_n hx hb d_M_isHere_30 rfl (lv_at hl 0 rfl) ?_
        refine mg_0_at C w k1096 d_M_isHere_31 ?_
        refine lv_topi (fun x_6 ex_6 => ?_)
        have hf := lt_e ex_6 hf
        refine lv_istore_n (lv' := [(2, .int x_6), (0, .ref (q 0)), (1, .ref (q (1 + j)))]) hx hb d_M_isHere_34 rfl hl (by decide) rfl (fun ls hl => ?_)
        exact t_M_isHere_35 C hj  FU x_6 σ_3 _ _ _ hf w (lv_sub hl [1, 2, 0] rfl)
      · have hf := it_e cd hf
        refine lv_iconst (v := 0) hx hb d_M_isHere_28 (by decide) ?_
        obtain ⟨rfl, rfl⟩ := some2_e hf
        exact k_zret C w (by decide) d_M_isHere_29
def f_M_takes (j : Nat) (σ : St) : Option (Int32 × St) :=
  bd (f_M_isHere j σ) fun r_2 σ_3 =>
  if r_2 = 0 then
    some (0, σ_3)
  else
    lt (uI σ_3 1 ((sI σ_3 1) + (Int32.ofNat (wlen j)))) fun σ_4 =>
    lt (uI σ_4 3 (sI σ_4 1)) fun σ_5 =>
    some (1, σ_5)
set_option maxHeartbeats 4000000 in
set_option maxRecDepth 20000 in
theorem c_M_takes {l : Launch} {g : GX} {q : Nat → Nat} {j : Nat} (hj : j < 27)  {σ : St} {r : Int32} {σ2 : St} (hf : f_M_takes j  σ = some (r, σ2)) : KK l y_M_takes prog_13_method_10_code 2 (some .boolean) 2 g (wM g q) σ [.ref (q 0), .ref (q (1 + j))] (some (.int r)) (wM g q) σ2 := by
  refine KK_of (plainFor_of_name (by decide)) (Nat.le_of_ble_eq_true rfl) (fun p e s m below meth c A ls C w hl => ?_)
  have hl : lv_has ls 2 [(0, .ref (q 0)), (1, .ref (q (1 + j)))] := hl
  obtain ⟨hx, hb, hml, hown, hts, hK, hA, hZ, hlocks, hr, hN⟩ := id C
  unfold f_M_takes at hf
  refine lv_aload_n hx hb d_M_takes_0 rfl (lv_at hl 0 rfl) ?_
  refine lv_aload_n hx hb d_M_takes_1 rfl (lv_at hl 1 rfl) ?_
  obtain ⟨r_2, σ_3, h_1, hf⟩ := bd_e hf
  refine k_callV (As := [.ref (q (1 + j))]) (rest := []) C w (c_M_isHere (q := q) hj h_1) cv_M_isHere k1370 (mr_0 C w) (by decide) hl.1 rfl (Nat.le_of_ble_eq_true rfl) d_M_takes_2 (fun H locs w => ?_)
  show WK p l e s m _ below meth c 2 g (wM g q) A (some (.int r)) σ2 H locs (F0 m 5 ls [.int r_2])
  refine lv_if_ne (tgt := 10) hx hb d_M_takes_5 (by decide) (fun cd => ?_) (fun cd => ?_)
  · have hf := if_e cd hf
    refine lv_aload_n hx hb d_M_takes_10 rfl (lv_at hl 0 rfl) ?_
    refine lv_dup hx hb d_M_takes_11 rfl ?_
    refine mg_0_at C w k1096 d_M_takes_12 ?_
    refine lv_aload_n hx hb d_M_takes_15 rfl (lv_at hl 1 rfl) ?_
    refine mn_word C w hj d_M_takes_16 ?_
    refine lv_iadd hx hb d_M_takes_17 ?_
    refine mp_0_at C w k1096 d_M_takes_18 (fun σ_4 H locs eσ_4 w => ?_)
    have hf := lt_e eσ_4 hf
    refine lv_aload_n hx hb d_M_takes_21 rfl (lv_at hl 0 rfl) ?_
    refine lv_aload_n hx hb d_M_takes_22 rfl (lv_at hl 0 rfl) ?_
    refine mg_0_at C w k1096 d_M_takes_23 ?_
    refine mp_0_ended C w k1098 d_M_takes_26 (fun σ_5 H locs eσ_5 w => ?_)
    have hf := lt_e eσ_5 hf
    refine lv_iconst (v := 1) hx hb d_M_takes_29 (by decide) ?_
    obtain ⟨rfl, rfl⟩ := some2_e hf
    exact k_zret C w (by decide) d_M_takes_30
  · have hf := it_e cd hf
    refine lv_iconst (v := 0) hx hb d_M_takes_8 (by decide) ?_
    obtain ⟨rfl, rfl⟩ := some2_e hf
    exact k_zret C w (by decide) d_M_takes_9
def f_M_isDigit (x0 : Int32) (σ : St) : Option (Int32) :=
  if x0 < 48 then
    some 0
  else
    if 57 < x0 then
      some 0
    else
      some 1
set_option maxHeartbeats 4000000 in
set_option maxRecDepth 20000 in
theorem c_M_isDigit {l : Launch} {g : GX} {q : Nat → Nat} {x0 : Int32}  {σ : St} {r : Int32} (hf : f_M_isDigit  x0 σ = some r) : KK l y_M_isDigit prog_13_method_7_code 1 (some .boolean) 0 g (wM g q) σ [.int x0] (some (.int r)) (wM g q) σ := by
  refine KK_of (plainFor_of_name (by decide)) (Nat.le_of_ble_eq_true rfl) (fun p e s m below meth c A ls C w hl => ?_)
  have hl : lv_has ls 1 [(0, .int x0)] := hl
  obtain ⟨hx, hb, hml, hown, hts, hK, hA, hZ, hlocks, hr, hN⟩ := id C
  unfold f_M_isDigit at hf
  refine lv_iload_n hx hb d_M_isDigit_0 rfl (lv_at hl 0 rfl) ?_
  refine lv_bipush (v := 48) hx hb d_M_isDigit_1 (by decide) ?_
  refine lv_icmp_lt (tgt := 16) hx hb d_M_isDigit_3 (by decide) (fun cd => ?_) (fun cd => ?_)
  · have hf := it_e cd hf
    refine lv_iconst (v := 0) hx hb d_M_isDigit_16 (by decide) ?_
    cases some_e hf
    exact k_zret C w (by decide) d_M_isDigit_17
  · have hf := if_e cd hf
    refine lv_iload_n hx hb d_M_isDigit_6 rfl (lv_at hl 0 rfl) ?_
    refine lv_bipush (v := 57) hx hb d_M_isDigit_7 (by decide) ?_
    refine lv_icmp_gt (tgt := 16) hx hb d_M_isDigit_9 (by decide) (fun cd => ?_) (fun cd => ?_)
    · have hf := it_e cd hf
      refine lv_iconst (v := 0) hx hb d_M_isDigit_16 (by decide) ?_
      cases some_e hf
      exact k_zret C w (by decide) d_M_isDigit_17
    · have hf := if_e cd hf
      refine lv_iconst (v := 1) hx hb d_M_isDigit_12 (by decide) ?_
      refine lv_goto (tgt := 17) hx hb d_M_isDigit_13 (by decide) ?_
      cases some_e hf
      exact k_zret C w (by decide) d_M_isDigit_17
def f_M_fail (x1 : Int32) (x2 : Int32) (σ : St) : Option (St) :=
  if (sI σ 4) = 0 then
    lt (uI σ 4 x1) fun σ_1 =>
    lt (uI σ_1 5 x2) fun σ_2 =>
    some σ_2
  else
    some σ
set_option maxHeartbeats 4000000 in
set_option maxRecDepth 20000 in
theorem c_M_fail {l : Launch} {g : GX} {q : Nat → Nat} {x1 : Int32} {x2 : Int32}  {σ : St} {σ2 : St} (hf : f_M_fail  x1 x2 σ = some σ2) : KK l y_M_fail prog_13_method_5_code 3 none 0 g (wM g q) σ [.ref (q 0), .int x1, .int x2] none (wM g q) σ2 := by
  refine KK_of (plainFor_of_name (by decide)) (Nat.le_of_ble_eq_true rfl) (fun p e s m below meth c A ls C w hl => ?_)
  have hl : lv_has ls 3 [(0, .ref (q 0)), (1, .int x1), (2, .int x2)] := hl
  obtain ⟨hx, hb, hml, hown, hts, hK, hA, hZ, hlocks, hr, hN⟩ := id C
  unfold f_M_fail at hf
  refine lv_aload_n hx hb d_M_fail_0 rfl (lv_at hl 0 rfl) ?_
  refine mg_0_bad C w k1099 d_M_fail_1 ?_
  refine lv_if_eq (tgt := 8) hx hb d_M_fail_4 (by decide) (fun cd => ?_) (fun cd => ?_)
  · have hf := it_e cd hf
    refine lv_aload_n hx hb d_M_fail_8 rfl (lv_at hl 0 rfl) ?_
    refine lv_iload_n hx hb d_M_fail_9 rfl (lv_at hl 1 rfl) ?_
    refine mp_0_bad C w k1099 d_M_fail_10 (fun σ_1 H locs eσ_1 w => ?_)
    have hf := lt_e eσ_1 hf
    refine lv_aload_n hx hb d_M_fail_13 rfl (lv_at hl 0 rfl) ?_
    refine lv_iload_n hx hb d_M_fail_14 rfl (lv_at hl 2 rfl) ?_
    refine mp_0_badPlace C w k1100 d_M_fail_15 (fun σ_2 H locs eσ_2 w => ?_)
    have hf := lt_e eσ_2 hf
    cases some_e hf
    exact k_vret C w d_M_fail_18
  · have hf := if_e cd hf
    cases some_e hf
    exact k_vret C w d_M_fail_7
def f_M_isIn (x0 : Int64) (x2 : Int64) (x4 : Int64) (σ : St) : Option (Int32) :=
  if (lg_cmp x0 x2) < 0 then
    some 0
  else
    if 0 < (lg_cmp x0 x4) then
      some 0
    else
      some 1
set_option maxHeartbeats 4000000 in
set_option maxRecDepth 20000 in
theorem c_M_isIn {l : Launch} {g : GX} {q : Nat → Nat} {x0 : Int64} {x2 : Int64} {x4 : Int64}  {σ : St} {r : Int32} (hf : f_M_isIn  x0 x2 x4 σ = some r) : KK l y_M_isIn prog_13_method_2_code 6 (some .boolean) 0 g (wM g q) σ [.long x0, .long x2, .long x4] (some (.int r)) (wM g q) σ := by
  refine KK_of (plainFor_of_name (by decide)) (Nat.le_of_ble_eq_true rfl) (fun p e s m below meth c A ls C w hl => ?_)
  have hl : lv_has ls 6 [(0, .long x0), (2, .long x2), (4, .long x4)] := hl
  obtain ⟨hx, hb, hml, hown, hts, hK, hA, hZ, hlocks, hr, hN⟩ := id C
  unfold f_M_isIn at hf
  refine lv_lload_n hx hb d_M_isIn_0 rfl (lv_at hl 0 rfl) ?_
  refine lv_lload_n hx hb d_M_isIn_1 rfl (lv_at hl 1 rfl) ?_
  refine W.lcmp hx hb d_M_isIn_2 ?_
  refine lv_if_lt (tgt := 17) hx hb d_M_isIn_3 (by decide) (fun cd => ?_) (fun cd => ?_)
  · have hf := it_e cd hf
    refine lv_iconst (v := 0) hx hb d_M_isIn_17 (by decide) ?_
    cases some_e hf
    exact k_zret C w (by decide) d_M_isIn_18
  · have hf := if_e cd hf
    refine lv_lload_n hx hb d_M_isIn_6 rfl (lv_at hl 0 rfl) ?_
    refine lv_lload hx hb d_M_isIn_7 (lv_at hl 2 rfl) ?_
    refine W.lcmp hx hb d_M_isIn_9 ?_
    refine lv_if_gt (tgt := 17) hx hb d_M_isIn_10 (by decide) (fun cd => ?_) (fun cd => ?_)
    · have hf := it_e cd hf
      refine lv_iconst (v := 0) hx hb d_M_isIn_17 (by decide) ?_
      cases some_e hf
      exact k_zret C w (by decide) d_M_isIn_18
    · have hf := if_e cd hf
      refine lv_iconst (v := 1) hx hb d_M_isIn_13 (by decide) ?_
      refine lv_goto (tgt := 18) hx hb d_M_isIn_14 (by decide) ?_
      cases some_e hf
      exact k_zret C w (by decide) d_M_isIn_18
def f_M_number_129 (x1 : Int32) (x2 : Int32) (x3 : Int32) (x4 : Int32) (σ : St) : Option (Int32 × St) :=
  lt (uI σ 3 (sI σ 1)) fun σ_1 =>
  bp (f_M_isIn ((x4).toInt64) ((x1).toInt64) ((x2).toInt64) σ_1) fun r_3 =>
  if r_3 = 0 then
    bp (f_M_fail 2 x3 σ_1) fun σ_5 =>
    some (x4, σ_5)
  else
    some (x4, σ_1)
def f_M_number_49b (k49 : Int32 → Int32 → Int32 → Int32 → St → Option (Int32 × St)) (x1 : Int32) (x2 : Int32) (x3 : Int32) (x4 : Int32) (σ : St) : Option (Int32 × St) :=
  if (sI σ 2) ≤ (sI σ 1) then
    f_M_number_129 x1 x2 x3 x4 σ
  else
    gd (inB (sI σ 1) 1600) <|
    bp (f_M_isDigit (sA σ 0 (sI σ 1).toNatClampNeg) σ) fun r_3 =>
    if r_3 = 0 then
      f_M_number_129 x1 x2 x3 x4 σ
    else
      if ((sI σ 1) - x3) = 4 then
        bp (f_M_fail 1 (sI σ 1) σ) fun σ_8 =>
        some (0, σ_8)
      else
        gd (inB (sI σ 1) 1600) <|
        lt ((((10 * x4) + (sA σ 0 (sI σ 1).toNatClampNeg)) - 48)) fun x_5 =>
        lt (uI σ 1 ((sI σ 1) + 1)) fun σ_6 =>
        k49 x1 x2 x3 x_5 σ_6
def f_M_number_49 : Nat → Int32 → Int32 → Int32 → Int32 → St → Option (Int32 × St)
  | 0 => fun _ _ _ _ _ => none
  | n + 1 => f_M_number_49b   (f_M_number_49   n)
def f_M_number_30 (σ : St) : Option (Int32 × St) :=
  bp (f_M_fail 1 (sI σ 1) σ) fun σ_2 =>
  some (0, σ_2)
def f_M_number (x1 : Int32) (x2 : Int32) (σ : St) : Option (Int32 × St) :=
  if (sI σ 4) = 0 then
    bd (f_M_look σ) fun r_2 σ_3 =>
    bp (f_M_isDigit r_2 σ_3) fun r_5 =>
    if r_5 = 0 then
      f_M_number_30 σ_3
    else
      if (sI σ_3 1) = (sI σ_3 3) then
        f_M_number_30 σ_3
      else
        lt ((sI σ_3 1)) fun x_6 =>
        f_M_number_49 FU x1 x2 x_6 0 σ_3
  else
    some (0, σ)
set_option maxHeartbeats 4000000 in
set_option maxRecDepth 20000 in
theorem t_M_number_129 {r : Int32} {σ2 : St} (C : Cx g A p s m av meth c prog_13_method_14_code 5 "BellHammerModel" (some .int))  {x1 : Int32} {x2 : Int32} {x3 : Int32} {x4 : Int32} {σ : St} {H : Heap} {locs : List Loc} {ls : Array Slot} (hf : f_M_number_129   x1 x2 x3 x4 σ = some (r, σ2)) (w : Wd g (wM g q) A s σ H locs) (hl : lv_has ls 5 [(0, .ref (q 0)), (1, .int x1), (2, .int x2), (3, .int x3), (4, .int x4)]) : WK p l e s m av below meth c 1 g (wM g q) A (some (.int r)) σ2 H locs (F0 m 129 ls []) := by
  obtain ⟨hx, hb, hml, hown, hts, hK, hA, hZ, hlocks, hr, hN⟩ := id C
  unfold f_M_number_129 at hf
  refine lv_aload_n hx hb d_M_number_129 rfl (lv_at hl 0 rfl) ?_
  refine lv_aload_n hx hb d_M_number_130 rfl (lv_at hl 0 rfl) ?_
  refine mg_0_at C w k1096 d_M_number_131 ?_
  refine mp_0_ended C w k1098 d_M_number_134 (fun σ_1 H locs eσ_1 w => ?_)
  have hf := lt_e eσ_1 hf
  refine lv_iload hx hb d_M_number_137 (lv_at hl 4 rfl) ?_
  refine lv_i2l hx hb d_M_number_139 rfl ?_
  refine lv_iload_n hx hb d_M_number_140 rfl (lv_at hl 1 rfl) ?_
  refine lv_i2l hx hb d_M_number_141 rfl ?_
  refine lv_iload_n hx hb d_M_number_142 rfl (lv_at hl 2 rfl) ?_
  refine lv_i2l hx hb d_M_number_143 rfl ?_
  obtain ⟨r_3, h_2, hf⟩ := bp_e hf
  refine k_callS (As := [.long (x4).toInt64, .long (x1).toInt64, .long (x2).toInt64]) (rest := []) C w (c_M_isIn (q := q) h_2) cv_M_isIn k1410 (by decide) hl.1 rfl (Nat.le_of_ble_eq_true rfl) d_M_number_144 (fun H locs w => ?_)
  show WK p l e s m av below meth c 1 g (wM g q) A (some (.int r)) σ2 H locs (F0 m 147 ls [.int r_3])
  refine lv_if_ne (tgt := 156) hx hb d_M_number_147 (by decide) (fun cd => ?_) (fun cd => ?_)
  · have hf := if_e cd hf
    refine lv_iload hx hb d_M_number_156 (lv_at hl 4 rfl) ?_
    obtain ⟨rfl, rfl⟩ := some2_e hf
    exact k_iret C w d_M_number_158
  · have hf := it_e cd hf
    refine lv_aload_n hx hb d_M_number_150 rfl (lv_at hl 0 rfl) ?_
    refine lv_iconst (v := 2) hx hb d_M_number_151 (by decide) ?_
    refine lv_iload_n hx hb d_M_number_152 rfl (lv_at hl 3 rfl) ?_
    obtain ⟨σ_5, h_4, hf⟩ := bp_e hf
    refine k_callV (As := [.int 2, .int x3]) (rest := []) C w (c_M_fail (q := q) h_4) cv_M_fail k1362 (mr_0 C w) (by decide) hl.1 rfl (Nat.le_of_ble_eq_true rfl) d_M_number_153 (fun H locs w => ?_)
    show WK p l e s m av below meth c 1 g (wM g q) A (some (.int r)) σ2 H locs (F0 m 156 ls [])
    refine lv_iload hx hb d_M_number_156 (lv_at hl 4 rfl) ?_
    obtain ⟨rfl, rfl⟩ := some2_e hf
    exact k_iret C w d_M_number_158
set_option maxHeartbeats 4000000 in
set_option maxRecDepth 20000 in
theorem t_M_number_49b {r : Int32} {σ2 : St} (C : Cx g A p s m av meth c prog_13_method_14_code 5 "BellHammerModel" (some .int)) {k49 : Int32 → Int32 → Int32 → Int32 → St → Option (Int32 × St)} (hk49 : ∀ (x1 : Int32) (x2 : Int32) (x3 : Int32) (x4 : Int32) (σ : St) (H : Heap) (locs : List Loc) (ls : Array Slot), k49 x1 x2 x3 x4 σ = some (r, σ2) → Wd g (wM g q) A s σ H locs → lv_has ls 5 [(0, .ref (q 0)), (1, .int x1), (2, .int x2), (3, .int x3), (4, .int x4)] → WK p l e s m av below meth c 1 g (wM g q) A (some (.int r)) σ2 H locs (F0 m 49 ls []))  {x1 : Int32} {x2 : Int32} {x3 : Int32} {x4 : Int32} {σ : St} {H : Heap} {locs : List Loc} {ls : Array Slot} (hf : f_M_number_49b  k49 x1 x2 x3 x4 σ = some (r, σ2)) (w : Wd g (wM g q) A s σ H locs) (hl : lv_has ls 5 [(0, .ref (q 0)), (1, .int x1), (2, .int x2), (3, .int x3), (4, .int x4)]) : WK p l e s m av below meth c 1 g (wM g q) A (some (.int r)) σ2 H locs (F0 m 49 ls []) := by
  obtain ⟨hx, hb, hml, hown, hts, hK, hA, hZ, hlocks, hr, hN⟩ := id C
  unfold f_M_number_49b at hf
  refine lv_aload_n hx hb d_M_number_49 rfl (lv_at hl 0 rfl) ?_
  refine mg_0_at C w k1096 d_M_number_50 ?_
  refine lv_aload_n hx hb d_M_number_53 rfl (lv_at hl 0 rfl) ?_
  refine mg_0_end C w k1097 d_M_number_54 ?_
  refine lv_icmp_ge (tgt := 129) hx hb d_M_number_57 (by decide) (fun cd => ?_) (fun cd => ?_)
  · have hf := it_e cd hf
    exact t_M_number_129 C  hf w (lv_sub hl [0, 1, 2, 3, 4] rfl)
  · have hf := if_e cd hf
    refine lv_aload_n hx hb d_M_number_60 rfl (lv_at hl 0 rfl) ?_
    refine mg_0_tape C w k1094 d_M_number_61 ?_
    refine lv_aload_n hx hb d_M_number_64 rfl (lv_at hl 0 rfl) ?_
    refine mg_0_at C w k1096 d_M_number_65 ?_
    obtain ⟨g_1, hf⟩ := gd_e hf
    refine ml_28 C w g_1 d_M_number_68 ?_
    obtain ⟨r_3, h_2, hf⟩ := bp_e hf
    refine k_callS (As := [.int (sA σ 0 (sI σ 1).toNatClampNeg)]) (rest := []) C w (c_M_isDigit (q := q) h_2) cv_M_isDigit k1407 (by decide) hl.1 rfl (Nat.le_of_ble_eq_true rfl) d_M_number_69 (fun H locs w => ?_)
    show WK p l e s m av below meth c 1 g (wM g q) A (some (.int r)) σ2 H locs (F0 m 72 ls [.int r_3])
    refine lv_if_eq (tgt := 129) hx hb d_M_number_72 (by decide) (fun cd => ?_) (fun cd => ?_)
    · have hf := it_e cd hf
      exact t_M_number_129 C  hf w (lv_sub hl [0, 1, 2, 3, 4] rfl)
    · have hf := if_e cd hf
      refine lv_aload_n hx hb d_M_number_75 rfl (lv_at hl 0 rfl) ?_
      refine mg_0_at C w k1096 d_M_number_76 ?_
      refine lv_iload_n hx hb d_M_number_79 rfl (lv_at hl 3 rfl) ?_
      refine lv_isub hx hb d_M_number_80 ?_
      refine lv_iconst (v := 4) hx hb d_M_number_81 (by decide) ?_
      refine lv_icmp_ne (tgt := 96) hx hb d_M_number_82 (by decide) (fun cd => ?_) (fun cd => ?_)
      · have hf := if_e cd hf
        refine lv_bipush (v := 10) hx hb d_M_number_96 (by decide) ?_
        refine lv_iload hx hb d_M_number_98 (lv_at hl 4 rfl) ?_
        refine lv_imul hx hb d_M_number_100 ?_
        refine lv_aload_n hx hb d_M_number_101 rfl (lv_at hl 0 rfl) ?_
        refine mg_0_tape C w k1094 d_M_number_102 ?_
        refine lv_aload_n hx hb d_M_number_105 rfl (lv_at hl 0 rfl) ?_
        refine mg_0_at C w k1096 d_M_number_106 ?_
        obtain ⟨g_4, hf⟩ := gd_e hf
        refine ml_28 C w g_4 d_M_number_109 ?_
        refine lv_iadd hx hb d_M_number_110 ?_
        refine lv_bipush (v := 48) hx hb d_M_number_111 (by decide) ?_
        refine lv_isub hx hb d_M_number_113 ?_
        refine lv_topi (fun x_5 ex_5 => ?_)
        have hf := lt_e ex_5 hf
        refine lv_istore (lv' := [(4, .int x_5), (0, .ref (q 0)), (1, .int x1), (2, .int x2), (3, .int x3)]) hx hb d_M_number_114 hl (by decide) rfl (fun ls hl => ?_)
        refine lv_aload_n hx hb d_M_number_116 rfl (lv_at hl 1 rfl) ?_
        refine lv_dup hx hb d_M_number_117 rfl ?_
        refine mg_0_at C w k1096 d_M_number_118 ?_
        refine lv_iconst (v := 1) hx hb d_M_number_121 (by decide) ?_
        refine lv_iadd hx hb d_M_number_122 ?_
        refine mp_0_at C w k1096 d_M_number_123 (fun σ_6 H locs eσ_6 w => ?_)
        have hf := lt_e eσ_6 hf
        refine lv_goto (tgt := 49) hx hb d_M_number_126 (by decide) ?_
        exact hk49 x1 x2 x3 x_5 σ_6 _ _ _ hf w (lv_sub hl [1, 2, 3, 4, 0] rfl)
      · have hf := it_e cd hf
        refine lv_aload_n hx hb d_M_number_85 rfl (lv_at hl 0 rfl) ?_
        refine lv_iconst (v := 1) hx hb d_M_number_86 (by decide) ?_
        refine lv_aload_n hx hb d_M_number_87 rfl (lv_at hl 0 rfl) ?_
        refine mg_0_at C w k1096 d_M_number_88 ?_
        obtain ⟨σ_8, h_7, hf⟩ := bp_e hf
        refine k_callV (As := [.int 1, .int (sI σ 1)]) (rest := []) C w (c_M_fail (q := q) h_7) cv_M_fail k1362 (mr_0 C w) (by decide) hl.1 rfl (Nat.le_of_ble_eq_true rfl) d_M_number_91 (fun H locs w => ?_)
        show WK p l e s m av below meth c 1 g (wM g q) A (some (.int r)) σ2 H locs (F0 m 94 ls [])
        refine lv_iconst (v := 0) hx hb d_M_number_94 (by decide) ?_
        obtain ⟨rfl, rfl⟩ := some2_e hf
        exact k_iret C w d_M_number_95
set_option maxHeartbeats 4000000 in
set_option maxRecDepth 20000 in
theorem t_M_number_49 {r : Int32} {σ2 : St} (C : Cx g A p s m av meth c prog_13_method_14_code 5 "BellHammerModel" (some .int))  : ∀ (n : Nat) (x1 : Int32) (x2 : Int32) (x3 : Int32) (x4 : Int32) (σ : St) (H : Heap) (locs : List Loc) (ls : Array Slot), f_M_number_49   n x1 x2 x3 x4 σ = some (r, σ2) → Wd g (wM g q) A s σ H locs → lv_has ls 5 [(0, .ref (q 0)), (1, .int x1), (2, .int x2), (3, .int x3), (4, .int x4)] → WK p l e s m av below meth c 1 g (wM g q) A (some (.int r)) σ2 H locs (F0 m 49 ls []) := by
  intro n
  induction n with
  | zero => intro x1 x2 x3 x4 σ H locs ls hf; exact absurd hf (by intro z; cases z)
  | succ n ih => intro x1 x2 x3 x4 σ H locs ls hf w hl; exact t_M_number_49b C  ih hf w hl
set_option maxHeartbeats 4000000 in
set_option maxRecDepth 20000 in
theorem t_M_number_30 {r : Int32} {σ2 : St} (C : Cx g A p s m av meth c prog_13_method_14_code 5 "BellHammerModel" (some .int))  {σ : St} {H : Heap} {locs : List Loc} {ls : Array Slot} (hf : f_M_number_30    σ = some (r, σ2)) (w : Wd g (wM g q) A s σ H locs) (hl : lv_has ls 5 [(0, .ref (q 0))]) : WK p l e s m av below meth c 1 g (wM g q) A (some (.int r)) σ2 H locs (F0 m 30 ls []) := by
  obtain ⟨hx, hb, hml, hown, hts, hK, hA, hZ, hlocks, hr, hN⟩ := id C
  unfold f_M_number_30 at hf
  refine lv_aload_n hx hb d_M_number_30 rfl (lv_at hl 0 rfl) ?_
  refine lv_iconst (v := 1) hx hb d_M_number_31 (by decide) ?_
  refine lv_aload_n hx hb d_M_number_32 rfl (lv_at hl 0 rfl) ?_
  refine mg_0_at C w k1096 d_M_number_33 ?_
  obtain ⟨σ_2, h_1, hf⟩ := bp_e hf
  refine k_callV (As := [.int 1, .int (sI σ 1)]) (rest := []) C w (c_M_fail (q := q) h_1) cv_M_fail k1362 (mr_0 C w) (by decide) hl.1 rfl (Nat.le_of_ble_eq_true rfl) d_M_number_36 (fun H locs w => ?_)
  show WK p l e s m av below meth c 1 g (wM g q) A (some (.int r)) σ2 H locs (F0 m 39 ls [])
  refine lv_iconst (v := 0) hx hb d_M_number_39 (by decide) ?_
  obtain ⟨rfl, rfl⟩ := some2_e hf
  exact k_iret C w d_M_number_40
set_option maxHeartbeats 4000000 in
set_option maxRecDepth 20000 in
theorem c_M_number {l : Launch} {g : GX} {q : Nat → Nat} {x1 : Int32} {x2 : Int32}  {σ : St} {r : Int32} {σ2 : St} (hf : f_M_number  x1 x2 σ = some (r, σ2)) : KK l y_M_number prog_13_method_14_code 5 (some .int) 1 g (wM g q) σ [.ref (q 0), .int x1, .int x2] (some (.int r)) (wM g q) σ2 := by
  refine KK_of (plainFor_of_name (by decide)) (Nat.le_of_ble_eq_true rfl) (fun p e s m below meth c A ls C w hl => ?_)
  have hl : lv_has ls 5 [(0, .ref (q 0)), (1, .int x1), (2, .int x2)] := hl
  obtain ⟨hx, hb, hml, hown, hts, hK, hA, hZ, hlocks, hr, hN⟩ := id C
  unfold f_M_number at hf
  refine lv_aload_n hx hb d_M_number_0 rfl (lv_at hl 0 rfl) ?_
  refine mg_0_bad C w k1099 d_M_number_1 ?_
  refine lv_if_eq (tgt := 9) hx hb d_M_number_4 (by decide) (fun cd => ?_) (fun cd => ?_)
  · have hf := it_e cd hf
    refine lv_aload_n hx hb d_M_number_9 rfl (lv_at hl 0 rfl) ?_
    obtain ⟨r_2, σ_3, h_1, hf⟩ := bd_e hf
    refine k_callV (As := []) (rest := []) C w (c_M_look (q := q) h_1) cv_M_look k1354 (mr_0 C w) (by decide) hl.1 rfl (Nat.le_of_ble_eq_true rfl) d_M_number_10 (fun H locs w => ?_)
    show WK p l e s m _ below meth c 1 g (wM g q) A (some (.int r)) σ2 H locs (F0 m 13 ls [.int r_2])
    obtain ⟨r_5, h_4, hf⟩ := bp_e hf
    refine k_callS (As := [.int r_2]) (rest := []) C w (c_M_isDigit (q := q) h_4) cv_M_isDigit k1407 (by decide) hl.1 rfl (Nat.le_of_ble_eq_true rfl) d_M_number_13 (fun H locs w => ?_)
    show WK p l e s m _ below meth c 1 g (wM g q) A (some (.int r)) σ2 H locs (F0 m 16 ls [.int r_5])
    refine lv_if_eq (tgt := 30) hx hb d_M_number_16 (by decide) (fun cd => ?_) (fun cd => ?_)
    · have hf := it_e cd hf
      exact t_M_number_30 C  hf w (lv_sub hl [0] rfl)
    · have hf := if_e cd hf
      refine lv_aload_n hx hb d_M_number_19 rfl (lv_at hl 0 rfl) ?_
      refine mg_0_at C w k1096 d_M_number_20 ?_
      refine lv_aload_n hx hb d_M_number_23 rfl (lv_at hl 0 rfl) ?_
      refine mg_0_ended C w k1098 d_M_number_24 ?_
      refine lv_icmp_ne (tgt := 41) hx hb d_M_number_27 (by decide) (fun cd => ?_) (fun cd => ?_)
      · have hf := if_e cd hf
        refine lv_aload_n hx hb d_M_number_41 rfl (lv_at hl 0 rfl) ?_
        refine mg_0_at C w k1096 d_M_number_42 ?_
        refine lv_topi (fun x_6 ex_6 => ?_)
        have hf := lt_e ex_6 hf
        refine lv_istore_n (lv' := [(3, .int x_6), (0, .ref (q 0)), (1, .int x1), (2, .int x2)]) hx hb d_M_number_45 rfl hl (by decide) rfl (fun ls hl => ?_)
        refine lv_iconst (v := 0) hx hb d_M_number_46 (by decide) ?_
        refine lv_istore (lv' := [(4, .int 0), (3, .int x_6), (0, .ref (q 0)), (1, .int x1), (2, .int x2)]) hx hb d_M_number_47 hl (by decide) rfl (fun ls hl => ?_)
        exact t_M_number_49 C  FU x1 x2 x_6 0 σ_3 _ _ _ hf w (lv_sub hl [2, 3, 4, 1, 0] rfl)
      · have hf := it_e cd hf
        exact t_M_number_30 C  hf w (lv_sub hl [0] rfl)
  · have hf := if_e cd hf
    refine lv_iconst (v := 0) hx hb d_M_number_7 (by decide) ?_
    obtain ⟨rfl, rfl⟩ := some2_e hf
    exact k_iret C w d_M_number_8
def f_M_asks (j : Nat) (σ : St) : Option (St) :=
  if (sI σ 4) = 0 then
    bd (f_M_takes j σ) fun r_2 σ_3 =>
    if r_2 = 0 then
      bp (f_M_fail 1 (sI σ_3 1) σ_3) fun σ_5 =>
      some σ_5
    else
      some σ_3
  else
    some σ
set_option maxHeartbeats 4000000 in
set_option maxRecDepth 20000 in
theorem c_M_asks {l : Launch} {g : GX} {q : Nat → Nat} {j : Nat} (hj : j < 27)  {σ : St} {σ2 : St} (hf : f_M_asks j  σ = some σ2) : KK l y_M_asks prog_13_method_11_code 2 none 3 g (wM g q) σ [.ref (q 0), .ref (q (1 + j))] none (wM g q) σ2 := by
  refine KK_of (plainFor_of_name (by decide)) (Nat.le_of_ble_eq_true rfl) (fun p e s m below meth c A ls C w hl => ?_)
  have hl : lv_has ls 2 [(0, .ref (q 0)), (1, .ref (q (1 + j)))] := hl
  obtain ⟨hx, hb, hml, hown, hts, hK, hA, hZ, hlocks, hr, hN⟩ := id C
  unfold f_M_asks at hf
  refine lv_aload_n hx hb d_M_asks_0 rfl (lv_at hl 0 rfl) ?_
  refine mg_0_bad C w k1099 d_M_asks_1 ?_
  refine lv_if_ne (tgt := 24) hx hb d_M_asks_4 (by decide) (fun cd => ?_) (fun cd => ?_)
  · have hf := if_e cd hf
    cases some_e hf
    exact k_vret C w d_M_asks_24
  · have hf := it_e cd hf
    refine lv_aload_n hx hb d_M_asks_7 rfl (lv_at hl 0 rfl) ?_
    refine lv_aload_n hx hb d_M_asks_8 rfl (lv_at hl 1 rfl) ?_
    obtain ⟨r_2, σ_3, h_1, hf⟩ := bd_e hf
    refine k_callV (As := [.ref (q (1 + j))]) (rest := []) C w (c_M_takes (q := q) hj h_1) cv_M_takes k1366 (mr_0 C w) (by decide) hl.1 rfl (Nat.le_of_ble_eq_true rfl) d_M_asks_9 (fun H locs w => ?_)
    show WK p l e s m _ below meth c 3 g (wM g q) A none σ2 H locs (F0 m 12 ls [.int r_2])
    refine lv_if_ne (tgt := 24) hx hb d_M_asks_12 (by decide) (fun cd => ?_) (fun cd => ?_)
    · have hf := if_e cd hf
      cases some_e hf
      exact k_vret C w d_M_asks_24
    · have hf := it_e cd hf
      refine lv_aload_n hx hb d_M_asks_15 rfl (lv_at hl 0 rfl) ?_
      refine lv_iconst (v := 1) hx hb d_M_asks_16 (by decide) ?_
      refine lv_aload_n hx hb d_M_asks_17 rfl (lv_at hl 0 rfl) ?_
      refine mg_0_at C w k1096 d_M_asks_18 ?_
      obtain ⟨σ_5, h_4, hf⟩ := bp_e hf
      refine k_callV (As := [.int 1, .int (sI σ_3 1)]) (rest := []) C w (c_M_fail (q := q) h_4) cv_M_fail k1362 (mr_0 C w) (by decide) hl.1 rfl (Nat.le_of_ble_eq_true rfl) d_M_asks_21 (fun H locs w => ?_)
      show WK p l e s m _ below meth c 3 g (wM g q) A none σ2 H locs (F0 m 24 ls [])
      cases some_e hf
      exact k_vret C w d_M_asks_24
def f_M_settingTold_225 (t0 : Int32) (t1 : Int32) (t3 : Int32) (σ : St) : Option (St) :=
  bd (f_M_number t1 t0 σ) fun r_2 σ_3 =>
  gd (inB t3 18) <|
  lt (uA σ_3 5 (upd (sA σ_3 5) t3.toNatClampNeg r_2)) fun σ_5 =>
  some σ_5
def f_M_settingTold_184 (x1 : Int32) (t0 : Int32) (t2 : Int32) (σ : St) : Option (St) :=
  if x1 = 1 then
    f_M_settingTold_225 9 t0 t2 σ
  else
    if x1 = 2 then
      f_M_settingTold_225 4 t0 t2 σ
    else
      if x1 = 3 then
        f_M_settingTold_225 90 t0 t2 σ
      else
        if x1 = 5 then
          f_M_settingTold_225 20 t0 t2 σ
        else
          f_M_settingTold_225 99 t0 t2 σ
def f_M_settingTold_179 (x1 : Int32) (t1 : Int32) (σ : St) : Option (St) :=
  f_M_settingTold_184 x1 0 t1 σ
def f_M_settingTold_92 (t0 : Int32) (σ : St) : Option (St) :=
  if t0 = 6 then
    bp (f_M_asks 17 σ) fun σ_2 =>
    bd (f_M_number 0 9 σ_2) fun r_4 σ_5 =>
    bd (f_M_number 0 9 σ_5) fun r_7 σ_8 =>
    bd (f_M_number 0 9 σ_8) fun r_10 σ_11 =>
    lt (uA σ_11 5 (upd (sA σ_11 5) (6 : Int32).toNatClampNeg r_4)) fun σ_12 =>
    lt (uA σ_12 5 (upd (sA σ_12 5) (7 : Int32).toNatClampNeg r_7)) fun σ_13 =>
    lt (uA σ_13 5 (upd (sA σ_13 5) (8 : Int32).toNatClampNeg r_10)) fun σ_14 =>
    some σ_14
  else
    if t0 = 3 then
      f_M_settingTold_179 t0 t0 σ
    else
      if t0 = 4 then
        f_M_settingTold_179 t0 t0 σ
      else
        if t0 = 5 then
          f_M_settingTold_179 t0 t0 σ
        else
          f_M_settingTold_184 t0 1 t0 σ
def f_M_settingTold (σ : St) : Option (St) :=
  bd (f_M_takes 11 σ) fun r_2 σ_3 =>
  if r_2 = 0 then
    bd (f_M_takes 12 σ_3) fun r_5 σ_6 =>
    if r_5 = 0 then
      bd (f_M_takes 13 σ_6) fun r_8 σ_9 =>
      if r_8 = 0 then
        bd (f_M_takes 14 σ_9) fun r_11 σ_12 =>
        if r_11 = 0 then
          bd (f_M_takes 15 σ_12) fun r_14 σ_15 =>
          if r_14 = 0 then
            bd (f_M_takes 16 σ_15) fun r_17 σ_18 =>
            if r_17 = 0 then
              f_M_settingTold_92 6 σ_18
            else
              f_M_settingTold_92 5 σ_18
          else
            f_M_settingTold_92 4 σ_15
        else
          f_M_settingTold_92 3 σ_12
      else
        f_M_settingTold_92 2 σ_9
    else
      f_M_settingTold_92 1 σ_6
  else
    f_M_settingTold_92 0 σ_3
set_option maxHeartbeats 4000000 in
set_option maxRecDepth 20000 in
theorem t_M_settingTold_225 {σ2 : St} (C : Cx g A p s m av meth c prog_13_method_23_code 5 "BellHammerModel" none)  {t0 : Int32} {t1 : Int32} {t3 : Int32} {σ : St} {H : Heap} {locs : List Loc} {ls : Array Slot} (hf : f_M_settingTold_225   t0 t1 t3 σ = some σ2) (w : Wd g (wM g q) A s σ H locs) (hl : lv_has ls 5 []) : WK p l e s m av below meth c 4 g (wM g q) A none σ2 H locs (F0 m 225 ls [.int t0, .int t1, .ref (q 0), .int t3, .ref (q 34)]) := by
  obtain ⟨hx, hb, hml, hown, hts, hK, hA, hZ, hlocks, hr, hN⟩ := id C
  unfold f_M_settingTold_225 at hf
  obtain ⟨r_2, σ_3, h_1, hf⟩ := bd_e hf
  refine k_callV (As := [.int t1, .int t0]) (rest := [.int t3, .ref (q 34)]) C w (c_M_number (q := q) h_1) cv_M_number k1403 (mr_0 C w) (by decide) hl.1 rfl (Nat.le_of_ble_eq_true rfl) d_M_settingTold_225 (fun H locs w => ?_)
  show WK p l e s m av below meth c 4 g (wM g q) A none σ2 H locs (F0 m 228 ls [.int r_2, .int t3, .ref (q 34)])
  obtain ⟨g_4, hf⟩ := gd_e hf
  refine ms_34 C w g_4 d_M_settingTold_228 (fun σ_5 H locs eσ_5 w => ?_)
  have hf := lt_e eσ_5 hf
  cases some_e hf
  exact k_vret C w d_M_settingTold_229
set_option maxHeartbeats 4000000 in
set_option maxRecDepth 20000 in
theorem t_M_settingTold_184 {σ2 : St} (C : Cx g A p s m av meth c prog_13_method_23_code 5 "BellHammerModel" none)  {x1 : Int32} {t0 : Int32} {t2 : Int32} {σ : St} {H : Heap} {locs : List Loc} {ls : Array Slot} (hf : f_M_settingTold_184   x1 t0 t2 σ = some σ2) (w : Wd g (wM g q) A s σ H locs) (hl : lv_has ls 5 [(1, .int x1)]) : WK p l e s m av below meth c 4 g (wM g q) A none σ2 H locs (F0 m 184 ls [.int t0, .ref (q 0), .int t2, .ref (q 34)]) := by
  obtain ⟨hx, hb, hml, hown, hts, hK, hA, hZ, hlocks, hr, hN⟩ := id C
  unfold f_M_settingTold_184 at hf
  refine lv_iload_n hx hb d_M_settingTold_184 rfl (lv_at hl 0 rfl) ?_
  refine lv_iconst (v := 1) hx hb d_M_settingTold_185 (by decide) ?_
  refine lv_icmp_ne (tgt := 194) hx hb d_M_settingTold_186 (by decide) (fun cd => ?_) (fun cd => ?_)
  · have hf := if_e cd hf
    refine lv_iload_n hx hb d_M_settingTold_194 rfl (lv_at hl 0 rfl) ?_
    refine lv_iconst (v := 2) hx hb d_M_settingTold_195 (by decide) ?_
    refine lv_icmp_ne (tgt := 203) hx hb d_M_settingTold_196 (by decide) (fun cd => ?_) (fun cd => ?_)
    · have hf := if_e cd hf
      refine lv_iload_n hx hb d_M_settingTold_203 rfl (lv_at hl 0 rfl) ?_
      refine lv_iconst (v := 3) hx hb d_M_settingTold_204 (by decide) ?_
      refine lv_icmp_ne (tgt := 213) hx hb d_M_settingTold_205 (by decide) (fun cd => ?_) (fun cd => ?_)
      · have hf := if_e cd hf
        refine lv_iload_n hx hb d_M_settingTold_213 rfl (lv_at hl 0 rfl) ?_
        refine lv_iconst (v := 5) hx hb d_M_settingTold_214 (by decide) ?_
        refine lv_icmp_ne (tgt := 223) hx hb d_M_settingTold_215 (by decide) (fun cd => ?_) (fun cd => ?_)
        · have hf := if_e cd hf
          refine lv_bipush (v := 99) hx hb d_M_settingTold_223 (by decide) ?_
          exact t_M_settingTold_225 C  hf w (lv_sub hl [] rfl)
        · have hf := it_e cd hf
          refine lv_bipush (v := 20) hx hb d_M_settingTold_218 (by decide) ?_
          refine lv_goto (tgt := 225) hx hb d_M_settingTold_220 (by decide) ?_
          exact t_M_settingTold_225 C  hf w (lv_sub hl [] rfl)
      · have hf := it_e cd hf
        refine lv_bipush (v := 90) hx hb d_M_settingTold_208 (by decide) ?_
        refine lv_goto (tgt := 225) hx hb d_M_settingTold_210 (by decide) ?_
        exact t_M_settingTold_225 C  hf w (lv_sub hl [] rfl)
    · have hf := it_e cd hf
      refine lv_iconst (v := 4) hx hb d_M_settingTold_199 (by decide) ?_
      refine lv_goto (tgt := 225) hx hb d_M_settingTold_200 (by decide) ?_
      exact t_M_settingTold_225 C  hf w (lv_sub hl [] rfl)
  · have hf := it_e cd hf
    refine lv_bipush (v := 9) hx hb d_M_settingTold_189 (by decide) ?_
    refine lv_goto (tgt := 225) hx hb d_M_settingTold_191 (by decide) ?_
    exact t_M_settingTold_225 C  hf w (lv_sub hl [] rfl)
set_option maxHeartbeats 4000000 in
set_option maxRecDepth 20000 in
theorem t_M_settingTold_179 {σ2 : St} (C : Cx g A p s m av meth c prog_13_method_23_code 5 "BellHammerModel" none)  {x1 : Int32} {t1 : Int32} {σ : St} {H : Heap} {locs : List Loc} {ls : Array Slot} (hf : f_M_settingTold_179   x1 t1 σ = some σ2) (w : Wd g (wM g q) A s σ H locs) (hl : lv_has ls 5 [(1, .int x1)]) : WK p l e s m av below meth c 4 g (wM g q) A none σ2 H locs (F0 m 179 ls [.ref (q 0), .int t1, .ref (q 34)]) := by
  obtain ⟨hx, hb, hml, hown, hts, hK, hA, hZ, hlocks, hr, hN⟩ := id C
  unfold f_M_settingTold_179 at hf
  refine lv_iconst (v := 0) hx hb d_M_settingTold_179 (by decide) ?_
  refine lv_goto (tgt := 184) hx hb d_M_settingTold_180 (by decide) ?_
  exact t_M_settingTold_184 C  hf w (lv_sub hl [0] rfl)
set_option maxHeartbeats 4000000 in
set_option maxRecDepth 20000 in
theorem t_M_settingTold_92 {σ2 : St} (C : Cx g A p s m av meth c prog_13_method_23_code 5 "BellHammerModel" none)  {t0 : Int32} {σ : St} {H : Heap} {locs : List Loc} {ls : Array Slot} (hf : f_M_settingTold_92   t0 σ = some σ2) (w : Wd g (wM g q) A s σ H locs) (hl : lv_has ls 5 [(0, .ref (q 0))]) : WK p l e s m av below meth c 4 g (wM g q) A none σ2 H locs (F0 m 92 ls [.int t0]) := by
  obtain ⟨hx, hb, hml, hown, hts, hK, hA, hZ, hlocks, hr, hN⟩ := id C
  unfold f_M_settingTold_92 at hf
  refine lv_istore_n (lv' := [(1, .int t0), (0, .ref (q 0))]) hx hb d_M_settingTold_92 rfl hl (by decide) rfl (fun ls hl => ?_)
  refine lv_iload_n hx hb d_M_settingTold_93 rfl (lv_at hl 0 rfl) ?_
  refine lv_bipush (v := 6) hx hb d_M_settingTold_94 (by decide) ?_
  refine lv_icmp_ne (tgt := 158) hx hb d_M_settingTold_96 (by decide) (fun cd => ?_) (fun cd => ?_)
  · have hf := if_e cd hf
    refine lv_aload_n hx hb d_M_settingTold_158 rfl (lv_at hl 1 rfl) ?_
    refine mg_0_told C w k1136 d_M_settingTold_159 ?_
    refine lv_iload_n hx hb d_M_settingTold_162 rfl (lv_at hl 0 rfl) ?_
    refine lv_aload_n hx hb d_M_settingTold_163 rfl (lv_at hl 1 rfl) ?_
    refine lv_iload_n hx hb d_M_settingTold_164 rfl (lv_at hl 0 rfl) ?_
    refine lv_iconst (v := 3) hx hb d_M_settingTold_165 (by decide) ?_
    refine lv_icmp_eq (tgt := 179) hx hb d_M_settingTold_166 (by decide) (fun cd => ?_) (fun cd => ?_)
    · have hf := it_e cd hf
      exact t_M_settingTold_179 C  hf w (lv_sub hl [0] rfl)
    · have hf := if_e cd hf
      refine lv_iload_n hx hb d_M_settingTold_169 rfl (lv_at hl 0 rfl) ?_
      refine lv_iconst (v := 4) hx hb d_M_settingTold_170 (by decide) ?_
      refine lv_icmp_eq (tgt := 179) hx hb d_M_settingTold_171 (by decide) (fun cd => ?_) (fun cd => ?_)
      · have hf := it_e cd hf
        exact t_M_settingTold_179 C  hf w (lv_sub hl [0] rfl)
      · have hf := if_e cd hf
        refine lv_iload_n hx hb d_M_settingTold_174 rfl (lv_at hl 0 rfl) ?_
        refine lv_iconst (v := 5) hx hb d_M_settingTold_175 (by decide) ?_
        refine lv_icmp_ne (tgt := 183) hx hb d_M_settingTold_176 (by decide) (fun cd => ?_) (fun cd => ?_)
        · have hf := if_e cd hf
          refine lv_iconst (v := 1) hx hb d_M_settingTold_183 (by decide) ?_
          exact t_M_settingTold_184 C  hf w (lv_sub hl [0] rfl)
        · have hf := it_e cd hf
          exact t_M_settingTold_179 C  hf w (lv_sub hl [0] rfl)
  · have hf := it_e cd hf
    refine lv_aload_n hx hb d_M_settingTold_99 rfl (lv_at hl 1 rfl) ?_
    refine lv_aload_n hx hb d_M_settingTold_100 rfl (lv_at hl 1 rfl) ?_
    refine mg_0_comesWord C w k1121 d_M_settingTold_101 ?_
    obtain ⟨σ_2, h_1, hf⟩ := bp_e hf
    refine k_callV (As := [.ref (q (1 + 17))]) (rest := []) C w (c_M_asks (q := q) (j := 17) (by decide) h_1) cv_M_asks k1399 (mr_0 C w) (by decide) hl.1 rfl (Nat.le_of_ble_eq_true rfl) d_M_settingTold_104 (fun H locs w => ?_)
    show WK p l e s m av below meth c 4 g (wM g q) A none σ2 H locs (F0 m 107 ls [])
    refine lv_aload_n hx hb d_M_settingTold_107 rfl (lv_at hl 1 rfl) ?_
    refine lv_iconst (v := 0) hx hb d_M_settingTold_108 (by decide) ?_
    refine lv_bipush (v := 9) hx hb d_M_settingTold_109 (by decide) ?_
    obtain ⟨r_4, σ_5, h_3, hf⟩ := bd_e hf
    refine k_callV (As := [.int 0, .int 9]) (rest := []) C w (c_M_number (q := q) h_3) cv_M_number k1403 (mr_0 C w) (by decide) hl.1 rfl (Nat.le_of_ble_eq_true rfl) d_M_settingTold_111 (fun H locs w => ?_)
    show WK p l e s m av below meth c 4 g (wM g q) A none σ2 H locs (F0 m 114 ls [.int r_4])
    refine lv_istore_n (lv' := [(2, .int r_4), (1, .int t0), (0, .ref (q 0))]) hx hb d_M_settingTold_114 rfl hl (by decide) rfl (fun ls hl => ?_)
    refine lv_aload_n hx hb d_M_settingTold_115 rfl (lv_at hl 2 rfl) ?_
    refine lv_iconst (v := 0) hx hb d_M_settingTold_116 (by decide) ?_
    refine lv_bipush (v := 9) hx hb d_M_settingTold_117 (by decide) ?_
    obtain ⟨r_7, σ_8, h_6, hf⟩ := bd_e hf
    refine k_callV (As := [.int 0, .int 9]) (rest := []) C w (c_M_number (q := q) h_6) cv_M_number k1403 (mr_0 C w) (by decide) hl.1 rfl (Nat.le_of_ble_eq_true rfl) d_M_settingTold_119 (fun H locs w => ?_)
    show WK p l e s m av below meth c 4 g (wM g q) A none σ2 H locs (F0 m 122 ls [.int r_7])
    refine lv_istore_n (lv' := [(3, .int r_7), (2, .int r_4), (1, .int t0), (0, .ref (q 0))]) hx hb d_M_settingTold_122 rfl hl (by decide) rfl (fun ls hl => ?_)
    refine lv_aload_n hx hb d_M_settingTold_123 rfl (lv_at hl 3 rfl) ?_
    refine lv_iconst (v := 0) hx hb d_M_settingTold_124 (by decide) ?_
    refine lv_bipush (v := 9) hx hb d_M_settingTold_125 (by decide) ?_
    obtain ⟨r_10, σ_11, h_9, hf⟩ := bd_e hf
    refine k_callV (As := [.int 0, .int 9]) (rest := []) C w (c_M_number (q := q) h_9) cv_M_number k1403 (mr_0 C w) (by decide) hl.1 rfl (Nat.le_of_ble_eq_true rfl) d_M_settingTold_127 (fun H locs w => ?_)
    show WK p l e s m av below meth c 4 g (wM g q) A none σ2 H locs (F0 m 130 ls [.int r_10])
    refine lv_istore (lv' := [(4, .int r_10), (3, .int r_7), (2, .int r_4), (1, .int t0), (0, .ref (q 0))]) hx hb d_M_settingTold_130 hl (by decide) rfl (fun ls hl => ?_)
    refine lv_aload_n hx hb d_M_settingTold_132 rfl (lv_at hl 4 rfl) ?_
    refine mg_0_told C w k1136 d_M_settingTold_133 ?_
    refine lv_bipush (v := 6) hx hb d_M_settingTold_136 (by decide) ?_
    refine lv_iload_n hx hb d_M_settingTold_138 rfl (lv_at hl 2 rfl) ?_
    refine ms_34 C w (by decide) d_M_settingTold_139 (fun σ_12 H locs eσ_12 w => ?_)
    have hf := lt_e eσ_12 hf
    refine lv_aload_n hx hb d_M_settingTold_140 rfl (lv_at hl 4 rfl) ?_
    refine mg_0_told C w k1136 d_M_settingTold_141 ?_
    refine lv_bipush (v := 7) hx hb d_M_settingTold_144 (by decide) ?_
    refine lv_iload_n hx hb d_M_settingTold_146 rfl (lv_at hl 1 rfl) ?_
    refine ms_34 C w (by decide) d_M_settingTold_147 (fun σ_13 H locs eσ_13 w => ?_)
    have hf := lt_e eσ_13 hf
    refine lv_aload_n hx hb d_M_settingTold_148 rfl (lv_at hl 4 rfl) ?_
    refine mg_0_told C w k1136 d_M_settingTold_149 ?_
    refine lv_bipush (v := 8) hx hb d_M_settingTold_152 (by decide) ?_
    refine lv_iload hx hb d_M_settingTold_154 (lv_at hl 0 rfl) ?_
    refine ms_34 C w (by decide) d_M_settingTold_156 (fun σ_14 H locs eσ_14 w => ?_)
    have hf := lt_e eσ_14 hf
    cases some_e hf
    exact k_vret C w d_M_settingTold_157
set_option maxHeartbeats 4000000 in
set_option maxRecDepth 20000 in
theorem c_M_settingTold {l : Launch} {g : GX} {q : Nat → Nat}  {σ : St} {σ2 : St} (hf : f_M_settingTold   σ = some σ2) : KK l y_M_settingTold prog_13_method_23_code 5 none 4 g (wM g q) σ [.ref (q 0)] none (wM g q) σ2 := by
  refine KK_of (plainFor_of_name (by decide)) (Nat.le_of_ble_eq_true rfl) (fun p e s m below meth c A ls C w hl => ?_)
  have hl : lv_has ls 5 [(0, .ref (q 0))] := hl
  obtain ⟨hx, hb, hml, hown, hts, hK, hA, hZ, hlocks, hr, hN⟩ := id C
  unfold f_M_settingTold at hf
  refine lv_aload_n hx hb d_M_settingTold_0 rfl (lv_at hl 0 rfl) ?_
  refine lv_aload_n hx hb d_M_settingTold_1 rfl (lv_at hl 0 rfl) ?_
  refine mg_0_bellWord C w k1115 d_M_settingTold_2 ?_
  obtain ⟨r_2, σ_3, h_1, hf⟩ := bd_e hf
  refine k_callV (As := [.ref (q (1 + 11))]) (rest := []) C w (c_M_takes (q := q) (j := 11) (by decide) h_1) cv_M_takes k1366 (mr_0 C w) (by decide) hl.1 rfl (Nat.le_of_ble_eq_true rfl) d_M_settingTold_5 (fun H locs w => ?_)
  show WK p l e s m _ below meth c 4 g (wM g q) A none σ2 H locs (F0 m 8 ls [.int r_2])
  refine lv_if_eq (tgt := 15) hx hb d_M_settingTold_8 (by decide) (fun cd => ?_) (fun cd => ?_)
  · have hf := it_e cd hf
    refine lv_aload_n hx hb d_M_settingTold_15 rfl (lv_at hl 0 rfl) ?_
    refine lv_aload_n hx hb d_M_settingTold_16 rfl (lv_at hl 0 rfl) ?_
    refine mg_0_priceWord C w k1116 d_M_settingTold_17 ?_
    obtain ⟨r_5, σ_6, h_4, hf⟩ := bd_e hf
    refine k_callV (As := [.ref (q (1 + 12))]) (rest := []) C w (c_M_takes (q := q) (j := 12) (by decide) h_4) cv_M_takes k1366 (mr_0 C w) (by decide) hl.1 rfl (Nat.le_of_ble_eq_true rfl) d_M_settingTold_20 (fun H locs w => ?_)
    show WK p l e s m _ below meth c 4 g (wM g q) A none σ2 H locs (F0 m 23 ls [.int r_5])
    refine lv_if_eq (tgt := 30) hx hb d_M_settingTold_23 (by decide) (fun cd => ?_) (fun cd => ?_)
    · have hf := it_e cd hf
      refine lv_aload_n hx hb d_M_settingTold_30 rfl (lv_at hl 0 rfl) ?_
      refine lv_aload_n hx hb d_M_settingTold_31 rfl (lv_at hl 0 rfl) ?_
      refine mg_0_triesWord C w k1117 d_M_settingTold_32 ?_
      obtain ⟨r_8, σ_9, h_7, hf⟩ := bd_e hf
      refine k_callV (As := [.ref (q (1 + 13))]) (rest := []) C w (c_M_takes (q := q) (j := 13) (by decide) h_7) cv_M_takes k1366 (mr_0 C w) (by decide) hl.1 rfl (Nat.le_of_ble_eq_true rfl) d_M_settingTold_35 (fun H locs w => ?_)
      show WK p l e s m _ below meth c 4 g (wM g q) A none σ2 H locs (F0 m 38 ls [.int r_8])
      refine lv_if_eq (tgt := 45) hx hb d_M_settingTold_38 (by decide) (fun cd => ?_) (fun cd => ?_)
      · have hf := it_e cd hf
        refine lv_aload_n hx hb d_M_settingTold_45 rfl (lv_at hl 0 rfl) ?_
        refine lv_aload_n hx hb d_M_settingTold_46 rfl (lv_at hl 0 rfl) ?_
        refine mg_0_slackWord C w k1118 d_M_settingTold_47 ?_
        obtain ⟨r_11, σ_12, h_10, hf⟩ := bd_e hf
        refine k_callV (As := [.ref (q (1 + 14))]) (rest := []) C w (c_M_takes (q := q) (j := 14) (by decide) h_10) cv_M_takes k1366 (mr_0 C w) (by decide) hl.1 rfl (Nat.le_of_ble_eq_true rfl) d_M_settingTold_50 (fun H locs w => ?_)
        show WK p l e s m _ below meth c 4 g (wM g q) A none σ2 H locs (F0 m 53 ls [.int r_11])
        refine lv_if_eq (tgt := 60) hx hb d_M_settingTold_53 (by decide) (fun cd => ?_) (fun cd => ?_)
        · have hf := it_e cd hf
          refine lv_aload_n hx hb d_M_settingTold_60 rfl (lv_at hl 0 rfl) ?_
          refine lv_aload_n hx hb d_M_settingTold_61 rfl (lv_at hl 0 rfl) ?_
          refine mg_0_crowdWord C w k1119 d_M_settingTold_62 ?_
          obtain ⟨r_14, σ_15, h_13, hf⟩ := bd_e hf
          refine k_callV (As := [.ref (q (1 + 15))]) (rest := []) C w (c_M_takes (q := q) (j := 15) (by decide) h_13) cv_M_takes k1366 (mr_0 C w) (by decide) hl.1 rfl (Nat.le_of_ble_eq_true rfl) d_M_settingTold_65 (fun H locs w => ?_)
          show WK p l e s m _ below meth c 4 g (wM g q) A none σ2 H locs (F0 m 68 ls [.int r_14])
          refine lv_if_eq (tgt := 75) hx hb d_M_settingTold_68 (by decide) (fun cd => ?_) (fun cd => ?_)
          · have hf := it_e cd hf
            refine lv_aload_n hx hb d_M_settingTold_75 rfl (lv_at hl 0 rfl) ?_
            refine lv_aload_n hx hb d_M_settingTold_76 rfl (lv_at hl 0 rfl) ?_
            refine mg_0_nearWord C w k1120 d_M_settingTold_77 ?_
            obtain ⟨r_17, σ_18, h_16, hf⟩ := bd_e hf
            refine k_callV (As := [.ref (q (1 + 16))]) (rest := []) C w (c_M_takes (q := q) (j := 16) (by decide) h_16) cv_M_takes k1366 (mr_0 C w) (by decide) hl.1 rfl (Nat.le_of_ble_eq_true rfl) d_M_settingTold_80 (fun H locs w => ?_)
            show WK p l e s m _ below meth c 4 g (wM g q) A none σ2 H locs (F0 m 83 ls [.int r_17])
            refine lv_if_eq (tgt := 90) hx hb d_M_settingTold_83 (by decide) (fun cd => ?_) (fun cd => ?_)
            · have hf := it_e cd hf
              refine lv_bipush (v := 6) hx hb d_M_settingTold_90 (by decide) ?_
              exact t_M_settingTold_92 C  hf w (lv_sub hl [0] rfl)
            · have hf := if_e cd hf
              refine lv_iconst (v := 5) hx hb d_M_settingTold_86 (by decide) ?_
              refine lv_goto (tgt := 92) hx hb d_M_settingTold_87 (by decide) ?_
              exact t_M_settingTold_92 C  hf w (lv_sub hl [0] rfl)
          · have hf := if_e cd hf
            refine lv_iconst (v := 4) hx hb d_M_settingTold_71 (by decide) ?_
            refine lv_goto (tgt := 92) hx hb d_M_settingTold_72 (by decide) ?_
            exact t_M_settingTold_92 C  hf w (lv_sub hl [0] rfl)
        · have hf := if_e cd hf
          refine lv_iconst (v := 3) hx hb d_M_settingTold_56 (by decide) ?_
          refine lv_goto (tgt := 92) hx hb d_M_settingTold_57 (by decide) ?_
          exact t_M_settingTold_92 C  hf w (lv_sub hl [0] rfl)
      · have hf := if_e cd hf
        refine lv_iconst (v := 2) hx hb d_M_settingTold_41 (by decide) ?_
        refine lv_goto (tgt := 92) hx hb d_M_settingTold_42 (by decide) ?_
        exact t_M_settingTold_92 C  hf w (lv_sub hl [0] rfl)
    · have hf := if_e cd hf
      refine lv_iconst (v := 1) hx hb d_M_settingTold_26 (by decide) ?_
      refine lv_goto (tgt := 92) hx hb d_M_settingTold_27 (by decide) ?_
      exact t_M_settingTold_92 C  hf w (lv_sub hl [0] rfl)
  · have hf := if_e cd hf
    refine lv_iconst (v := 0) hx hb d_M_settingTold_11 (by decide) ?_
    refine lv_goto (tgt := 92) hx hb d_M_settingTold_12 (by decide) ?_
    exact t_M_settingTold_92 C  hf w (lv_sub hl [0] rfl)
def f_M_takesSign (x1 : Int32) (σ : St) : Option (Int32 × St) :=
  if (sI σ 4) = 0 then
    bd (f_M_look σ) fun r_2 σ_3 =>
    if r_2 = x1 then
      lt (uI σ_3 1 ((sI σ_3 1) + 1)) fun σ_4 =>
      some (1, σ_4)
    else
      some (0, σ_3)
  else
    some (0, σ)
set_option maxHeartbeats 4000000 in
set_option maxRecDepth 20000 in
theorem c_M_takesSign {l : Launch} {g : GX} {q : Nat → Nat} {x1 : Int32}  {σ : St} {r : Int32} {σ2 : St} (hf : f_M_takesSign  x1 σ = some (r, σ2)) : KK l y_M_takesSign prog_13_method_12_code 2 (some .boolean) 1 g (wM g q) σ [.ref (q 0), .int x1] (some (.int r)) (wM g q) σ2 := by
  refine KK_of (plainFor_of_name (by decide)) (Nat.le_of_ble_eq_true rfl) (fun p e s m below meth c A ls C w hl => ?_)
  have hl : lv_has ls 2 [(0, .ref (q 0)), (1, .int x1)] := hl
  obtain ⟨hx, hb, hml, hown, hts, hK, hA, hZ, hlocks, hr, hN⟩ := id C
  unfold f_M_takesSign at hf
  refine lv_aload_n hx hb d_M_takesSign_0 rfl (lv_at hl 0 rfl) ?_
  refine mg_0_bad C w k1099 d_M_takesSign_1 ?_
  refine lv_if_ne (tgt := 15) hx hb d_M_takesSign_4 (by decide) (fun cd => ?_) (fun cd => ?_)
  · have hf := if_e cd hf
    refine lv_iconst (v := 0) hx hb d_M_takesSign_15 (by decide) ?_
    obtain ⟨rfl, rfl⟩ := some2_e hf
    exact k_zret C w (by decide) d_M_takesSign_16
  · have hf := it_e cd hf
    refine lv_aload_n hx hb d_M_takesSign_7 rfl (lv_at hl 0 rfl) ?_
    obtain ⟨r_2, σ_3, h_1, hf⟩ := bd_e hf
    refine k_callV (As := []) (rest := []) C w (c_M_look (q := q) h_1) cv_M_look k1354 (mr_0 C w) (by decide) hl.1 rfl (Nat.le_of_ble_eq_true rfl) d_M_takesSign_8 (fun H locs w => ?_)
    show WK p l e s m _ below meth c 1 g (wM g q) A (some (.int r)) σ2 H locs (F0 m 11 ls [.int r_2])
    refine lv_iload_n hx hb d_M_takesSign_11 rfl (lv_at hl 1 rfl) ?_
    refine lv_icmp_eq (tgt := 17) hx hb d_M_takesSign_12 (by decide) (fun cd => ?_) (fun cd => ?_)
    · have hf := it_e cd hf
      refine lv_aload_n hx hb d_M_takesSign_17 rfl (lv_at hl 0 rfl) ?_
      refine lv_dup hx hb d_M_takesSign_18 rfl ?_
      refine mg_0_at C w k1096 d_M_takesSign_19 ?_
      refine lv_iconst (v := 1) hx hb d_M_takesSign_22 (by decide) ?_
      refine lv_iadd hx hb d_M_takesSign_23 ?_
      refine mp_0_at C w k1096 d_M_takesSign_24 (fun σ_4 H locs eσ_4 w => ?_)
      have hf := lt_e eσ_4 hf
      refine lv_iconst (v := 1) hx hb d_M_takesSign_27 (by decide) ?_
      obtain ⟨rfl, rfl⟩ := some2_e hf
      exact k_zret C w (by decide) d_M_takesSign_28
    · have hf := if_e cd hf
      refine lv_iconst (v := 0) hx hb d_M_takesSign_15 (by decide) ?_
      obtain ⟨rfl, rfl⟩ := some2_e hf
      exact k_zret C w (by decide) d_M_takesSign_16
def f_M_asksSign (x1 : Int32) (σ : St) : Option (St) :=
  if (sI σ 4) = 0 then
    bd (f_M_takesSign x1 σ) fun r_2 σ_3 =>
    if r_2 = 0 then
      bp (f_M_fail 1 (sI σ_3 1) σ_3) fun σ_5 =>
      some σ_5
    else
      some σ_3
  else
    some σ
set_option maxHeartbeats 4000000 in
set_option maxRecDepth 20000 in
theorem c_M_asksSign {l : Launch} {g : GX} {q : Nat → Nat} {x1 : Int32}  {σ : St} {σ2 : St} (hf : f_M_asksSign  x1 σ = some σ2) : KK l y_M_asksSign prog_13_method_13_code 2 none 2 g (wM g q) σ [.ref (q 0), .int x1] none (wM g q) σ2 := by
  refine KK_of (plainFor_of_name (by decide)) (Nat.le_of_ble_eq_true rfl) (fun p e s m below meth c A ls C w hl => ?_)
  have hl : lv_has ls 2 [(0, .ref (q 0)), (1, .int x1)] := hl
  obtain ⟨hx, hb, hml, hown, hts, hK, hA, hZ, hlocks, hr, hN⟩ := id C
  unfold f_M_asksSign at hf
  refine lv_aload_n hx hb d_M_asksSign_0 rfl (lv_at hl 0 rfl) ?_
  refine mg_0_bad C w k1099 d_M_asksSign_1 ?_
  refine lv_if_ne (tgt := 24) hx hb d_M_asksSign_4 (by decide) (fun cd => ?_) (fun cd => ?_)
  · have hf := if_e cd hf
    cases some_e hf
    exact k_vret C w d_M_asksSign_24
  · have hf := it_e cd hf
    refine lv_aload_n hx hb d_M_asksSign_7 rfl (lv_at hl 0 rfl) ?_
    refine lv_iload_n hx hb d_M_asksSign_8 rfl (lv_at hl 1 rfl) ?_
    obtain ⟨r_2, σ_3, h_1, hf⟩ := bd_e hf
    refine k_callV (As := [.int x1]) (rest := []) C w (c_M_takesSign (q := q) h_1) cv_M_takesSign k1453 (mr_0 C w) (by decide) hl.1 rfl (Nat.le_of_ble_eq_true rfl) d_M_asksSign_9 (fun H locs w => ?_)
    show WK p l e s m _ below meth c 2 g (wM g q) A none σ2 H locs (F0 m 12 ls [.int r_2])
    refine lv_if_ne (tgt := 24) hx hb d_M_asksSign_12 (by decide) (fun cd => ?_) (fun cd => ?_)
    · have hf := if_e cd hf
      cases some_e hf
      exact k_vret C w d_M_asksSign_24
    · have hf := it_e cd hf
      refine lv_aload_n hx hb d_M_asksSign_15 rfl (lv_at hl 0 rfl) ?_
      refine lv_iconst (v := 1) hx hb d_M_asksSign_16 (by decide) ?_
      refine lv_aload_n hx hb d_M_asksSign_17 rfl (lv_at hl 0 rfl) ?_
      refine mg_0_at C w k1096 d_M_asksSign_18 ?_
      obtain ⟨σ_5, h_4, hf⟩ := bp_e hf
      refine k_callV (As := [.int 1, .int (sI σ_3 1)]) (rest := []) C w (c_M_fail (q := q) h_4) cv_M_fail k1362 (mr_0 C w) (by decide) hl.1 rfl (Nat.le_of_ble_eq_true rfl) d_M_asksSign_21 (fun H locs w => ?_)
      show WK p l e s m _ below meth c 2 g (wM g q) A none σ2 H locs (F0 m 24 ls [])
      cases some_e hf
      exact k_vret C w d_M_asksSign_24
def f_M_isFull_23 (σ : St) : Option (Int32 × St) :=
  if (sI σ 4) = 0 then
    some (0, σ)
  else
    some (1, σ)
def f_M_isFull (x1 : Int32) (x2 : Int32) (x3 : Int32) (σ : St) : Option (Int32 × St) :=
  if (sI σ 4) = 0 then
    gd (inB x1 6) <|
    if (sA σ 2 x1.toNatClampNeg) = x2 then
      bp (f_M_fail 5 x3 σ) fun σ_3 =>
      f_M_isFull_23 σ_3
    else
      f_M_isFull_23 σ
  else
    f_M_isFull_23 σ
set_option maxHeartbeats 4000000 in
set_option maxRecDepth 20000 in
theorem t_M_isFull_23 {r : Int32} {σ2 : St} (C : Cx g A p s m av meth c prog_13_method_17_code 4 "BellHammerModel" (some .boolean))  {σ : St} {H : Heap} {locs : List Loc} {ls : Array Slot} (hf : f_M_isFull_23    σ = some (r, σ2)) (w : Wd g (wM g q) A s σ H locs) (hl : lv_has ls 4 [(0, .ref (q 0))]) : WK p l e s m av below meth c 1 g (wM g q) A (some (.int r)) σ2 H locs (F0 m 23 ls []) := by
  obtain ⟨hx, hb, hml, hown, hts, hK, hA, hZ, hlocks, hr, hN⟩ := id C
  unfold f_M_isFull_23 at hf
  refine lv_aload_n hx hb d_M_isFull_23 rfl (lv_at hl 0 rfl) ?_
  refine mg_0_bad C w k1099 d_M_isFull_24 ?_
  refine lv_if_eq (tgt := 34) hx hb d_M_isFull_27 (by decide) (fun cd => ?_) (fun cd => ?_)
  · have hf := it_e cd hf
    refine lv_iconst (v := 0) hx hb d_M_isFull_34 (by decide) ?_
    obtain ⟨rfl, rfl⟩ := some2_e hf
    exact k_zret C w (by decide) d_M_isFull_35
  · have hf := if_e cd hf
    refine lv_iconst (v := 1) hx hb d_M_isFull_30 (by decide) ?_
    refine lv_goto (tgt := 35) hx hb d_M_isFull_31 (by decide) ?_
    obtain ⟨rfl, rfl⟩ := some2_e hf
    exact k_zret C w (by decide) d_M_isFull_35
set_option maxHeartbeats 4000000 in
set_option maxRecDepth 20000 in
theorem c_M_isFull {l : Launch} {g : GX} {q : Nat → Nat} {x1 : Int32} {x2 : Int32} {x3 : Int32}  {σ : St} {r : Int32} {σ2 : St} (hf : f_M_isFull  x1 x2 x3 σ = some (r, σ2)) : KK l y_M_isFull prog_13_method_17_code 4 (some .boolean) 1 g (wM g q) σ [.ref (q 0), .int x1, .int x2, .int x3] (some (.int r)) (wM g q) σ2 := by
  refine KK_of (plainFor_of_name (by decide)) (Nat.le_of_ble_eq_true rfl) (fun p e s m below meth c A ls C w hl => ?_)
  have hl : lv_has ls 4 [(0, .ref (q 0)), (1, .int x1), (2, .int x2), (3, .int x3)] := hl
  obtain ⟨hx, hb, hml, hown, hts, hK, hA, hZ, hlocks, hr, hN⟩ := id C
  unfold f_M_isFull at hf
  refine lv_aload_n hx hb d_M_isFull_0 rfl (lv_at hl 0 rfl) ?_
  refine mg_0_bad C w k1099 d_M_isFull_1 ?_
  refine lv_if_ne (tgt := 23) hx hb d_M_isFull_4 (by decide) (fun cd => ?_) (fun cd => ?_)
  · have hf := if_e cd hf
    exact t_M_isFull_23 C  hf w (lv_sub hl [0] rfl)
  · have hf := it_e cd hf
    refine lv_aload_n hx hb d_M_isFull_7 rfl (lv_at hl 0 rfl) ?_
    refine mg_0_many C w k1132 d_M_isFull_8 ?_
    refine lv_iload_n hx hb d_M_isFull_11 rfl (lv_at hl 1 rfl) ?_
    obtain ⟨g_1, hf⟩ := gd_e hf
    refine ml_30 C w g_1 d_M_isFull_12 ?_
    refine lv_iload_n hx hb d_M_isFull_13 rfl (lv_at hl 2 rfl) ?_
    refine lv_icmp_ne (tgt := 23) hx hb d_M_isFull_14 (by decide) (fun cd => ?_) (fun cd => ?_)
    · have hf := if_e cd hf
      exact t_M_isFull_23 C  hf w (lv_sub hl [0] rfl)
    · have hf := it_e cd hf
      refine lv_aload_n hx hb d_M_isFull_17 rfl (lv_at hl 0 rfl) ?_
      refine lv_iconst (v := 5) hx hb d_M_isFull_18 (by decide) ?_
      refine lv_iload_n hx hb d_M_isFull_19 rfl (lv_at hl 3 rfl) ?_
      obtain ⟨σ_3, h_2, hf⟩ := bp_e hf
      refine k_callV (As := [.int 5, .int x3]) (rest := []) C w (c_M_fail (q := q) h_2) cv_M_fail k1362 (mr_0 C w) (by decide) hl.1 rfl (Nat.le_of_ble_eq_true rfl) d_M_isFull_20 (fun H locs w => ?_)
      show WK p l e s m _ below meth c 1 g (wM g q) A (some (.int r)) σ2 H locs (F0 m 23 ls [])
      exact t_M_isFull_23 C  hf w (lv_sub hl [0] rfl)
def f_M_clears (σ : St) : Option (St) :=
  lt (uI σ 11 0) fun σ_1 =>
  lt (uI σ_1 12 0) fun σ_2 =>
  lt (uI σ_2 13 0) fun σ_3 =>
  some σ_3
set_option maxHeartbeats 4000000 in
set_option maxRecDepth 20000 in
theorem c_M_clears {l : Launch} {g : GX} {q : Nat → Nat}  {σ : St} {σ2 : St} (hf : f_M_clears   σ = some σ2) : KK l y_M_clears prog_13_method_21_code 1 none 0 g (wM g q) σ [.ref (q 0)] none (wM g q) σ2 := by
  refine KK_of (plainFor_of_name (by decide)) (Nat.le_of_ble_eq_true rfl) (fun p e s m below meth c A ls C w hl => ?_)
  have hl : lv_has ls 1 [(0, .ref (q 0))] := hl
  obtain ⟨hx, hb, hml, hown, hts, hK, hA, hZ, hlocks, hr, hN⟩ := id C
  unfold f_M_clears at hf
  refine lv_aload_n hx hb d_M_clears_0 rfl (lv_at hl 0 rfl) ?_
  refine lv_iconst (v := 0) hx hb d_M_clears_1 (by decide) ?_
  refine mp_0_waits C w k1141 d_M_clears_2 (fun σ_1 H locs eσ_1 w => ?_)
  have hf := lt_e eσ_1 hf
  refine lv_aload_n hx hb d_M_clears_5 rfl (lv_at hl 0 rfl) ?_
  refine lv_iconst (v := 0) hx hb d_M_clears_6 (by decide) ?_
  refine mp_0_open C w k1142 d_M_clears_7 (fun σ_2 H locs eσ_2 w => ?_)
  have hf := lt_e eσ_2 hf
  refine lv_aload_n hx hb d_M_clears_10 rfl (lv_at hl 0 rfl) ?_
  refine lv_iconst (v := 0) hx hb d_M_clears_11 (by decide) ?_
  refine mp_0_base C w k1145 d_M_clears_12 (fun σ_3 H locs eσ_3 w => ?_)
  have hf := lt_e eσ_3 hf
  cases some_e hf
  exact k_vret C w d_M_clears_15
def f_M_code (x1 : Int32) (σ : St) : Option (St) :=
  gd (inB (0 + (sI σ 10)) 3200) <|
  lt (uA σ 6 (upd (sA σ 6) (0 + (sI σ 10)).toNatClampNeg x1)) fun σ_2 =>
  lt (uI σ_2 10 ((sI σ_2 10) + 1)) fun σ_3 =>
  some σ_3
set_option maxHeartbeats 4000000 in
set_option maxRecDepth 20000 in
theorem c_M_code {l : Launch} {g : GX} {q : Nat → Nat} {x1 : Int32}  {σ : St} {σ2 : St} (hf : f_M_code  x1 σ = some σ2) : KK l y_M_code prog_13_method_27_code 2 none 0 g (wM g q) σ [.ref (q 0), .int x1] none (wM g q) σ2 := by
  refine KK_of (plainFor_of_name (by decide)) (Nat.le_of_ble_eq_true rfl) (fun p e s m below meth c A ls C w hl => ?_)
  have hl : lv_has ls 2 [(0, .ref (q 0)), (1, .int x1)] := hl
  obtain ⟨hx, hb, hml, hown, hts, hK, hA, hZ, hlocks, hr, hN⟩ := id C
  unfold f_M_code at hf
  refine lv_aload_n hx hb d_M_code_0 rfl (lv_at hl 0 rfl) ?_
  refine mg_0_codes C w k1138 d_M_code_1 ?_
  refine lv_iconst (v := 0) hx hb d_M_code_4 (by decide) ?_
  refine lv_aload_n hx hb d_M_code_5 rfl (lv_at hl 0 rfl) ?_
  refine mg_0_coded C w k1139 d_M_code_6 ?_
  refine lv_iadd hx hb d_M_code_9 ?_
  refine lv_iload_n hx hb d_M_code_10 rfl (lv_at hl 1 rfl) ?_
  obtain ⟨g_1, hf⟩ := gd_e hf
  refine ms_35 C w g_1 d_M_code_11 (fun σ_2 H locs eσ_2 w => ?_)
  have hf := lt_e eσ_2 hf
  refine lv_aload_n hx hb d_M_code_12 rfl (lv_at hl 0 rfl) ?_
  refine lv_dup hx hb d_M_code_13 rfl ?_
  refine mg_0_coded C w k1139 d_M_code_14 ?_
  refine lv_iconst (v := 1) hx hb d_M_code_17 (by decide) ?_
  refine lv_iadd hx hb d_M_code_18 ?_
  refine mp_0_coded C w k1139 d_M_code_19 (fun σ_3 H locs eσ_3 w => ?_)
  have hf := lt_e eσ_3 hf
  cases some_e hf
  exact k_vret C w d_M_code_22
def f_M_drops (σ : St) : Option (St) :=
  lt (uI σ 11 ((sI σ 11) - 1)) fun σ_1 =>
  gd (inB (sI σ_1 11) 1700) <|
  bp (f_M_code (sA σ_1 7 (sI σ_1 11).toNatClampNeg) σ_1) fun σ_4 =>
  some σ_4
set_option maxHeartbeats 4000000 in
set_option maxRecDepth 20000 in
theorem c_M_drops {l : Launch} {g : GX} {q : Nat → Nat}  {σ : St} {σ2 : St} (hf : f_M_drops   σ = some σ2) : KK l y_M_drops prog_13_method_30_code 1 none 1 g (wM g q) σ [.ref (q 0)] none (wM g q) σ2 := by
  refine KK_of (plainFor_of_name (by decide)) (Nat.le_of_ble_eq_true rfl) (fun p e s m below meth c A ls C w hl => ?_)
  have hl : lv_has ls 1 [(0, .ref (q 0))] := hl
  obtain ⟨hx, hb, hml, hown, hts, hK, hA, hZ, hlocks, hr, hN⟩ := id C
  unfold f_M_drops at hf
  refine lv_aload_n hx hb d_M_drops_0 rfl (lv_at hl 0 rfl) ?_
  refine lv_dup hx hb d_M_drops_1 rfl ?_
  refine mg_0_waits C w k1141 d_M_drops_2 ?_
  refine lv_iconst (v := 1) hx hb d_M_drops_5 (by decide) ?_
  refine lv_isub hx hb d_M_drops_6 ?_
  refine mp_0_waits C w k1141 d_M_drops_7 (fun σ_1 H locs eσ_1 w => ?_)
  have hf := lt_e eσ_1 hf
  refine lv_aload_n hx hb d_M_drops_10 rfl (lv_at hl 0 rfl) ?_
  refine lv_aload_n hx hb d_M_drops_11 rfl (lv_at hl 0 rfl) ?_
  refine mg_0_wait C w k1140 d_M_drops_12 ?_
  refine lv_aload_n hx hb d_M_drops_15 rfl (lv_at hl 0 rfl) ?_
  refine mg_0_waits C w k1141 d_M_drops_16 ?_
  obtain ⟨g_2, hf⟩ := gd_e hf
  refine ml_36 C w g_2 d_M_drops_19 ?_
  obtain ⟨σ_4, h_3, hf⟩ := bp_e hf
  refine k_callV (As := [.int (sA σ_1 7 (sI σ_1 11).toNatClampNeg)]) (rest := []) C w (c_M_code (q := q) h_3) cv_M_code k1437 (mr_0 C w) (by decide) hl.1 rfl (Nat.le_of_ble_eq_true rfl) d_M_drops_20 (fun H locs w => ?_)
  show WK p l e s m _ below meth c 1 g (wM g q) A none σ2 H locs (F0 m 23 ls [])
  cases some_e hf
  exact k_vret C w d_M_drops_23
def f_M_opens (x1 : Int32) (x2 : Int32) (σ : St) : Option (St) :=
  if (sI σ 12) = 6 then
    bp (f_M_fail 4 x2 σ) fun σ_6 =>
    some σ_6
  else
    lt (uI σ 12 ((sI σ 12) + 1)) fun σ_1 =>
    gd (inB (sI σ_1 11) 1700) <|
    lt (uA σ_1 7 (upd (sA σ_1 7) (sI σ_1 11).toNatClampNeg x1)) fun σ_3 =>
    lt (uI σ_3 11 ((sI σ_3 11) + 1)) fun σ_4 =>
    some σ_4
set_option maxHeartbeats 4000000 in
set_option maxRecDepth 20000 in
theorem c_M_opens {l : Launch} {g : GX} {q : Nat → Nat} {x1 : Int32} {x2 : Int32}  {σ : St} {σ2 : St} (hf : f_M_opens  x1 x2 σ = some σ2) : KK l y_M_opens prog_13_method_28_code 3 none 1 g (wM g q) σ [.ref (q 0), .int x1, .int x2] none (wM g q) σ2 := by
  refine KK_of (plainFor_of_name (by decide)) (Nat.le_of_ble_eq_true rfl) (fun p e s m below meth c A ls C w hl => ?_)
  have hl : lv_has ls 3 [(0, .ref (q 0)), (1, .int x1), (2, .int x2)] := hl
  obtain ⟨hx, hb, hml, hown, hts, hK, hA, hZ, hlocks, hr, hN⟩ := id C
  unfold f_M_opens at hf
  refine lv_aload_n hx hb d_M_opens_0 rfl (lv_at hl 0 rfl) ?_
  refine mg_0_open C w k1142 d_M_opens_1 ?_
  refine lv_bipush (v := 6) hx hb d_M_opens_4 (by decide) ?_
  refine lv_icmp_ne (tgt := 16) hx hb d_M_opens_6 (by decide) (fun cd => ?_) (fun cd => ?_)
  · have hf := if_e cd hf
    refine lv_aload_n hx hb d_M_opens_16 rfl (lv_at hl 0 rfl) ?_
    refine lv_dup hx hb d_M_opens_17 rfl ?_
    refine mg_0_open C w k1142 d_M_opens_18 ?_
    refine lv_iconst (v := 1) hx hb d_M_opens_21 (by decide) ?_
    refine lv_iadd hx hb d_M_opens_22 ?_
    refine mp_0_open C w k1142 d_M_opens_23 (fun σ_1 H locs eσ_1 w => ?_)
    have hf := lt_e eσ_1 hf
    refine lv_aload_n hx hb d_M_opens_26 rfl (lv_at hl 0 rfl) ?_
    refine mg_0_wait C w k1140 d_M_opens_27 ?_
    refine lv_aload_n hx hb d_M_opens_30 rfl (lv_at hl 0 rfl) ?_
    refine mg_0_waits C w k1141 d_M_opens_31 ?_
    refine lv_iload_n hx hb d_M_opens_34 rfl (lv_at hl 1 rfl) ?_
    obtain ⟨g_2, hf⟩ := gd_e hf
    refine ms_36 C w g_2 d_M_opens_35 (fun σ_3 H locs eσ_3 w => ?_)
    have hf := lt_e eσ_3 hf
    refine lv_aload_n hx hb d_M_opens_36 rfl (lv_at hl 0 rfl) ?_
    refine lv_dup hx hb d_M_opens_37 rfl ?_
    refine mg_0_waits C w k1141 d_M_opens_38 ?_
    refine lv_iconst (v := 1) hx hb d_M_opens_41 (by decide) ?_
    refine lv_iadd hx hb d_M_opens_42 ?_
    refine mp_0_waits C w k1141 d_M_opens_43 (fun σ_4 H locs eσ_4 w => ?_)
    have hf := lt_e eσ_4 hf
    cases some_e hf
    exact k_vret C w d_M_opens_46
  · have hf := it_e cd hf
    refine lv_aload_n hx hb d_M_opens_9 rfl (lv_at hl 0 rfl) ?_
    refine lv_iconst (v := 4) hx hb d_M_opens_10 (by decide) ?_
    refine lv_iload_n hx hb d_M_opens_11 rfl (lv_at hl 2 rfl) ?_
    obtain ⟨σ_6, h_5, hf⟩ := bp_e hf
    refine k_callV (As := [.int 4, .int x2]) (rest := []) C w (c_M_fail (q := q) h_5) cv_M_fail k1362 (mr_0 C w) (by decide) hl.1 rfl (Nat.le_of_ble_eq_true rfl) d_M_opens_12 (fun H locs w => ?_)
    show WK p l e s m _ below meth c 1 g (wM g q) A none σ2 H locs (F0 m 15 ls [])
    cases some_e hf
    exact k_vret C w d_M_opens_15
