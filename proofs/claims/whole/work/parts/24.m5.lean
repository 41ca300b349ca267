variable {p : Program} {l : Launch} {e : Env} {s : State} {m : MethodId} {av : Array Value} {below : List Frame} {meth : Method} {c : Code} {g : GX} {q : Nat → Nat} {A : Nat → Prop}
theorem d_M_leans_0 : decode prog_13_method_69_code 0 = .ok (.aload_n 0, 1) := by decide +kernel
theorem d_M_leans_1 : decode prog_13_method_69_code 1 = .ok (.iload_n 1, 1) := by decide +kernel
theorem d_M_leans_2 : decode prog_13_method_69_code 2 = .ok (.invokevirtual 415, 3) := by decide +kernel
theorem d_M_leans_5 : decode prog_13_method_69_code 5 = .ok (.ifCond .eq 53, 3) := by decide +kernel
theorem d_M_leans_8 : decode prog_13_method_69_code 8 = .ok (.iload_n 2, 1) := by decide +kernel
theorem d_M_leans_9 : decode prog_13_method_69_code 9 = .ok (.i2l, 1) := by decide +kernel
theorem d_M_leans_10 : decode prog_13_method_69_code 10 = .ok (.lconst 0, 1) := by decide +kernel
theorem d_M_leans_11 : decode prog_13_method_69_code 11 = .ok (.ldc2_w 424, 3) := by decide +kernel
theorem d_M_leans_14 : decode prog_13_method_69_code 14 = .ok (.invokestatic 198, 3) := by decide +kernel
theorem d_M_leans_17 : decode prog_13_method_69_code 17 = .ok (.ifCond .eq 41, 3) := by decide +kernel
theorem d_M_leans_20 : decode prog_13_method_69_code 20 = .ok (.iload_n 3, 1) := by decide +kernel
theorem d_M_leans_21 : decode prog_13_method_69_code 21 = .ok (.i2l, 1) := by decide +kernel
theorem d_M_leans_22 : decode prog_13_method_69_code 22 = .ok (.lconst 0, 1) := by decide +kernel
theorem d_M_leans_23 : decode prog_13_method_69_code 23 = .ok (.ldc2_w 420, 3) := by decide +kernel
theorem d_M_leans_26 : decode prog_13_method_69_code 26 = .ok (.invokestatic 198, 3) := by decide +kernel
theorem d_M_leans_29 : decode prog_13_method_69_code 29 = .ok (.ifCond .eq 29, 3) := by decide +kernel
theorem d_M_leans_32 : decode prog_13_method_69_code 32 = .ok (.iload 4, 2) := by decide +kernel
theorem d_M_leans_34 : decode prog_13_method_69_code 34 = .ok (.i2l, 1) := by decide +kernel
theorem d_M_leans_35 : decode prog_13_method_69_code 35 = .ok (.lconst 0, 1) := by decide +kernel
theorem d_M_leans_36 : decode prog_13_method_69_code 36 = .ok (.ldc2_w 418, 3) := by decide +kernel
theorem d_M_leans_39 : decode prog_13_method_69_code 39 = .ok (.invokestatic 198, 3) := by decide +kernel
theorem d_M_leans_42 : decode prog_13_method_69_code 42 = .ok (.ifCond .eq 16, 3) := by decide +kernel
theorem d_M_leans_45 : decode prog_13_method_69_code 45 = .ok (.iload 5, 2) := by decide +kernel
theorem d_M_leans_47 : decode prog_13_method_69_code 47 = .ok (.i2l, 1) := by decide +kernel
theorem d_M_leans_48 : decode prog_13_method_69_code 48 = .ok (.lconst 0, 1) := by decide +kernel
theorem d_M_leans_49 : decode prog_13_method_69_code 49 = .ok (.ldc2_w 418, 3) := by decide +kernel
theorem d_M_leans_52 : decode prog_13_method_69_code 52 = .ok (.invokestatic 198, 3) := by decide +kernel
theorem d_M_leans_55 : decode prog_13_method_69_code 55 = .ok (.ifCond .ne 5, 3) := by decide +kernel
theorem d_M_leans_58 : decode prog_13_method_69_code 58 = .ok (.iconst (-1), 1) := by decide +kernel
theorem d_M_leans_59 : decode prog_13_method_69_code 59 = .ok (.ireturn, 1) := by decide +kernel
theorem d_M_leans_60 : decode prog_13_method_69_code 60 = .ok (.aload_n 0, 1) := by decide +kernel
theorem d_M_leans_61 : decode prog_13_method_69_code 61 = .ok (.aload_n 0, 1) := by decide +kernel
theorem d_M_leans_62 : decode prog_13_method_69_code 62 = .ok (.getfield 136, 3) := by decide +kernel
theorem d_M_leans_65 : decode prog_13_method_69_code 65 = .ok (.iconst 2, 1) := by decide +kernel
theorem d_M_leans_66 : decode prog_13_method_69_code 66 = .ok (.iaload, 1) := by decide +kernel
theorem d_M_leans_67 : decode prog_13_method_69_code 67 = .ok (.putfield 390, 3) := by decide +kernel
theorem d_M_leans_70 : decode prog_13_method_69_code 70 = .ok (.aload_n 0, 1) := by decide +kernel
theorem d_M_leans_71 : decode prog_13_method_69_code 71 = .ok (.iload_n 2, 1) := by decide +kernel
theorem d_M_leans_72 : decode prog_13_method_69_code 72 = .ok (.putfield 381, 3) := by decide +kernel
theorem d_M_leans_75 : decode prog_13_method_69_code 75 = .ok (.aload_n 0, 1) := by decide +kernel
theorem d_M_leans_76 : decode prog_13_method_69_code 76 = .ok (.iload_n 3, 1) := by decide +kernel
theorem d_M_leans_77 : decode prog_13_method_69_code 77 = .ok (.putfield 364, 3) := by decide +kernel
theorem d_M_leans_80 : decode prog_13_method_69_code 80 = .ok (.aload_n 0, 1) := by decide +kernel
theorem d_M_leans_81 : decode prog_13_method_69_code 81 = .ok (.iload 4, 2) := by decide +kernel
theorem d_M_leans_83 : decode prog_13_method_69_code 83 = .ok (.putfield 367, 3) := by decide +kernel
theorem d_M_leans_86 : decode prog_13_method_69_code 86 = .ok (.aload_n 0, 1) := by decide +kernel
theorem d_M_leans_87 : decode prog_13_method_69_code 87 = .ok (.iload 5, 2) := by decide +kernel
theorem d_M_leans_89 : decode prog_13_method_69_code 89 = .ok (.putfield 384, 3) := by decide +kernel
theorem d_M_leans_92 : decode prog_13_method_69_code 92 = .ok (.aload_n 0, 1) := by decide +kernel
theorem d_M_leans_93 : decode prog_13_method_69_code 93 = .ok (.aload_n 0, 1) := by decide +kernel
theorem d_M_leans_94 : decode prog_13_method_69_code 94 = .ok (.iload_n 1, 1) := by decide +kernel
theorem d_M_leans_95 : decode prog_13_method_69_code 95 = .ok (.iconst 3, 1) := by decide +kernel
theorem d_M_leans_96 : decode prog_13_method_69_code 96 = .ok (.invokevirtual 358, 3) := by decide +kernel
theorem d_M_leans_99 : decode prog_13_method_69_code 99 = .ok (.putfield 361, 3) := by decide +kernel
theorem d_M_leans_102 : decode prog_13_method_69_code 102 = .ok (.aload_n 0, 1) := by decide +kernel
theorem d_M_leans_103 : decode prog_13_method_69_code 103 = .ok (.iload_n 1, 1) := by decide +kernel
theorem d_M_leans_104 : decode prog_13_method_69_code 104 = .ok (.invokevirtual 396, 3) := by decide +kernel
theorem d_M_leans_107 : decode prog_13_method_69_code 107 = .ok (.ifCond .eq 7, 3) := by decide +kernel
theorem d_M_leans_110 : decode prog_13_method_69_code 110 = .ok (.iconst 1, 1) := by decide +kernel
theorem d_M_leans_111 : decode prog_13_method_69_code 111 = .ok (.goto 4, 3) := by decide +kernel
theorem d_M_leans_114 : decode prog_13_method_69_code 114 = .ok (.iconst 0, 1) := by decide +kernel
theorem d_M_leans_115 : decode prog_13_method_69_code 115 = .ok (.ireturn, 1) := by decide +kernel
theorem d_M_begins_0 : decode prog_13_method_57_code 0 = .ok (.aload_n 0, 1) := by decide +kernel
theorem d_M_begins_1 : decode prog_13_method_57_code 1 = .ok (.aload_n 0, 1) := by decide +kernel
theorem d_M_begins_2 : decode prog_13_method_57_code 2 = .ok (.iload_n 1, 1) := by decide +kernel
theorem d_M_begins_3 : decode prog_13_method_57_code 3 = .ok (.iconst 3, 1) := by decide +kernel
theorem d_M_begins_4 : decode prog_13_method_57_code 4 = .ok (.invokevirtual 358, 3) := by decide +kernel
theorem d_M_begins_7 : decode prog_13_method_57_code 7 = .ok (.putfield 361, 3) := by decide +kernel
theorem d_M_begins_10 : decode prog_13_method_57_code 10 = .ok (.aload_n 0, 1) := by decide +kernel
theorem d_M_begins_11 : decode prog_13_method_57_code 11 = .ok (.iconst 0, 1) := by decide +kernel
theorem d_M_begins_12 : decode prog_13_method_57_code 12 = .ok (.putfield 364, 3) := by decide +kernel
theorem d_M_begins_15 : decode prog_13_method_57_code 15 = .ok (.aload_n 0, 1) := by decide +kernel
theorem d_M_begins_16 : decode prog_13_method_57_code 16 = .ok (.iconst 0, 1) := by decide +kernel
theorem d_M_begins_17 : decode prog_13_method_57_code 17 = .ok (.putfield 367, 3) := by decide +kernel
theorem d_M_begins_20 : decode prog_13_method_57_code 20 = .ok (.aload_n 0, 1) := by decide +kernel
theorem d_M_begins_21 : decode prog_13_method_57_code 21 = .ok (.iconst 0, 1) := by decide +kernel
theorem d_M_begins_22 : decode prog_13_method_57_code 22 = .ok (.putfield 370, 3) := by decide +kernel
theorem d_M_begins_25 : decode prog_13_method_57_code 25 = .ok (.return_, 1) := by decide +kernel
theorem d_M_strikes_0 : decode prog_13_method_58_code 0 = .ok (.aload_n 0, 1) := by decide +kernel
theorem d_M_strikes_1 : decode prog_13_method_58_code 1 = .ok (.getfield 364, 3) := by decide +kernel
theorem d_M_strikes_4 : decode prog_13_method_58_code 4 = .ok (.aload_n 0, 1) := by decide +kernel
theorem d_M_strikes_5 : decode prog_13_method_58_code 5 = .ok (.iconst 2, 1) := by decide +kernel
theorem d_M_strikes_6 : decode prog_13_method_58_code 6 = .ok (.invokevirtual 374, 3) := by decide +kernel
theorem d_M_strikes_9 : decode prog_13_method_58_code 9 = .ok (.if_icmp .eq 16, 3) := by decide +kernel
theorem d_M_strikes_12 : decode prog_13_method_58_code 12 = .ok (.aload_n 0, 1) := by decide +kernel
theorem d_M_strikes_13 : decode prog_13_method_58_code 13 = .ok (.getfield 361, 3) := by decide +kernel
theorem d_M_strikes_16 : decode prog_13_method_58_code 16 = .ok (.aload_n 0, 1) := by decide +kernel
theorem d_M_strikes_17 : decode prog_13_method_58_code 17 = .ok (.getfield 136, 3) := by decide +kernel
theorem d_M_strikes_20 : decode prog_13_method_58_code 20 = .ok (.iconst 5, 1) := by decide +kernel
theorem d_M_strikes_21 : decode prog_13_method_58_code 21 = .ok (.iaload, 1) := by decide +kernel
theorem d_M_strikes_22 : decode prog_13_method_58_code 22 = .ok (.if_icmp .ge 5, 3) := by decide +kernel
theorem d_M_strikes_25 : decode prog_13_method_58_code 25 = .ok (.iconst 0, 1) := by decide +kernel
theorem d_M_strikes_26 : decode prog_13_method_58_code 26 = .ok (.ireturn, 1) := by decide +kernel
theorem d_M_strikes_27 : decode prog_13_method_58_code 27 = .ok (.aload_n 0, 1) := by decide +kernel
theorem d_M_strikes_28 : decode prog_13_method_58_code 28 = .ok (.getfield 364, 3) := by decide +kernel
theorem d_M_strikes_31 : decode prog_13_method_58_code 31 = .ok (.ifCond .eq 32, 3) := by decide +kernel
theorem d_M_strikes_34 : decode prog_13_method_58_code 34 = .ok (.aload_n 0, 1) := by decide +kernel
theorem d_M_strikes_35 : decode prog_13_method_58_code 35 = .ok (.getfield 367, 3) := by decide +kernel
theorem d_M_strikes_38 : decode prog_13_method_58_code 38 = .ok (.aload_n 0, 1) := by decide +kernel
theorem d_M_strikes_39 : decode prog_13_method_58_code 39 = .ok (.getfield 378, 3) := by decide +kernel
theorem d_M_strikes_42 : decode prog_13_method_58_code 42 = .ok (.if_icmp .ge 25, 3) := by decide +kernel
theorem d_M_strikes_45 : decode prog_13_method_58_code 45 = .ok (.aload_n 0, 1) := by decide +kernel
theorem d_M_strikes_46 : decode prog_13_method_58_code 46 = .ok (.getfield 378, 3) := by decide +kernel
theorem d_M_strikes_49 : decode prog_13_method_58_code 49 = .ok (.aload_n 0, 1) := by decide +kernel
theorem d_M_strikes_50 : decode prog_13_method_58_code 50 = .ok (.getfield 367, 3) := by decide +kernel
theorem d_M_strikes_53 : decode prog_13_method_58_code 53 = .ok (.isub, 1) := by decide +kernel
theorem d_M_strikes_54 : decode prog_13_method_58_code 54 = .ok (.aload_n 0, 1) := by decide +kernel
theorem d_M_strikes_55 : decode prog_13_method_58_code 55 = .ok (.iload_n 1, 1) := by decide +kernel
theorem d_M_strikes_56 : decode prog_13_method_58_code 56 = .ok (.iconst 4, 1) := by decide +kernel
theorem d_M_strikes_57 : decode prog_13_method_58_code 57 = .ok (.invokevirtual 358, 3) := by decide +kernel
theorem d_M_strikes_60 : decode prog_13_method_58_code 60 = .ok (.if_icmp .gt 7, 3) := by decide +kernel
theorem d_M_strikes_63 : decode prog_13_method_58_code 63 = .ok (.iconst 1, 1) := by decide +kernel
theorem d_M_strikes_64 : decode prog_13_method_58_code 64 = .ok (.goto 4, 3) := by decide +kernel
theorem d_M_strikes_67 : decode prog_13_method_58_code 67 = .ok (.iconst 0, 1) := by decide +kernel
theorem d_M_strikes_68 : decode prog_13_method_58_code 68 = .ok (.ireturn, 1) := by decide +kernel
theorem d_M_blow_0 : decode prog_13_method_60_code 0 = .ok (.aload_n 0, 1) := by decide +kernel
theorem d_M_blow_1 : decode prog_13_method_60_code 1 = .ok (.aload_n 0, 1) := by decide +kernel
theorem d_M_blow_2 : decode prog_13_method_60_code 2 = .ok (.iload_n 1, 1) := by decide +kernel
theorem d_M_blow_3 : decode prog_13_method_60_code 3 = .ok (.invokevirtual 396, 3) := by decide +kernel
theorem d_M_blow_6 : decode prog_13_method_60_code 6 = .ok (.putfield 399, 3) := by decide +kernel
theorem d_M_blow_9 : decode prog_13_method_60_code 9 = .ok (.aload_n 0, 1) := by decide +kernel
theorem d_M_blow_10 : decode prog_13_method_60_code 10 = .ok (.aload_n 0, 1) := by decide +kernel
theorem d_M_blow_11 : decode prog_13_method_60_code 11 = .ok (.getfield 370, 3) := by decide +kernel
theorem d_M_blow_14 : decode prog_13_method_60_code 14 = .ok (.ifCond .ne 10, 3) := by decide +kernel
theorem d_M_blow_17 : decode prog_13_method_60_code 17 = .ok (.aload_n 0, 1) := by decide +kernel
theorem d_M_blow_18 : decode prog_13_method_60_code 18 = .ok (.getfield 399, 3) := by decide +kernel
theorem d_M_blow_21 : decode prog_13_method_60_code 21 = .ok (.ifCond .eq 7, 3) := by decide +kernel
theorem d_M_blow_24 : decode prog_13_method_60_code 24 = .ok (.iconst 1, 1) := by decide +kernel
theorem d_M_blow_25 : decode prog_13_method_60_code 25 = .ok (.goto 4, 3) := by decide +kernel
theorem d_M_blow_28 : decode prog_13_method_60_code 28 = .ok (.iconst 0, 1) := by decide +kernel
theorem d_M_blow_29 : decode prog_13_method_60_code 29 = .ok (.putfield 370, 3) := by decide +kernel
theorem d_M_blow_32 : decode prog_13_method_60_code 32 = .ok (.aload_n 0, 1) := by decide +kernel
theorem d_M_blow_33 : decode prog_13_method_60_code 33 = .ok (.dup, 1) := by decide +kernel
theorem d_M_blow_34 : decode prog_13_method_60_code 34 = .ok (.getfield 361, 3) := by decide +kernel
theorem d_M_blow_37 : decode prog_13_method_60_code 37 = .ok (.aload_n 0, 1) := by decide +kernel
theorem d_M_blow_38 : decode prog_13_method_60_code 38 = .ok (.getfield 136, 3) := by decide +kernel
theorem d_M_blow_41 : decode prog_13_method_60_code 41 = .ok (.iconst 5, 1) := by decide +kernel
theorem d_M_blow_42 : decode prog_13_method_60_code 42 = .ok (.iaload, 1) := by decide +kernel
theorem d_M_blow_43 : decode prog_13_method_60_code 43 = .ok (.isub, 1) := by decide +kernel
theorem d_M_blow_44 : decode prog_13_method_60_code 44 = .ok (.putfield 361, 3) := by decide +kernel
theorem d_M_blow_47 : decode prog_13_method_60_code 47 = .ok (.aload_n 0, 1) := by decide +kernel
theorem d_M_blow_48 : decode prog_13_method_60_code 48 = .ok (.aload_n 0, 1) := by decide +kernel
theorem d_M_blow_49 : decode prog_13_method_60_code 49 = .ok (.aload_n 0, 1) := by decide +kernel
theorem d_M_blow_50 : decode prog_13_method_60_code 50 = .ok (.aload_n 0, 1) := by decide +kernel
theorem d_M_blow_51 : decode prog_13_method_60_code 51 = .ok (.iload_n 1, 1) := by decide +kernel
theorem d_M_blow_52 : decode prog_13_method_60_code 52 = .ok (.iconst 0, 1) := by decide +kernel
theorem d_M_blow_53 : decode prog_13_method_60_code 53 = .ok (.invokevirtual 358, 3) := by decide +kernel
theorem d_M_blow_56 : decode prog_13_method_60_code 56 = .ok (.aload_n 0, 1) := by decide +kernel
theorem d_M_blow_57 : decode prog_13_method_60_code 57 = .ok (.iload_n 1, 1) := by decide +kernel
theorem d_M_blow_58 : decode prog_13_method_60_code 58 = .ok (.iconst 2, 1) := by decide +kernel
theorem d_M_blow_59 : decode prog_13_method_60_code 59 = .ok (.invokevirtual 358, 3) := by decide +kernel
theorem d_M_blow_62 : decode prog_13_method_60_code 62 = .ok (.aload_n 0, 1) := by decide +kernel
theorem d_M_blow_63 : decode prog_13_method_60_code 63 = .ok (.getfield 364, 3) := by decide +kernel
theorem d_M_blow_66 : decode prog_13_method_60_code 66 = .ok (.invokestatic 402, 3) := by decide +kernel
theorem d_M_blow_69 : decode prog_13_method_60_code 69 = .ok (.iload_n 2, 1) := by decide +kernel
theorem d_M_blow_70 : decode prog_13_method_60_code 70 = .ok (.aload_n 0, 1) := by decide +kernel
theorem d_M_blow_71 : decode prog_13_method_60_code 71 = .ok (.getfield 399, 3) := by decide +kernel
theorem d_M_blow_74 : decode prog_13_method_60_code 74 = .ok (.invokevirtual 406, 3) := by decide +kernel
theorem d_M_blow_77 : decode prog_13_method_60_code 77 = .ok (.aload_n 0, 1) := by decide +kernel
theorem d_M_blow_78 : decode prog_13_method_60_code 78 = .ok (.getfield 378, 3) := by decide +kernel
theorem d_M_blow_81 : decode prog_13_method_60_code 81 = .ok (.invokevirtual 410, 3) := by decide +kernel
theorem d_M_blow_84 : decode prog_13_method_60_code 84 = .ok (.putfield 367, 3) := by decide +kernel
theorem d_M_blow_87 : decode prog_13_method_60_code 87 = .ok (.aload_n 0, 1) := by decide +kernel
theorem d_M_blow_88 : decode prog_13_method_60_code 88 = .ok (.dup, 1) := by decide +kernel
theorem d_M_blow_89 : decode prog_13_method_60_code 89 = .ok (.getfield 364, 3) := by decide +kernel
theorem d_M_blow_92 : decode prog_13_method_60_code 92 = .ok (.iconst 1, 1) := by decide +kernel
theorem d_M_blow_93 : decode prog_13_method_60_code 93 = .ok (.iadd, 1) := by decide +kernel
theorem d_M_blow_94 : decode prog_13_method_60_code 94 = .ok (.putfield 364, 3) := by decide +kernel
theorem d_M_blow_97 : decode prog_13_method_60_code 97 = .ok (.aload_n 0, 1) := by decide +kernel
theorem d_M_blow_98 : decode prog_13_method_60_code 98 = .ok (.getfield 367, 3) := by decide +kernel
theorem d_M_blow_101 : decode prog_13_method_60_code 101 = .ok (.aload_n 0, 1) := by decide +kernel
theorem d_M_blow_102 : decode prog_13_method_60_code 102 = .ok (.getfield 378, 3) := by decide +kernel
theorem d_M_blow_105 : decode prog_13_method_60_code 105 = .ok (.if_icmp .ne 7, 3) := by decide +kernel
theorem d_M_blow_108 : decode prog_13_method_60_code 108 = .ok (.iconst 1, 1) := by decide +kernel
theorem d_M_blow_109 : decode prog_13_method_60_code 109 = .ok (.goto 4, 3) := by decide +kernel
theorem d_M_blow_112 : decode prog_13_method_60_code 112 = .ok (.iconst 0, 1) := by decide +kernel
theorem d_M_blow_113 : decode prog_13_method_60_code 113 = .ok (.istore_n 3, 1) := by decide +kernel
theorem d_M_blow_114 : decode prog_13_method_60_code 114 = .ok (.iload_n 3, 1) := by decide +kernel
theorem d_M_blow_115 : decode prog_13_method_60_code 115 = .ok (.ifCond .eq 13, 3) := by decide +kernel
theorem d_M_blow_118 : decode prog_13_method_60_code 118 = .ok (.aload_n 0, 1) := by decide +kernel
theorem d_M_blow_119 : decode prog_13_method_60_code 119 = .ok (.dup, 1) := by decide +kernel
theorem d_M_blow_120 : decode prog_13_method_60_code 120 = .ok (.getfield 384, 3) := by decide +kernel
theorem d_M_blow_123 : decode prog_13_method_60_code 123 = .ok (.iconst 1, 1) := by decide +kernel
theorem d_M_blow_124 : decode prog_13_method_60_code 124 = .ok (.iadd, 1) := by decide +kernel
theorem d_M_blow_125 : decode prog_13_method_60_code 125 = .ok (.putfield 384, 3) := by decide +kernel
theorem d_M_blow_128 : decode prog_13_method_60_code 128 = .ok (.iload_n 3, 1) := by decide +kernel
theorem d_M_blow_129 : decode prog_13_method_60_code 129 = .ok (.ifCond .eq 12, 3) := by decide +kernel
theorem d_M_blow_132 : decode prog_13_method_60_code 132 = .ok (.aload_n 0, 1) := by decide +kernel
theorem d_M_blow_133 : decode prog_13_method_60_code 133 = .ok (.bipush 6, 2) := by decide +kernel
theorem d_M_blow_135 : decode prog_13_method_60_code 135 = .ok (.invokevirtual 374, 3) := by decide +kernel
theorem d_M_blow_138 : decode prog_13_method_60_code 138 = .ok (.goto 35, 3) := by decide +kernel
theorem d_M_blow_141 : decode prog_13_method_60_code 141 = .ok (.aload_n 0, 1) := by decide +kernel
theorem d_M_blow_142 : decode prog_13_method_60_code 142 = .ok (.getfield 378, 3) := by decide +kernel
theorem d_M_blow_145 : decode prog_13_method_60_code 145 = .ok (.aload_n 0, 1) := by decide +kernel
theorem d_M_blow_146 : decode prog_13_method_60_code 146 = .ok (.getfield 367, 3) := by decide +kernel
theorem d_M_blow_149 : decode prog_13_method_60_code 149 = .ok (.isub, 1) := by decide +kernel
theorem d_M_blow_150 : decode prog_13_method_60_code 150 = .ok (.aload_n 0, 1) := by decide +kernel
theorem d_M_blow_151 : decode prog_13_method_60_code 151 = .ok (.iconst 5, 1) := by decide +kernel
theorem d_M_blow_152 : decode prog_13_method_60_code 152 = .ok (.invokevirtual 374, 3) := by decide +kernel
theorem d_M_blow_155 : decode prog_13_method_60_code 155 = .ok (.if_icmp .gt 12, 3) := by decide +kernel
theorem d_M_blow_158 : decode prog_13_method_60_code 158 = .ok (.aload_n 0, 1) := by decide +kernel
theorem d_M_blow_159 : decode prog_13_method_60_code 159 = .ok (.bipush 7, 2) := by decide +kernel
theorem d_M_blow_161 : decode prog_13_method_60_code 161 = .ok (.invokevirtual 374, 3) := by decide +kernel
theorem d_M_blow_164 : decode prog_13_method_60_code 164 = .ok (.goto 9, 3) := by decide +kernel
theorem d_M_blow_167 : decode prog_13_method_60_code 167 = .ok (.aload_n 0, 1) := by decide +kernel
theorem d_M_blow_168 : decode prog_13_method_60_code 168 = .ok (.bipush 8, 2) := by decide +kernel
theorem d_M_blow_170 : decode prog_13_method_60_code 170 = .ok (.invokevirtual 374, 3) := by decide +kernel
theorem d_M_blow_173 : decode prog_13_method_60_code 173 = .ok (.istore 4, 2) := by decide +kernel
theorem d_M_blow_175 : decode prog_13_method_60_code 175 = .ok (.aload_n 0, 1) := by decide +kernel
theorem d_M_blow_176 : decode prog_13_method_60_code 176 = .ok (.aload_n 0, 1) := by decide +kernel
theorem d_M_blow_177 : decode prog_13_method_60_code 177 = .ok (.getfield 381, 3) := by decide +kernel
theorem d_M_blow_180 : decode prog_13_method_60_code 180 = .ok (.iload 4, 2) := by decide +kernel
theorem d_M_blow_182 : decode prog_13_method_60_code 182 = .ok (.iadd, 1) := by decide +kernel
theorem d_M_blow_183 : decode prog_13_method_60_code 183 = .ok (.sipush 999, 3) := by decide +kernel
theorem d_M_blow_186 : decode prog_13_method_60_code 186 = .ok (.if_icmp .le 9, 3) := by decide +kernel
theorem d_M_blow_189 : decode prog_13_method_60_code 189 = .ok (.sipush 999, 3) := by decide +kernel
theorem d_M_blow_192 : decode prog_13_method_60_code 192 = .ok (.goto 10, 3) := by decide +kernel
theorem d_M_blow_195 : decode prog_13_method_60_code 195 = .ok (.aload_n 0, 1) := by decide +kernel
theorem d_M_blow_196 : decode prog_13_method_60_code 196 = .ok (.getfield 381, 3) := by decide +kernel
theorem d_M_blow_199 : decode prog_13_method_60_code 199 = .ok (.iload 4, 2) := by decide +kernel
theorem d_M_blow_201 : decode prog_13_method_60_code 201 = .ok (.iadd, 1) := by decide +kernel
theorem d_M_blow_202 : decode prog_13_method_60_code 202 = .ok (.putfield 381, 3) := by decide +kernel
theorem d_M_blow_205 : decode prog_13_method_60_code 205 = .ok (.return_, 1) := by decide +kernel
theorem d_M_grows_0 : decode prog_13_method_70_code 0 = .ok (.aload_n 0, 1) := by decide +kernel
theorem d_M_grows_1 : decode prog_13_method_70_code 1 = .ok (.iload_n 1, 1) := by decide +kernel
theorem d_M_grows_2 : decode prog_13_method_70_code 2 = .ok (.iconst 1, 1) := by decide +kernel
theorem d_M_grows_3 : decode prog_13_method_70_code 3 = .ok (.invokevirtual 358, 3) := by decide +kernel
theorem d_M_grows_6 : decode prog_13_method_70_code 6 = .ok (.iconst 1, 1) := by decide +kernel
theorem d_M_grows_7 : decode prog_13_method_70_code 7 = .ok (.iadd, 1) := by decide +kernel
theorem d_M_grows_8 : decode prog_13_method_70_code 8 = .ok (.istore 4, 2) := by decide +kernel
theorem d_M_grows_10 : decode prog_13_method_70_code 10 = .ok (.aload_n 0, 1) := by decide +kernel
theorem d_M_grows_11 : decode prog_13_method_70_code 11 = .ok (.lconst 1, 1) := by decide +kernel
theorem d_M_grows_12 : decode prog_13_method_70_code 12 = .ok (.putfield 426, 3) := by decide +kernel
theorem d_M_grows_15 : decode prog_13_method_70_code 15 = .ok (.iconst 0, 1) := by decide +kernel
theorem d_M_grows_16 : decode prog_13_method_70_code 16 = .ok (.istore 5, 2) := by decide +kernel
theorem d_M_grows_18 : decode prog_13_method_70_code 18 = .ok (.iload 5, 2) := by decide +kernel
theorem d_M_grows_20 : decode prog_13_method_70_code 20 = .ok (.aload_n 0, 1) := by decide +kernel
theorem d_M_grows_21 : decode prog_13_method_70_code 21 = .ok (.iconst 2, 1) := by decide +kernel
theorem d_M_grows_22 : decode prog_13_method_70_code 22 = .ok (.invokevirtual 374, 3) := by decide +kernel
theorem d_M_grows_25 : decode prog_13_method_70_code 25 = .ok (.if_icmp .ge 21, 3) := by decide +kernel
theorem d_M_grows_28 : decode prog_13_method_70_code 28 = .ok (.aload_n 0, 1) := by decide +kernel
theorem d_M_grows_29 : decode prog_13_method_70_code 29 = .ok (.dup, 1) := by decide +kernel
theorem d_M_grows_30 : decode prog_13_method_70_code 30 = .ok (.getfield 426, 3) := by decide +kernel
theorem d_M_grows_33 : decode prog_13_method_70_code 33 = .ok (.iload 4, 2) := by decide +kernel
theorem d_M_grows_35 : decode prog_13_method_70_code 35 = .ok (.i2l, 1) := by decide +kernel
theorem d_M_grows_36 : decode prog_13_method_70_code 36 = .ok (.lmul, 1) := by decide +kernel
theorem d_M_grows_37 : decode prog_13_method_70_code 37 = .ok (.putfield 426, 3) := by decide +kernel
theorem d_M_grows_40 : decode prog_13_method_70_code 40 = .ok (.iinc 5 1, 3) := by decide +kernel
theorem d_M_grows_43 : decode prog_13_method_70_code 43 = .ok (.goto (-25), 3) := by decide +kernel
theorem d_M_grows_46 : decode prog_13_method_70_code 46 = .ok (.aload_n 0, 1) := by decide +kernel
theorem d_M_grows_47 : decode prog_13_method_70_code 47 = .ok (.lconst 0, 1) := by decide +kernel
theorem d_M_grows_48 : decode prog_13_method_70_code 48 = .ok (.putfield 429, 3) := by decide +kernel
theorem d_M_grows_51 : decode prog_13_method_70_code 51 = .ok (.aload_n 0, 1) := by decide +kernel
theorem d_M_grows_52 : decode prog_13_method_70_code 52 = .ok (.lconst 0, 1) := by decide +kernel
theorem d_M_grows_53 : decode prog_13_method_70_code 53 = .ok (.putfield 432, 3) := by decide +kernel
theorem d_M_grows_56 : decode prog_13_method_70_code 56 = .ok (.aload_n 0, 1) := by decide +kernel
theorem d_M_grows_57 : decode prog_13_method_70_code 57 = .ok (.lconst 0, 1) := by decide +kernel
theorem d_M_grows_58 : decode prog_13_method_70_code 58 = .ok (.putfield 435, 3) := by decide +kernel
theorem d_M_grows_61 : decode prog_13_method_70_code 61 = .ok (.aload_n 0, 1) := by decide +kernel
theorem d_M_grows_62 : decode prog_13_method_70_code 62 = .ok (.lconst 0, 1) := by decide +kernel
theorem d_M_grows_63 : decode prog_13_method_70_code 63 = .ok (.putfield 438, 3) := by decide +kernel
theorem d_M_grows_66 : decode prog_13_method_70_code 66 = .ok (.aload_n 0, 1) := by decide +kernel
theorem d_M_grows_67 : decode prog_13_method_70_code 67 = .ok (.iconst 4, 1) := by decide +kernel
theorem d_M_grows_68 : decode prog_13_method_70_code 68 = .ok (.putfield 441, 3) := by decide +kernel
theorem d_M_grows_71 : decode prog_13_method_70_code 71 = .ok (.aload_n 0, 1) := by decide +kernel
theorem d_M_grows_72 : decode prog_13_method_70_code 72 = .ok (.iconst 0, 1) := by decide +kernel
theorem d_M_grows_73 : decode prog_13_method_70_code 73 = .ok (.putfield 444, 3) := by decide +kernel
theorem d_M_grows_76 : decode prog_13_method_70_code 76 = .ok (.aload_n 0, 1) := by decide +kernel
theorem d_M_grows_77 : decode prog_13_method_70_code 77 = .ok (.iload_n 2, 1) := by decide +kernel
theorem d_M_grows_78 : decode prog_13_method_70_code 78 = .ok (.putfield 390, 3) := by decide +kernel
theorem d_M_grows_81 : decode prog_13_method_70_code 81 = .ok (.aload_n 0, 1) := by decide +kernel
theorem d_M_grows_82 : decode prog_13_method_70_code 82 = .ok (.iload_n 3, 1) := by decide +kernel
theorem d_M_grows_83 : decode prog_13_method_70_code 83 = .ok (.putfield 378, 3) := by decide +kernel
theorem d_M_grows_86 : decode prog_13_method_70_code 86 = .ok (.iconst 0, 1) := by decide +kernel
theorem d_M_grows_87 : decode prog_13_method_70_code 87 = .ok (.istore 5, 2) := by decide +kernel
theorem d_M_grows_89 : decode prog_13_method_70_code 89 = .ok (.iload 5, 2) := by decide +kernel
theorem d_M_grows_91 : decode prog_13_method_70_code 91 = .ok (.i2l, 1) := by decide +kernel
theorem d_M_grows_92 : decode prog_13_method_70_code 92 = .ok (.aload_n 0, 1) := by decide +kernel
theorem d_M_grows_93 : decode prog_13_method_70_code 93 = .ok (.getfield 426, 3) := by decide +kernel
theorem d_M_grows_96 : decode prog_13_method_70_code 96 = .ok (.lcmp, 1) := by decide +kernel
theorem d_M_grows_97 : decode prog_13_method_70_code 97 = .ok (.ifCond .ge 164, 3) := by decide +kernel
theorem d_M_grows_100 : decode prog_13_method_70_code 100 = .ok (.iload 5, 2) := by decide +kernel
theorem d_M_grows_102 : decode prog_13_method_70_code 102 = .ok (.istore 6, 2) := by decide +kernel
theorem d_M_grows_104 : decode prog_13_method_70_code 104 = .ok (.aload_n 0, 1) := by decide +kernel
theorem d_M_grows_105 : decode prog_13_method_70_code 105 = .ok (.aload_n 0, 1) := by decide +kernel
theorem d_M_grows_106 : decode prog_13_method_70_code 106 = .ok (.iconst 4, 1) := by decide +kernel
theorem d_M_grows_107 : decode prog_13_method_70_code 107 = .ok (.invokevirtual 374, 3) := by decide +kernel
theorem d_M_grows_110 : decode prog_13_method_70_code 110 = .ok (.putfield 381, 3) := by decide +kernel
theorem d_M_grows_113 : decode prog_13_method_70_code 113 = .ok (.aload_n 0, 1) := by decide +kernel
theorem d_M_grows_114 : decode prog_13_method_70_code 114 = .ok (.iconst 0, 1) := by decide +kernel
theorem d_M_grows_115 : decode prog_13_method_70_code 115 = .ok (.putfield 384, 3) := by decide +kernel
theorem d_M_grows_118 : decode prog_13_method_70_code 118 = .ok (.aload_n 0, 1) := by decide +kernel
theorem d_M_grows_119 : decode prog_13_method_70_code 119 = .ok (.iload_n 1, 1) := by decide +kernel
theorem d_M_grows_120 : decode prog_13_method_70_code 120 = .ok (.invokevirtual 447, 3) := by decide +kernel
theorem d_M_grows_123 : decode prog_13_method_70_code 123 = .ok (.aload_n 0, 1) := by decide +kernel
theorem d_M_grows_124 : decode prog_13_method_70_code 124 = .ok (.iload_n 1, 1) := by decide +kernel
theorem d_M_grows_125 : decode prog_13_method_70_code 125 = .ok (.invokevirtual 450, 3) := by decide +kernel
theorem d_M_grows_128 : decode prog_13_method_70_code 128 = .ok (.ifCond .eq 23, 3) := by decide +kernel
theorem d_M_grows_131 : decode prog_13_method_70_code 131 = .ok (.aload_n 0, 1) := by decide +kernel
theorem d_M_grows_132 : decode prog_13_method_70_code 132 = .ok (.iload_n 1, 1) := by decide +kernel
theorem d_M_grows_133 : decode prog_13_method_70_code 133 = .ok (.iload 6, 2) := by decide +kernel
theorem d_M_grows_135 : decode prog_13_method_70_code 135 = .ok (.iload 4, 2) := by decide +kernel
theorem d_M_grows_137 : decode prog_13_method_70_code 137 = .ok (.irem, 1) := by decide +kernel
theorem d_M_grows_138 : decode prog_13_method_70_code 138 = .ok (.invokevirtual 453, 3) := by decide +kernel
theorem d_M_grows_141 : decode prog_13_method_70_code 141 = .ok (.iload 6, 2) := by decide +kernel
theorem d_M_grows_143 : decode prog_13_method_70_code 143 = .ok (.iload 4, 2) := by decide +kernel
theorem d_M_grows_145 : decode prog_13_method_70_code 145 = .ok (.idiv, 1) := by decide +kernel
theorem d_M_grows_146 : decode prog_13_method_70_code 146 = .ok (.istore 6, 2) := by decide +kernel
theorem d_M_grows_148 : decode prog_13_method_70_code 148 = .ok (.goto (-25), 3) := by decide +kernel
theorem d_M_grows_151 : decode prog_13_method_70_code 151 = .ok (.aload_n 0, 1) := by decide +kernel
theorem d_M_grows_152 : decode prog_13_method_70_code 152 = .ok (.dup, 1) := by decide +kernel
theorem d_M_grows_153 : decode prog_13_method_70_code 153 = .ok (.getfield 429, 3) := by decide +kernel
theorem d_M_grows_156 : decode prog_13_method_70_code 156 = .ok (.aload_n 0, 1) := by decide +kernel
theorem d_M_grows_157 : decode prog_13_method_70_code 157 = .ok (.getfield 384, 3) := by decide +kernel
theorem d_M_grows_160 : decode prog_13_method_70_code 160 = .ok (.i2l, 1) := by decide +kernel
theorem d_M_grows_161 : decode prog_13_method_70_code 161 = .ok (.ladd, 1) := by decide +kernel
theorem d_M_grows_162 : decode prog_13_method_70_code 162 = .ok (.putfield 429, 3) := by decide +kernel
theorem d_M_grows_165 : decode prog_13_method_70_code 165 = .ok (.aload_n 0, 1) := by decide +kernel
theorem d_M_grows_166 : decode prog_13_method_70_code 166 = .ok (.dup, 1) := by decide +kernel
theorem d_M_grows_167 : decode prog_13_method_70_code 167 = .ok (.getfield 432, 3) := by decide +kernel
theorem d_M_grows_170 : decode prog_13_method_70_code 170 = .ok (.aload_n 0, 1) := by decide +kernel
theorem d_M_grows_171 : decode prog_13_method_70_code 171 = .ok (.getfield 364, 3) := by decide +kernel
theorem d_M_grows_174 : decode prog_13_method_70_code 174 = .ok (.aload_n 0, 1) := by decide +kernel
theorem d_M_grows_175 : decode prog_13_method_70_code 175 = .ok (.getfield 136, 3) := by decide +kernel
theorem d_M_grows_178 : decode prog_13_method_70_code 178 = .ok (.iconst 5, 1) := by decide +kernel
theorem d_M_grows_179 : decode prog_13_method_70_code 179 = .ok (.iaload, 1) := by decide +kernel
theorem d_M_grows_180 : decode prog_13_method_70_code 180 = .ok (.imul, 1) := by decide +kernel
theorem d_M_grows_181 : decode prog_13_method_70_code 181 = .ok (.i2l, 1) := by decide +kernel
theorem d_M_grows_182 : decode prog_13_method_70_code 182 = .ok (.ladd, 1) := by decide +kernel
theorem d_M_grows_183 : decode prog_13_method_70_code 183 = .ok (.putfield 432, 3) := by decide +kernel
theorem d_M_grows_186 : decode prog_13_method_70_code 186 = .ok (.aload_n 0, 1) := by decide +kernel
theorem d_M_grows_187 : decode prog_13_method_70_code 187 = .ok (.dup, 1) := by decide +kernel
theorem d_M_grows_188 : decode prog_13_method_70_code 188 = .ok (.getfield 438, 3) := by decide +kernel
theorem d_M_grows_191 : decode prog_13_method_70_code 191 = .ok (.aload_n 0, 1) := by decide +kernel
theorem d_M_grows_192 : decode prog_13_method_70_code 192 = .ok (.getfield 381, 3) := by decide +kernel
theorem d_M_grows_195 : decode prog_13_method_70_code 195 = .ok (.i2l, 1) := by decide +kernel
theorem d_M_grows_196 : decode prog_13_method_70_code 196 = .ok (.ladd, 1) := by decide +kernel
theorem d_M_grows_197 : decode prog_13_method_70_code 197 = .ok (.putfield 438, 3) := by decide +kernel
theorem d_M_grows_200 : decode prog_13_method_70_code 200 = .ok (.aload_n 0, 1) := by decide +kernel
theorem d_M_grows_201 : decode prog_13_method_70_code 201 = .ok (.getfield 370, 3) := by decide +kernel
theorem d_M_grows_204 : decode prog_13_method_70_code 204 = .ok (.ifCond .eq 13, 3) := by decide +kernel
theorem d_M_grows_207 : decode prog_13_method_70_code 207 = .ok (.aload_n 0, 1) := by decide +kernel
theorem d_M_grows_208 : decode prog_13_method_70_code 208 = .ok (.dup, 1) := by decide +kernel
theorem d_M_grows_209 : decode prog_13_method_70_code 209 = .ok (.getfield 435, 3) := by decide +kernel
theorem d_M_grows_212 : decode prog_13_method_70_code 212 = .ok (.lconst 1, 1) := by decide +kernel
theorem d_M_grows_213 : decode prog_13_method_70_code 213 = .ok (.ladd, 1) := by decide +kernel
theorem d_M_grows_214 : decode prog_13_method_70_code 214 = .ok (.putfield 435, 3) := by decide +kernel
theorem d_M_grows_217 : decode prog_13_method_70_code 217 = .ok (.aload_n 0, 1) := by decide +kernel
theorem d_M_grows_218 : decode prog_13_method_70_code 218 = .ok (.getfield 364, 3) := by decide +kernel
theorem d_M_grows_221 : decode prog_13_method_70_code 221 = .ok (.aload_n 0, 1) := by decide +kernel
theorem d_M_grows_222 : decode prog_13_method_70_code 222 = .ok (.getfield 441, 3) := by decide +kernel
theorem d_M_grows_225 : decode prog_13_method_70_code 225 = .ok (.if_icmp .ge 11, 3) := by decide +kernel
theorem d_M_grows_228 : decode prog_13_method_70_code 228 = .ok (.aload_n 0, 1) := by decide +kernel
theorem d_M_grows_229 : decode prog_13_method_70_code 229 = .ok (.aload_n 0, 1) := by decide +kernel
theorem d_M_grows_230 : decode prog_13_method_70_code 230 = .ok (.getfield 364, 3) := by decide +kernel
theorem d_M_grows_233 : decode prog_13_method_70_code 233 = .ok (.putfield 441, 3) := by decide +kernel
theorem d_M_grows_236 : decode prog_13_method_70_code 236 = .ok (.aload_n 0, 1) := by decide +kernel
theorem d_M_grows_237 : decode prog_13_method_70_code 237 = .ok (.getfield 364, 3) := by decide +kernel
theorem d_M_grows_240 : decode prog_13_method_70_code 240 = .ok (.aload_n 0, 1) := by decide +kernel
theorem d_M_grows_241 : decode prog_13_method_70_code 241 = .ok (.getfield 444, 3) := by decide +kernel
theorem d_M_grows_244 : decode prog_13_method_70_code 244 = .ok (.if_icmp .le 11, 3) := by decide +kernel
theorem d_M_grows_247 : decode prog_13_method_70_code 247 = .ok (.aload_n 0, 1) := by decide +kernel
theorem d_M_grows_248 : decode prog_13_method_70_code 248 = .ok (.aload_n 0, 1) := by decide +kernel
theorem d_M_grows_249 : decode prog_13_method_70_code 249 = .ok (.getfield 364, 3) := by decide +kernel
theorem d_M_grows_252 : decode prog_13_method_70_code 252 = .ok (.putfield 444, 3) := by decide +kernel
theorem d_M_grows_255 : decode prog_13_method_70_code 255 = .ok (.iinc 5 1, 3) := by decide +kernel
theorem d_M_grows_258 : decode prog_13_method_70_code 258 = .ok (.goto (-169), 3) := by decide +kernel
theorem d_M_grows_261 : decode prog_13_method_70_code 261 = .ok (.return_, 1) := by decide +kernel
theorem d_M_thousandths_0 : decode prog_13_method_71_code 0 = .ok (.ldc2_w 456, 3) := by decide +kernel
theorem d_M_thousandths_3 : decode prog_13_method_71_code 3 = .ok (.lload_n 1, 1) := by decide +kernel
theorem d_M_thousandths_4 : decode prog_13_method_71_code 4 = .ok (.lmul, 1) := by decide +kernel
theorem d_M_thousandths_5 : decode prog_13_method_71_code 5 = .ok (.aload_n 0, 1) := by decide +kernel
theorem d_M_thousandths_6 : decode prog_13_method_71_code 6 = .ok (.getfield 426, 3) := by decide +kernel
theorem d_M_thousandths_9 : decode prog_13_method_71_code 9 = .ok (.ldiv, 1) := by decide +kernel
theorem d_M_thousandths_10 : decode prog_13_method_71_code 10 = .ok (.l2i, 1) := by decide +kernel
theorem d_M_thousandths_11 : decode prog_13_method_71_code 11 = .ok (.ireturn, 1) := by decide +kernel
theorem d_M_tree_0 : decode prog_13_method_72_code 0 = .ok (.aload_n 0, 1) := by decide +kernel
theorem d_M_tree_1 : decode prog_13_method_72_code 1 = .ok (.iload_n 1, 1) := by decide +kernel
theorem d_M_tree_2 : decode prog_13_method_72_code 2 = .ok (.invokevirtual 415, 3) := by decide +kernel
theorem d_M_tree_5 : decode prog_13_method_72_code 5 = .ok (.ifCond .eq 15, 3) := by decide +kernel
theorem d_M_tree_8 : decode prog_13_method_72_code 8 = .ok (.iload_n 2, 1) := by decide +kernel
theorem d_M_tree_9 : decode prog_13_method_72_code 9 = .ok (.i2l, 1) := by decide +kernel
theorem d_M_tree_10 : decode prog_13_method_72_code 10 = .ok (.lconst 0, 1) := by decide +kernel
theorem d_M_tree_11 : decode prog_13_method_72_code 11 = .ok (.ldc2_w 413, 3) := by decide +kernel
theorem d_M_tree_14 : decode prog_13_method_72_code 14 = .ok (.invokestatic 198, 3) := by decide +kernel
theorem d_M_tree_17 : decode prog_13_method_72_code 17 = .ok (.ifCond .ne 5, 3) := by decide +kernel
theorem d_M_tree_20 : decode prog_13_method_72_code 20 = .ok (.iconst (-1), 1) := by decide +kernel
theorem d_M_tree_21 : decode prog_13_method_72_code 21 = .ok (.ireturn, 1) := by decide +kernel
theorem d_M_tree_22 : decode prog_13_method_72_code 22 = .ok (.aload_n 0, 1) := by decide +kernel
theorem d_M_tree_23 : decode prog_13_method_72_code 23 = .ok (.iload_n 1, 1) := by decide +kernel
theorem d_M_tree_24 : decode prog_13_method_72_code 24 = .ok (.aload_n 0, 1) := by decide +kernel
theorem d_M_tree_25 : decode prog_13_method_72_code 25 = .ok (.getfield 136, 3) := by decide +kernel
theorem d_M_tree_28 : decode prog_13_method_72_code 28 = .ok (.iconst 2, 1) := by decide +kernel
theorem d_M_tree_29 : decode prog_13_method_72_code 29 = .ok (.iaload, 1) := by decide +kernel
theorem d_M_tree_30 : decode prog_13_method_72_code 30 = .ok (.aload_n 0, 1) := by decide +kernel
theorem d_M_tree_31 : decode prog_13_method_72_code 31 = .ok (.getfield 136, 3) := by decide +kernel
theorem d_M_tree_34 : decode prog_13_method_72_code 34 = .ok (.iconst 3, 1) := by decide +kernel
theorem d_M_tree_35 : decode prog_13_method_72_code 35 = .ok (.iaload, 1) := by decide +kernel
theorem d_M_tree_36 : decode prog_13_method_72_code 36 = .ok (.invokevirtual 458, 3) := by decide +kernel
theorem d_M_tree_39 : decode prog_13_method_72_code 39 = .ok (.iload_n 2, 1) := by decide +kernel
theorem d_M_tree_40 : decode prog_13_method_72_code 40 = .ok (.tableswitch 73 0 4 #[36, 45, 54, 59, 64], 36) := by decide +kernel
theorem d_M_tree_76 : decode prog_13_method_72_code 76 = .ok (.aload_n 0, 1) := by decide +kernel
theorem d_M_tree_77 : decode prog_13_method_72_code 77 = .ok (.aload_n 0, 1) := by decide +kernel
theorem d_M_tree_78 : decode prog_13_method_72_code 78 = .ok (.getfield 429, 3) := by decide +kernel
theorem d_M_tree_81 : decode prog_13_method_72_code 81 = .ok (.invokevirtual 462, 3) := by decide +kernel
theorem d_M_tree_84 : decode prog_13_method_72_code 84 = .ok (.ireturn, 1) := by decide +kernel
theorem d_M_tree_85 : decode prog_13_method_72_code 85 = .ok (.aload_n 0, 1) := by decide +kernel
theorem d_M_tree_86 : decode prog_13_method_72_code 86 = .ok (.aload_n 0, 1) := by decide +kernel
theorem d_M_tree_87 : decode prog_13_method_72_code 87 = .ok (.getfield 432, 3) := by decide +kernel
theorem d_M_tree_90 : decode prog_13_method_72_code 90 = .ok (.invokevirtual 462, 3) := by decide +kernel
theorem d_M_tree_93 : decode prog_13_method_72_code 93 = .ok (.ireturn, 1) := by decide +kernel
theorem d_M_tree_94 : decode prog_13_method_72_code 94 = .ok (.aload_n 0, 1) := by decide +kernel
theorem d_M_tree_95 : decode prog_13_method_72_code 95 = .ok (.getfield 441, 3) := by decide +kernel
theorem d_M_tree_98 : decode prog_13_method_72_code 98 = .ok (.ireturn, 1) := by decide +kernel
theorem d_M_tree_99 : decode prog_13_method_72_code 99 = .ok (.aload_n 0, 1) := by decide +kernel
theorem d_M_tree_100 : decode prog_13_method_72_code 100 = .ok (.getfield 444, 3) := by decide +kernel
theorem d_M_tree_103 : decode prog_13_method_72_code 103 = .ok (.ireturn, 1) := by decide +kernel
theorem d_M_tree_104 : decode prog_13_method_72_code 104 = .ok (.aload_n 0, 1) := by decide +kernel
theorem d_M_tree_105 : decode prog_13_method_72_code 105 = .ok (.aload_n 0, 1) := by decide +kernel
theorem d_M_tree_106 : decode prog_13_method_72_code 106 = .ok (.getfield 435, 3) := by decide +kernel
theorem d_M_tree_109 : decode prog_13_method_72_code 109 = .ok (.invokevirtual 462, 3) := by decide +kernel
theorem d_M_tree_112 : decode prog_13_method_72_code 112 = .ok (.ireturn, 1) := by decide +kernel
theorem d_M_tree_113 : decode prog_13_method_72_code 113 = .ok (.aload_n 0, 1) := by decide +kernel
theorem d_M_tree_114 : decode prog_13_method_72_code 114 = .ok (.aload_n 0, 1) := by decide +kernel
theorem d_M_tree_115 : decode prog_13_method_72_code 115 = .ok (.getfield 438, 3) := by decide +kernel
theorem d_M_tree_118 : decode prog_13_method_72_code 118 = .ok (.invokevirtual 462, 3) := by decide +kernel
theorem d_M_tree_121 : decode prog_13_method_72_code 121 = .ok (.ireturn, 1) := by decide +kernel
theorem d_M_whole_0 : decode prog_13_method_73_code 0 = .ok (.lconst 1, 1) := by decide +kernel
theorem d_M_whole_1 : decode prog_13_method_73_code 1 = .ok (.lstore_n 1, 1) := by decide +kernel
theorem d_M_whole_2 : decode prog_13_method_73_code 2 = .ok (.iconst 0, 1) := by decide +kernel
theorem d_M_whole_3 : decode prog_13_method_73_code 3 = .ok (.istore_n 3, 1) := by decide +kernel
theorem d_M_whole_4 : decode prog_13_method_73_code 4 = .ok (.iload_n 3, 1) := by decide +kernel
theorem d_M_whole_5 : decode prog_13_method_73_code 5 = .ok (.aload_n 0, 1) := by decide +kernel
theorem d_M_whole_6 : decode prog_13_method_73_code 6 = .ok (.iconst 2, 1) := by decide +kernel
theorem d_M_whole_7 : decode prog_13_method_73_code 7 = .ok (.invokevirtual 374, 3) := by decide +kernel
theorem d_M_whole_10 : decode prog_13_method_73_code 10 = .ok (.if_icmp .ge 15, 3) := by decide +kernel
theorem d_M_whole_13 : decode prog_13_method_73_code 13 = .ok (.lload_n 1, 1) := by decide +kernel
theorem d_M_whole_14 : decode prog_13_method_73_code 14 = .ok (.ldc2_w 466, 3) := by decide +kernel
theorem d_M_whole_17 : decode prog_13_method_73_code 17 = .ok (.lmul, 1) := by decide +kernel
theorem d_M_whole_18 : decode prog_13_method_73_code 18 = .ok (.lstore_n 1, 1) := by decide +kernel
theorem d_M_whole_19 : decode prog_13_method_73_code 19 = .ok (.iinc 3 1, 3) := by decide +kernel
theorem d_M_whole_22 : decode prog_13_method_73_code 22 = .ok (.goto (-18), 3) := by decide +kernel
theorem d_M_whole_25 : decode prog_13_method_73_code 25 = .ok (.lload_n 1, 1) := by decide +kernel
theorem d_M_whole_26 : decode prog_13_method_73_code 26 = .ok (.lreturn, 1) := by decide +kernel
theorem d_M_leftAll_0 : decode prog_13_method_74_code 0 = .ok (.lconst 0, 1) := by decide +kernel
theorem d_M_leftAll_1 : decode prog_13_method_74_code 1 = .ok (.lstore_n 3, 1) := by decide +kernel
theorem d_M_leftAll_2 : decode prog_13_method_74_code 2 = .ok (.iconst 0, 1) := by decide +kernel
theorem d_M_leftAll_3 : decode prog_13_method_74_code 3 = .ok (.istore 5, 2) := by decide +kernel
theorem d_M_leftAll_5 : decode prog_13_method_74_code 5 = .ok (.iload 5, 2) := by decide +kernel
theorem d_M_leftAll_7 : decode prog_13_method_74_code 7 = .ok (.aload_n 0, 1) := by decide +kernel
theorem d_M_leftAll_8 : decode prog_13_method_74_code 8 = .ok (.invokevirtual 352, 3) := by decide +kernel
theorem d_M_leftAll_11 : decode prog_13_method_74_code 11 = .ok (.if_icmp .ge 34, 3) := by decide +kernel
theorem d_M_leftAll_14 : decode prog_13_method_74_code 14 = .ok (.aload_n 0, 1) := by decide +kernel
theorem d_M_leftAll_15 : decode prog_13_method_74_code 15 = .ok (.iload 5, 2) := by decide +kernel
theorem d_M_leftAll_17 : decode prog_13_method_74_code 17 = .ok (.iload_n 1, 1) := by decide +kernel
theorem d_M_leftAll_18 : decode prog_13_method_74_code 18 = .ok (.iload_n 2, 1) := by decide +kernel
theorem d_M_leftAll_19 : decode prog_13_method_74_code 19 = .ok (.invokevirtual 458, 3) := by decide +kernel
theorem d_M_leftAll_22 : decode prog_13_method_74_code 22 = .ok (.lload_n 3, 1) := by decide +kernel
theorem d_M_leftAll_23 : decode prog_13_method_74_code 23 = .ok (.aload_n 0, 1) := by decide +kernel
theorem d_M_leftAll_24 : decode prog_13_method_74_code 24 = .ok (.getfield 432, 3) := by decide +kernel
theorem d_M_leftAll_27 : decode prog_13_method_74_code 27 = .ok (.aload_n 0, 1) := by decide +kernel
theorem d_M_leftAll_28 : decode prog_13_method_74_code 28 = .ok (.invokevirtual 468, 3) := by decide +kernel
theorem d_M_leftAll_31 : decode prog_13_method_74_code 31 = .ok (.aload_n 0, 1) := by decide +kernel
theorem d_M_leftAll_32 : decode prog_13_method_74_code 32 = .ok (.getfield 426, 3) := by decide +kernel
theorem d_M_leftAll_35 : decode prog_13_method_74_code 35 = .ok (.ldiv, 1) := by decide +kernel
theorem d_M_leftAll_36 : decode prog_13_method_74_code 36 = .ok (.lmul, 1) := by decide +kernel
theorem d_M_leftAll_37 : decode prog_13_method_74_code 37 = .ok (.ladd, 1) := by decide +kernel
theorem d_M_leftAll_38 : decode prog_13_method_74_code 38 = .ok (.lstore_n 3, 1) := by decide +kernel
theorem d_M_leftAll_39 : decode prog_13_method_74_code 39 = .ok (.iinc 5 1, 3) := by decide +kernel
theorem d_M_leftAll_42 : decode prog_13_method_74_code 42 = .ok (.goto (-37), 3) := by decide +kernel
theorem d_M_leftAll_45 : decode prog_13_method_74_code 45 = .ok (.lload_n 3, 1) := by decide +kernel
theorem d_M_leftAll_46 : decode prog_13_method_74_code 46 = .ok (.lreturn, 1) := by decide +kernel
theorem d_M_best_0 : decode prog_13_method_75_code 0 = .ok (.iload_n 1, 1) := by decide +kernel
theorem d_M_best_1 : decode prog_13_method_75_code 1 = .ok (.i2l, 1) := by decide +kernel
theorem d_M_best_2 : decode prog_13_method_75_code 2 = .ok (.lconst 0, 1) := by decide +kernel
theorem d_M_best_3 : decode prog_13_method_75_code 3 = .ok (.lconst 1, 1) := by decide +kernel
theorem d_M_best_4 : decode prog_13_method_75_code 4 = .ok (.invokestatic 198, 3) := by decide +kernel
theorem d_M_best_7 : decode prog_13_method_75_code 7 = .ok (.ifCond .ne 5, 3) := by decide +kernel
theorem d_M_best_10 : decode prog_13_method_75_code 10 = .ok (.iconst (-1), 1) := by decide +kernel
theorem d_M_best_11 : decode prog_13_method_75_code 11 = .ok (.ireturn, 1) := by decide +kernel
theorem d_M_best_12 : decode prog_13_method_75_code 12 = .ok (.iconst 0, 1) := by decide +kernel
theorem d_M_best_13 : decode prog_13_method_75_code 13 = .ok (.istore_n 2, 1) := by decide +kernel
theorem d_M_best_14 : decode prog_13_method_75_code 14 = .ok (.ldc2_w 471, 3) := by decide +kernel
theorem d_M_best_17 : decode prog_13_method_75_code 17 = .ok (.lstore_n 3, 1) := by decide +kernel
theorem d_M_best_18 : decode prog_13_method_75_code 18 = .ok (.iconst 0, 1) := by decide +kernel
theorem d_M_best_19 : decode prog_13_method_75_code 19 = .ok (.istore 5, 2) := by decide +kernel
theorem d_M_best_21 : decode prog_13_method_75_code 21 = .ok (.iload 5, 2) := by decide +kernel
theorem d_M_best_23 : decode prog_13_method_75_code 23 = .ok (.iconst 1, 1) := by decide +kernel
theorem d_M_best_24 : decode prog_13_method_75_code 24 = .ok (.aload_n 0, 1) := by decide +kernel
theorem d_M_best_25 : decode prog_13_method_75_code 25 = .ok (.invokevirtual 387, 3) := by decide +kernel
theorem d_M_best_28 : decode prog_13_method_75_code 28 = .ok (.ishl, 1) := by decide +kernel
theorem d_M_best_29 : decode prog_13_method_75_code 29 = .ok (.if_icmp .ge 39, 3) := by decide +kernel
theorem d_M_best_32 : decode prog_13_method_75_code 32 = .ok (.aload_n 0, 1) := by decide +kernel
theorem d_M_best_33 : decode prog_13_method_75_code 33 = .ok (.iload 5, 2) := by decide +kernel
theorem d_M_best_35 : decode prog_13_method_75_code 35 = .ok (.aload_n 0, 1) := by decide +kernel
theorem d_M_best_36 : decode prog_13_method_75_code 36 = .ok (.getfield 136, 3) := by decide +kernel
theorem d_M_best_39 : decode prog_13_method_75_code 39 = .ok (.iconst 3, 1) := by decide +kernel
theorem d_M_best_40 : decode prog_13_method_75_code 40 = .ok (.iaload, 1) := by decide +kernel
theorem d_M_best_41 : decode prog_13_method_75_code 41 = .ok (.invokevirtual 473, 3) := by decide +kernel
theorem d_M_best_44 : decode prog_13_method_75_code 44 = .ok (.lstore 6, 2) := by decide +kernel
theorem d_M_best_46 : decode prog_13_method_75_code 46 = .ok (.lload 6, 2) := by decide +kernel
theorem d_M_best_48 : decode prog_13_method_75_code 48 = .ok (.lload_n 3, 1) := by decide +kernel
theorem d_M_best_49 : decode prog_13_method_75_code 49 = .ok (.lcmp, 1) := by decide +kernel
theorem d_M_best_50 : decode prog_13_method_75_code 50 = .ok (.ifCond .gt 6, 3) := by decide +kernel
theorem d_M_best_53 : decode prog_13_method_75_code 53 = .ok (.goto 9, 3) := by decide +kernel
theorem d_M_best_56 : decode prog_13_method_75_code 56 = .ok (.lload 6, 2) := by decide +kernel
theorem d_M_best_58 : decode prog_13_method_75_code 58 = .ok (.lstore_n 3, 1) := by decide +kernel
theorem d_M_best_59 : decode prog_13_method_75_code 59 = .ok (.iload 5, 2) := by decide +kernel
theorem d_M_best_61 : decode prog_13_method_75_code 61 = .ok (.istore_n 2, 1) := by decide +kernel
theorem d_M_best_62 : decode prog_13_method_75_code 62 = .ok (.iinc 5 1, 3) := by decide +kernel
theorem d_M_best_65 : decode prog_13_method_75_code 65 = .ok (.goto (-44), 3) := by decide +kernel
theorem d_M_best_68 : decode prog_13_method_75_code 68 = .ok (.iload_n 1, 1) := by decide +kernel
theorem d_M_best_69 : decode prog_13_method_75_code 69 = .ok (.ifCond .ne 7, 3) := by decide +kernel
theorem d_M_best_72 : decode prog_13_method_75_code 72 = .ok (.iload_n 2, 1) := by decide +kernel
theorem d_M_best_73 : decode prog_13_method_75_code 73 = .ok (.goto 14, 3) := by decide +kernel
theorem d_M_best_76 : decode prog_13_method_75_code 76 = .ok (.ldc2_w 456, 3) := by decide +kernel
theorem d_M_best_79 : decode prog_13_method_75_code 79 = .ok (.lload_n 3, 1) := by decide +kernel
theorem d_M_best_80 : decode prog_13_method_75_code 80 = .ok (.lmul, 1) := by decide +kernel
theorem d_M_best_81 : decode prog_13_method_75_code 81 = .ok (.aload_n 0, 1) := by decide +kernel
theorem d_M_best_82 : decode prog_13_method_75_code 82 = .ok (.invokevirtual 468, 3) := by decide +kernel
theorem d_M_best_85 : decode prog_13_method_75_code 85 = .ok (.ldiv, 1) := by decide +kernel
theorem d_M_best_86 : decode prog_13_method_75_code 86 = .ok (.l2i, 1) := by decide +kernel
theorem d_M_best_87 : decode prog_13_method_75_code 87 = .ok (.ireturn, 1) := by decide +kernel
theorem d_M_honest_0 : decode prog_13_method_76_code 0 = .ok (.iload_n 1, 1) := by decide +kernel
theorem d_M_honest_1 : decode prog_13_method_76_code 1 = .ok (.i2l, 1) := by decide +kernel
theorem d_M_honest_2 : decode prog_13_method_76_code 2 = .ok (.lconst 0, 1) := by decide +kernel
theorem d_M_honest_3 : decode prog_13_method_76_code 3 = .ok (.lconst 1, 1) := by decide +kernel
theorem d_M_honest_4 : decode prog_13_method_76_code 4 = .ok (.invokestatic 198, 3) := by decide +kernel
theorem d_M_honest_7 : decode prog_13_method_76_code 7 = .ok (.ifCond .ne 5, 3) := by decide +kernel
theorem d_M_honest_10 : decode prog_13_method_76_code 10 = .ok (.iconst (-1), 1) := by decide +kernel
theorem d_M_honest_11 : decode prog_13_method_76_code 11 = .ok (.ireturn, 1) := by decide +kernel
theorem d_M_honest_12 : decode prog_13_method_76_code 12 = .ok (.iconst 0, 1) := by decide +kernel
theorem d_M_honest_13 : decode prog_13_method_76_code 13 = .ok (.istore_n 2, 1) := by decide +kernel
theorem d_M_honest_14 : decode prog_13_method_76_code 14 = .ok (.ldc2_w 471, 3) := by decide +kernel
theorem d_M_honest_17 : decode prog_13_method_76_code 17 = .ok (.lstore_n 3, 1) := by decide +kernel
theorem d_M_honest_18 : decode prog_13_method_76_code 18 = .ok (.iconst 1, 1) := by decide +kernel
theorem d_M_honest_19 : decode prog_13_method_76_code 19 = .ok (.istore 5, 2) := by decide +kernel
theorem d_M_honest_21 : decode prog_13_method_76_code 21 = .ok (.iload 5, 2) := by decide +kernel
theorem d_M_honest_23 : decode prog_13_method_76_code 23 = .ok (.bipush 100, 2) := by decide +kernel
theorem d_M_honest_25 : decode prog_13_method_76_code 25 = .ok (.if_icmp .ge 34, 3) := by decide +kernel
theorem d_M_honest_28 : decode prog_13_method_76_code 28 = .ok (.aload_n 0, 1) := by decide +kernel
theorem d_M_honest_29 : decode prog_13_method_76_code 29 = .ok (.iconst 0, 1) := by decide +kernel
theorem d_M_honest_30 : decode prog_13_method_76_code 30 = .ok (.iload 5, 2) := by decide +kernel
theorem d_M_honest_32 : decode prog_13_method_76_code 32 = .ok (.invokevirtual 473, 3) := by decide +kernel
theorem d_M_honest_35 : decode prog_13_method_76_code 35 = .ok (.lstore 6, 2) := by decide +kernel
theorem d_M_honest_37 : decode prog_13_method_76_code 37 = .ok (.lload 6, 2) := by decide +kernel
theorem d_M_honest_39 : decode prog_13_method_76_code 39 = .ok (.lload_n 3, 1) := by decide +kernel
theorem d_M_honest_40 : decode prog_13_method_76_code 40 = .ok (.lcmp, 1) := by decide +kernel
theorem d_M_honest_41 : decode prog_13_method_76_code 41 = .ok (.ifCond .gt 6, 3) := by decide +kernel
theorem d_M_honest_44 : decode prog_13_method_76_code 44 = .ok (.goto 9, 3) := by decide +kernel
theorem d_M_honest_47 : decode prog_13_method_76_code 47 = .ok (.lload 6, 2) := by decide +kernel
theorem d_M_honest_49 : decode prog_13_method_76_code 49 = .ok (.lstore_n 3, 1) := by decide +kernel
theorem d_M_honest_50 : decode prog_13_method_76_code 50 = .ok (.iload 5, 2) := by decide +kernel
theorem d_M_honest_52 : decode prog_13_method_76_code 52 = .ok (.istore_n 2, 1) := by decide +kernel
theorem d_M_honest_53 : decode prog_13_method_76_code 53 = .ok (.iinc 5 1, 3) := by decide +kernel
theorem d_M_honest_56 : decode prog_13_method_76_code 56 = .ok (.goto (-35), 3) := by decide +kernel
theorem d_M_honest_59 : decode prog_13_method_76_code 59 = .ok (.iload_n 1, 1) := by decide +kernel
theorem d_M_honest_60 : decode prog_13_method_76_code 60 = .ok (.ifCond .ne 7, 3) := by decide +kernel
theorem d_M_honest_63 : decode prog_13_method_76_code 63 = .ok (.iload_n 2, 1) := by decide +kernel
theorem d_M_honest_64 : decode prog_13_method_76_code 64 = .ok (.goto 14, 3) := by decide +kernel
theorem d_M_honest_67 : decode prog_13_method_76_code 67 = .ok (.ldc2_w 456, 3) := by decide +kernel
theorem d_M_honest_70 : decode prog_13_method_76_code 70 = .ok (.lload_n 3, 1) := by decide +kernel
theorem d_M_honest_71 : decode prog_13_method_76_code 71 = .ok (.lmul, 1) := by decide +kernel
theorem d_M_honest_72 : decode prog_13_method_76_code 72 = .ok (.aload_n 0, 1) := by decide +kernel
theorem d_M_honest_73 : decode prog_13_method_76_code 73 = .ok (.invokevirtual 468, 3) := by decide +kernel
theorem d_M_honest_76 : decode prog_13_method_76_code 76 = .ok (.ldiv, 1) := by decide +kernel
theorem d_M_honest_77 : decode prog_13_method_76_code 77 = .ok (.l2i, 1) := by decide +kernel
theorem d_M_honest_78 : decode prog_13_method_76_code 78 = .ok (.ireturn, 1) := by decide +kernel
theorem d_M_bet_0 : decode prog_13_method_77_code 0 = .ok (.aload_n 0, 1) := by decide +kernel
theorem d_M_bet_1 : decode prog_13_method_77_code 1 = .ok (.iload_n 1, 1) := by decide +kernel
theorem d_M_bet_2 : decode prog_13_method_77_code 2 = .ok (.invokevirtual 415, 3) := by decide +kernel
theorem d_M_bet_5 : decode prog_13_method_77_code 5 = .ok (.ifCond .eq 26, 3) := by decide +kernel
theorem d_M_bet_8 : decode prog_13_method_77_code 8 = .ok (.aload_n 0, 1) := by decide +kernel
theorem d_M_bet_9 : decode prog_13_method_77_code 9 = .ok (.iload_n 2, 1) := by decide +kernel
theorem d_M_bet_10 : decode prog_13_method_77_code 10 = .ok (.invokevirtual 415, 3) := by decide +kernel
theorem d_M_bet_13 : decode prog_13_method_77_code 13 = .ok (.ifCond .eq 18, 3) := by decide +kernel
theorem d_M_bet_16 : decode prog_13_method_77_code 16 = .ok (.iload_n 1, 1) := by decide +kernel
theorem d_M_bet_17 : decode prog_13_method_77_code 17 = .ok (.iload_n 2, 1) := by decide +kernel
theorem d_M_bet_18 : decode prog_13_method_77_code 18 = .ok (.if_icmp .eq 13, 3) := by decide +kernel
theorem d_M_bet_21 : decode prog_13_method_77_code 21 = .ok (.iload_n 3, 1) := by decide +kernel
theorem d_M_bet_22 : decode prog_13_method_77_code 22 = .ok (.i2l, 1) := by decide +kernel
theorem d_M_bet_23 : decode prog_13_method_77_code 23 = .ok (.lconst 0, 1) := by decide +kernel
theorem d_M_bet_24 : decode prog_13_method_77_code 24 = .ok (.lconst 1, 1) := by decide +kernel
theorem d_M_bet_25 : decode prog_13_method_77_code 25 = .ok (.invokestatic 198, 3) := by decide +kernel
theorem d_M_bet_28 : decode prog_13_method_77_code 28 = .ok (.ifCond .ne 5, 3) := by decide +kernel
theorem d_M_bet_31 : decode prog_13_method_77_code 31 = .ok (.iconst (-1), 1) := by decide +kernel
theorem d_M_bet_32 : decode prog_13_method_77_code 32 = .ok (.ireturn, 1) := by decide +kernel
theorem d_M_bet_33 : decode prog_13_method_77_code 33 = .ok (.iconst 0, 1) := by decide +kernel
theorem d_M_bet_34 : decode prog_13_method_77_code 34 = .ok (.istore 4, 2) := by decide +kernel
theorem d_M_bet_36 : decode prog_13_method_77_code 36 = .ok (.iconst 0, 1) := by decide +kernel
theorem d_M_bet_37 : decode prog_13_method_77_code 37 = .ok (.istore 5, 2) := by decide +kernel
theorem d_M_bet_39 : decode prog_13_method_77_code 39 = .ok (.iload 5, 2) := by decide +kernel
theorem d_M_bet_41 : decode prog_13_method_77_code 41 = .ok (.aload_n 0, 1) := by decide +kernel
theorem d_M_bet_42 : decode prog_13_method_77_code 42 = .ok (.iload_n 1, 1) := by decide +kernel
theorem d_M_bet_43 : decode prog_13_method_77_code 43 = .ok (.iconst 1, 1) := by decide +kernel
theorem d_M_bet_44 : decode prog_13_method_77_code 44 = .ok (.invokevirtual 358, 3) := by decide +kernel
theorem d_M_bet_47 : decode prog_13_method_77_code 47 = .ok (.if_icmp .gt 79, 3) := by decide +kernel
theorem d_M_bet_50 : decode prog_13_method_77_code 50 = .ok (.iconst 0, 1) := by decide +kernel
theorem d_M_bet_51 : decode prog_13_method_77_code 51 = .ok (.istore 6, 2) := by decide +kernel
theorem d_M_bet_53 : decode prog_13_method_77_code 53 = .ok (.iload 6, 2) := by decide +kernel
theorem d_M_bet_55 : decode prog_13_method_77_code 55 = .ok (.aload_n 0, 1) := by decide +kernel
theorem d_M_bet_56 : decode prog_13_method_77_code 56 = .ok (.iload_n 2, 1) := by decide +kernel
theorem d_M_bet_57 : decode prog_13_method_77_code 57 = .ok (.iconst 1, 1) := by decide +kernel
theorem d_M_bet_58 : decode prog_13_method_77_code 58 = .ok (.invokevirtual 358, 3) := by decide +kernel
theorem d_M_bet_61 : decode prog_13_method_77_code 61 = .ok (.if_icmp .gt 59, 3) := by decide +kernel
theorem d_M_bet_64 : decode prog_13_method_77_code 64 = .ok (.aload_n 0, 1) := by decide +kernel
theorem d_M_bet_65 : decode prog_13_method_77_code 65 = .ok (.iload_n 1, 1) := by decide +kernel
theorem d_M_bet_66 : decode prog_13_method_77_code 66 = .ok (.iconst 0, 1) := by decide +kernel
theorem d_M_bet_67 : decode prog_13_method_77_code 67 = .ok (.invokevirtual 358, 3) := by decide +kernel
theorem d_M_bet_70 : decode prog_13_method_77_code 70 = .ok (.iload 5, 2) := by decide +kernel
theorem d_M_bet_72 : decode prog_13_method_77_code 72 = .ok (.invokestatic 355, 3) := by decide +kernel
theorem d_M_bet_75 : decode prog_13_method_77_code 75 = .ok (.istore 7, 2) := by decide +kernel
theorem d_M_bet_77 : decode prog_13_method_77_code 77 = .ok (.aload_n 0, 1) := by decide +kernel
theorem d_M_bet_78 : decode prog_13_method_77_code 78 = .ok (.iload_n 2, 1) := by decide +kernel
theorem d_M_bet_79 : decode prog_13_method_77_code 79 = .ok (.iconst 0, 1) := by decide +kernel
theorem d_M_bet_80 : decode prog_13_method_77_code 80 = .ok (.invokevirtual 358, 3) := by decide +kernel
theorem d_M_bet_83 : decode prog_13_method_77_code 83 = .ok (.iload 6, 2) := by decide +kernel
theorem d_M_bet_85 : decode prog_13_method_77_code 85 = .ok (.invokestatic 355, 3) := by decide +kernel
theorem d_M_bet_88 : decode prog_13_method_77_code 88 = .ok (.istore 8, 2) := by decide +kernel
theorem d_M_bet_90 : decode prog_13_method_77_code 90 = .ok (.iload_n 3, 1) := by decide +kernel
theorem d_M_bet_91 : decode prog_13_method_77_code 91 = .ok (.ifCond .ne 13, 3) := by decide +kernel
theorem d_M_bet_94 : decode prog_13_method_77_code 94 = .ok (.iload 7, 2) := by decide +kernel
theorem d_M_bet_96 : decode prog_13_method_77_code 96 = .ok (.iload 8, 2) := by decide +kernel
theorem d_M_bet_98 : decode prog_13_method_77_code 98 = .ok (.if_icmp .le 16, 3) := by decide +kernel
theorem d_M_bet_101 : decode prog_13_method_77_code 101 = .ok (.goto 10, 3) := by decide +kernel
theorem d_M_bet_104 : decode prog_13_method_77_code 104 = .ok (.iload 7, 2) := by decide +kernel
theorem d_M_bet_106 : decode prog_13_method_77_code 106 = .ok (.iload 8, 2) := by decide +kernel
theorem d_M_bet_108 : decode prog_13_method_77_code 108 = .ok (.if_icmp .ne 6, 3) := by decide +kernel
theorem d_M_bet_111 : decode prog_13_method_77_code 111 = .ok (.iinc 4 1, 3) := by decide +kernel
theorem d_M_bet_114 : decode prog_13_method_77_code 114 = .ok (.iinc 6 1, 3) := by decide +kernel
theorem d_M_bet_117 : decode prog_13_method_77_code 117 = .ok (.goto (-64), 3) := by decide +kernel
theorem d_M_bet_120 : decode prog_13_method_77_code 120 = .ok (.iinc 5 1, 3) := by decide +kernel
theorem d_M_bet_123 : decode prog_13_method_77_code 123 = .ok (.goto (-84), 3) := by decide +kernel
theorem d_M_bet_126 : decode prog_13_method_77_code 126 = .ok (.sipush 1000, 3) := by decide +kernel
theorem d_M_bet_129 : decode prog_13_method_77_code 129 = .ok (.iload 4, 2) := by decide +kernel
theorem d_M_bet_131 : decode prog_13_method_77_code 131 = .ok (.imul, 1) := by decide +kernel
theorem d_M_bet_132 : decode prog_13_method_77_code 132 = .ok (.aload_n 0, 1) := by decide +kernel
theorem d_M_bet_133 : decode prog_13_method_77_code 133 = .ok (.iload_n 1, 1) := by decide +kernel
theorem d_M_bet_134 : decode prog_13_method_77_code 134 = .ok (.iconst 1, 1) := by decide +kernel
theorem d_M_bet_135 : decode prog_13_method_77_code 135 = .ok (.invokevirtual 358, 3) := by decide +kernel
theorem d_M_bet_138 : decode prog_13_method_77_code 138 = .ok (.iconst 1, 1) := by decide +kernel
theorem d_M_bet_139 : decode prog_13_method_77_code 139 = .ok (.iadd, 1) := by decide +kernel
theorem d_M_bet_140 : decode prog_13_method_77_code 140 = .ok (.aload_n 0, 1) := by decide +kernel
theorem d_M_bet_141 : decode prog_13_method_77_code 141 = .ok (.iload_n 2, 1) := by decide +kernel
theorem d_M_bet_142 : decode prog_13_method_77_code 142 = .ok (.iconst 1, 1) := by decide +kernel
theorem d_M_bet_143 : decode prog_13_method_77_code 143 = .ok (.invokevirtual 358, 3) := by decide +kernel
theorem d_M_bet_146 : decode prog_13_method_77_code 146 = .ok (.iconst 1, 1) := by decide +kernel
theorem d_M_bet_147 : decode prog_13_method_77_code 147 = .ok (.iadd, 1) := by decide +kernel
theorem d_M_bet_148 : decode prog_13_method_77_code 148 = .ok (.imul, 1) := by decide +kernel
theorem d_M_bet_149 : decode prog_13_method_77_code 149 = .ok (.idiv, 1) := by decide +kernel
theorem d_M_bet_150 : decode prog_13_method_77_code 150 = .ok (.ireturn, 1) := by decide +kernel
theorem d_M_keeps_0 : decode prog_13_method_78_code 0 = .ok (.aload_n 0, 1) := by decide +kernel
theorem d_M_keeps_1 : decode prog_13_method_78_code 1 = .ok (.aload_n 0, 1) := by decide +kernel
theorem d_M_keeps_2 : decode prog_13_method_78_code 2 = .ok (.getfield 477, 3) := by decide +kernel
theorem d_M_keeps_5 : decode prog_13_method_78_code 5 = .ok (.iconst 1, 1) := by decide +kernel
theorem d_M_keeps_6 : decode prog_13_method_78_code 6 = .ok (.iadd, 1) := by decide +kernel
theorem d_M_keeps_7 : decode prog_13_method_78_code 7 = .ok (.bipush 20, 2) := by decide +kernel
theorem d_M_keeps_9 : decode prog_13_method_78_code 9 = .ok (.irem, 1) := by decide +kernel
theorem d_M_keeps_10 : decode prog_13_method_78_code 10 = .ok (.putfield 477, 3) := by decide +kernel
theorem d_M_keeps_13 : decode prog_13_method_78_code 13 = .ok (.iconst 0, 1) := by decide +kernel
theorem d_M_keeps_14 : decode prog_13_method_78_code 14 = .ok (.istore_n 1, 1) := by decide +kernel
theorem d_M_keeps_15 : decode prog_13_method_78_code 15 = .ok (.iload_n 1, 1) := by decide +kernel
theorem d_M_keeps_16 : decode prog_13_method_78_code 16 = .ok (.bipush 7, 2) := by decide +kernel
theorem d_M_keeps_18 : decode prog_13_method_78_code 18 = .ok (.if_icmp .ge 30, 3) := by decide +kernel
theorem d_M_keeps_21 : decode prog_13_method_78_code 21 = .ok (.aload_n 0, 1) := by decide +kernel
theorem d_M_keeps_22 : decode prog_13_method_78_code 22 = .ok (.getfield 142, 3) := by decide +kernel
theorem d_M_keeps_25 : decode prog_13_method_78_code 25 = .ok (.sipush 307, 3) := by decide +kernel
theorem d_M_keeps_28 : decode prog_13_method_78_code 28 = .ok (.aload_n 0, 1) := by decide +kernel
theorem d_M_keeps_29 : decode prog_13_method_78_code 29 = .ok (.getfield 477, 3) := by decide +kernel
theorem d_M_keeps_32 : decode prog_13_method_78_code 32 = .ok (.imul, 1) := by decide +kernel
theorem d_M_keeps_33 : decode prog_13_method_78_code 33 = .ok (.iload_n 1, 1) := by decide +kernel
theorem d_M_keeps_34 : decode prog_13_method_78_code 34 = .ok (.iadd, 1) := by decide +kernel
theorem d_M_keeps_35 : decode prog_13_method_78_code 35 = .ok (.aload_n 0, 1) := by decide +kernel
theorem d_M_keeps_36 : decode prog_13_method_78_code 36 = .ok (.getfield 136, 3) := by decide +kernel
theorem d_M_keeps_39 : decode prog_13_method_78_code 39 = .ok (.iload_n 1, 1) := by decide +kernel
theorem d_M_keeps_40 : decode prog_13_method_78_code 40 = .ok (.iaload, 1) := by decide +kernel
theorem d_M_keeps_41 : decode prog_13_method_78_code 41 = .ok (.iastore, 1) := by decide +kernel
theorem d_M_keeps_42 : decode prog_13_method_78_code 42 = .ok (.iinc 1 1, 3) := by decide +kernel
theorem d_M_keeps_45 : decode prog_13_method_78_code 45 = .ok (.goto (-30), 3) := by decide +kernel
theorem d_M_keeps_48 : decode prog_13_method_78_code 48 = .ok (.iconst 0, 1) := by decide +kernel
theorem d_M_keeps_49 : decode prog_13_method_78_code 49 = .ok (.istore_n 1, 1) := by decide +kernel
theorem d_M_keeps_50 : decode prog_13_method_78_code 50 = .ok (.iload_n 1, 1) := by decide +kernel
theorem d_M_keeps_51 : decode prog_13_method_78_code 51 = .ok (.sipush 300, 3) := by decide +kernel
theorem d_M_keeps_54 : decode prog_13_method_78_code 54 = .ok (.if_icmp .ge 33, 3) := by decide +kernel
theorem d_M_keeps_57 : decode prog_13_method_78_code 57 = .ok (.aload_n 0, 1) := by decide +kernel
theorem d_M_keeps_58 : decode prog_13_method_78_code 58 = .ok (.getfield 142, 3) := by decide +kernel
theorem d_M_keeps_61 : decode prog_13_method_78_code 61 = .ok (.sipush 307, 3) := by decide +kernel
theorem d_M_keeps_64 : decode prog_13_method_78_code 64 = .ok (.aload_n 0, 1) := by decide +kernel
theorem d_M_keeps_65 : decode prog_13_method_78_code 65 = .ok (.getfield 477, 3) := by decide +kernel
theorem d_M_keeps_68 : decode prog_13_method_78_code 68 = .ok (.imul, 1) := by decide +kernel
theorem d_M_keeps_69 : decode prog_13_method_78_code 69 = .ok (.bipush 7, 2) := by decide +kernel
theorem d_M_keeps_71 : decode prog_13_method_78_code 71 = .ok (.iadd, 1) := by decide +kernel
theorem d_M_keeps_72 : decode prog_13_method_78_code 72 = .ok (.iload_n 1, 1) := by decide +kernel
theorem d_M_keeps_73 : decode prog_13_method_78_code 73 = .ok (.iadd, 1) := by decide +kernel
theorem d_M_keeps_74 : decode prog_13_method_78_code 74 = .ok (.aload_n 0, 1) := by decide +kernel
theorem d_M_keeps_75 : decode prog_13_method_78_code 75 = .ok (.getfield 139, 3) := by decide +kernel
theorem d_M_keeps_78 : decode prog_13_method_78_code 78 = .ok (.iload_n 1, 1) := by decide +kernel
theorem d_M_keeps_79 : decode prog_13_method_78_code 79 = .ok (.iaload, 1) := by decide +kernel
theorem d_M_keeps_80 : decode prog_13_method_78_code 80 = .ok (.iastore, 1) := by decide +kernel
theorem d_M_keeps_81 : decode prog_13_method_78_code 81 = .ok (.iinc 1 1, 3) := by decide +kernel
theorem d_M_keeps_84 : decode prog_13_method_78_code 84 = .ok (.goto (-34), 3) := by decide +kernel
theorem d_M_keeps_87 : decode prog_13_method_78_code 87 = .ok (.aload_n 0, 1) := by decide +kernel
theorem d_M_keeps_88 : decode prog_13_method_78_code 88 = .ok (.getfield 278, 3) := by decide +kernel
theorem d_M_keeps_91 : decode prog_13_method_78_code 91 = .ok (.bipush 20, 2) := by decide +kernel
theorem d_M_keeps_93 : decode prog_13_method_78_code 93 = .ok (.if_icmp .ge 13, 3) := by decide +kernel
theorem d_M_keeps_96 : decode prog_13_method_78_code 96 = .ok (.aload_n 0, 1) := by decide +kernel
theorem d_M_keeps_97 : decode prog_13_method_78_code 97 = .ok (.dup, 1) := by decide +kernel
theorem d_M_keeps_98 : decode prog_13_method_78_code 98 = .ok (.getfield 278, 3) := by decide +kernel
theorem d_M_keeps_101 : decode prog_13_method_78_code 101 = .ok (.iconst 1, 1) := by decide +kernel
theorem d_M_keeps_102 : decode prog_13_method_78_code 102 = .ok (.iadd, 1) := by decide +kernel
theorem d_M_keeps_103 : decode prog_13_method_78_code 103 = .ok (.putfield 278, 3) := by decide +kernel
theorem d_M_keeps_106 : decode prog_13_method_78_code 106 = .ok (.return_, 1) := by decide +kernel
theorem d_M_drawOf_0 : decode prog_13_method_82_code 0 = .ok (.aload_n 0, 1) := by decide +kernel
theorem d_M_drawOf_1 : decode prog_13_method_82_code 1 = .ok (.ldc2_w 480, 3) := by decide +kernel
theorem d_M_drawOf_4 : decode prog_13_method_82_code 4 = .ok (.aload_n 0, 1) := by decide +kernel
theorem d_M_drawOf_5 : decode prog_13_method_82_code 5 = .ok (.getfield 145, 3) := by decide +kernel
theorem d_M_drawOf_8 : decode prog_13_method_82_code 8 = .ok (.lmul, 1) := by decide +kernel
theorem d_M_drawOf_9 : decode prog_13_method_82_code 9 = .ok (.ldc2_w 482, 3) := by decide +kernel
theorem d_M_drawOf_12 : decode prog_13_method_82_code 12 = .ok (.ladd, 1) := by decide +kernel
theorem d_M_drawOf_13 : decode prog_13_method_82_code 13 = .ok (.ldc2_w 484, 3) := by decide +kernel
theorem d_M_drawOf_16 : decode prog_13_method_82_code 16 = .ok (.lrem, 1) := by decide +kernel
theorem d_M_drawOf_17 : decode prog_13_method_82_code 17 = .ok (.putfield 145, 3) := by decide +kernel
theorem d_M_drawOf_20 : decode prog_13_method_82_code 20 = .ok (.aload_n 0, 1) := by decide +kernel
theorem d_M_drawOf_21 : decode prog_13_method_82_code 21 = .ok (.getfield 145, 3) := by decide +kernel
theorem d_M_drawOf_24 : decode prog_13_method_82_code 24 = .ok (.ldc2_w 486, 3) := by decide +kernel
theorem d_M_drawOf_27 : decode prog_13_method_82_code 27 = .ok (.ldiv, 1) := by decide +kernel
theorem d_M_drawOf_28 : decode prog_13_method_82_code 28 = .ok (.iload_n 1, 1) := by decide +kernel
theorem d_M_drawOf_29 : decode prog_13_method_82_code 29 = .ok (.i2l, 1) := by decide +kernel
theorem d_M_drawOf_30 : decode prog_13_method_82_code 30 = .ok (.lrem, 1) := by decide +kernel
theorem d_M_drawOf_31 : decode prog_13_method_82_code 31 = .ok (.l2i, 1) := by decide +kernel
theorem d_M_drawOf_32 : decode prog_13_method_82_code 32 = .ok (.ireturn, 1) := by decide +kernel
def f_M_leans (x1 : Int32) (x2 : Int32) (x3 : Int32) (x4 : Int32) (x5 : Int32) (σ : St) : Option (Int32 × St) :=
  bp (f_M_isTrier x1 σ) fun r_2 =>
  if r_2 = 0 then
    some ((-1), σ)
  else
    bp (f_M_isIn ((x2).toInt64) 0 999 σ) fun r_4 =>
    if r_4 = 0 then
      some ((-1), σ)
    else
      bp (f_M_isIn ((x3).toInt64) 0 3 σ) fun r_6 =>
      if r_6 = 0 then
        some ((-1), σ)
      else
        bp (f_M_isIn ((x4).toInt64) 0 99 σ) fun r_8 =>
        if r_8 = 0 then
          some ((-1), σ)
        else
          bp (f_M_isIn ((x5).toInt64) 0 99 σ) fun r_10 =>
          if r_10 = 0 then
            some ((-1), σ)
          else
            lt (uI σ 15 (sA σ 11 (2 : Int32).toNatClampNeg)) fun σ_11 =>
            lt (uI σ_11 17 x2) fun σ_12 =>
            lt (uI σ_12 20 x3) fun σ_13 =>
            lt (uI σ_13 21 x4) fun σ_14 =>
            lt (uI σ_14 18 x5) fun σ_15 =>
            bp (f_M_trierOf x1 3 σ_15) fun r_17 =>
            lt (uI σ_15 19 r_17) fun σ_18 =>
            bd (f_M_isLeant x1 σ_18) fun r_20 σ_21 =>
            if r_20 = 0 then
              some (0, σ_21)
            else
              some (1, σ_21)
set_option maxHeartbeats 4000000 in
set_option maxRecDepth 20000 in
theorem c_M_leans {l : Launch} {g : GX} {q : Nat → Nat} {x1 : Int32} {x2 : Int32} {x3 : Int32} {x4 : Int32} {x5 : Int32}  {σ : St} {r : Int32} {σ2 : St} (hf : f_M_leans  x1 x2 x3 x4 x5 σ = some (r, σ2)) : KK l y_M_leans prog_13_method_69_code 6 (some .int) 4 g (wM g q) σ [.ref (q 0), .int x1, .int x2, .int x3, .int x4, .int x5] (some (.int r)) (wM g q) σ2 := by
  refine KK_of (plainFor_of_name (by decide)) (Nat.le_of_ble_eq_true rfl) (fun p e s m below meth c A ls C w hl => ?_)
  have hl : lv_has ls 6 [(0, .ref (q 0)), (1, .int x1), (2, .int x2), (3, .int x3), (4, .int x4), (5, .int x5)] := hl
  obtain ⟨hx, hb, hml, hown, hts, hK, hA, hZ, hlocks, hr, hN⟩ := id C
  unfold f_M_leans at hf
  refine lv_aload_n hx hb d_M_leans_0 rfl (lv_at hl 0 rfl) ?_
  refine lv_iload_n hx hb d_M_leans_1 rfl (lv_at hl 1 rfl) ?_
  obtain ⟨r_2, h_1, hf⟩ := bp_e hf
  refine k_callV (As := [.int x1]) (rest := []) C w (c_M_isTrier (q := q) h_1) cv_M_isTrier k1530 (mr_0 C w) (by decide) hl.1 rfl (Nat.le_of_ble_eq_true rfl) d_M_leans_2 (fun H locs w => ?_)
  show WK p l e s m _ below meth c 4 g (wM g q) A (some (.int r)) σ2 H locs (F0 m 5 ls [.int r_2])
  refine lv_if_eq (tgt := 58) hx hb d_M_leans_5 (by decide) (fun cd => ?_) (fun cd => ?_)
  · have hf := it_e cd hf
    refine lv_iconst (v := (-1)) hx hb d_M_leans_58 (by decide) ?_
    obtain ⟨rfl, rfl⟩ := some2_e hf
    exact k_iret C w d_M_leans_59
  · have hf := if_e cd hf
    refine lv_iload_n hx hb d_M_leans_8 rfl (lv_at hl 2 rfl) ?_
    refine lv_i2l hx hb d_M_leans_9 rfl ?_
    refine lv_lconst (v := 0) hx hb d_M_leans_10 (by decide) ?_
    refine lv_ldc2 (v := 999) hx hb hown (hts _ k1579) d_M_leans_11 ?_
    obtain ⟨r_4, h_3, hf⟩ := bp_e hf
    refine k_callS (As := [.long (x2).toInt64, .long 0, .long 999]) (rest := []) C w (c_M_isIn (q := q) h_3) cv_M_isIn k1410 (by decide) hl.1 rfl (Nat.le_of_ble_eq_true rfl) d_M_leans_14 (fun H locs w => ?_)
    show WK p l e s m _ below meth c 4 g (wM g q) A (some (.int r)) σ2 H locs (F0 m 17 ls [.int r_4])
    refine lv_if_eq (tgt := 58) hx hb d_M_leans_17 (by decide) (fun cd => ?_) (fun cd => ?_)
    · have hf := it_e cd hf
      refine lv_iconst (v := (-1)) hx hb d_M_leans_58 (by decide) ?_
      obtain ⟨rfl, rfl⟩ := some2_e hf
      exact k_iret C w d_M_leans_59
    · have hf := if_e cd hf
      refine lv_iload_n hx hb d_M_leans_20 rfl (lv_at hl 3 rfl) ?_
      refine lv_i2l hx hb d_M_leans_21 rfl ?_
      refine lv_lconst (v := 0) hx hb d_M_leans_22 (by decide) ?_
      refine lv_ldc2 (v := 3) hx hb hown (hts _ k1551) d_M_leans_23 ?_
      obtain ⟨r_6, h_5, hf⟩ := bp_e hf
      refine k_callS (As := [.long (x3).toInt64, .long 0, .long 3]) (rest := []) C w (c_M_isIn (q := q) h_5) cv_M_isIn k1410 (by decide) hl.1 rfl (Nat.le_of_ble_eq_true rfl) d_M_leans_26 (fun H locs w => ?_)
      show WK p l e s m _ below meth c 4 g (wM g q) A (some (.int r)) σ2 H locs (F0 m 29 ls [.int r_6])
      refine lv_if_eq (tgt := 58) hx hb d_M_leans_29 (by decide) (fun cd => ?_) (fun cd => ?_)
      · have hf := it_e cd hf
        refine lv_iconst (v := (-1)) hx hb d_M_leans_58 (by decide) ?_
        obtain ⟨rfl, rfl⟩ := some2_e hf
        exact k_iret C w d_M_leans_59
      · have hf := if_e cd hf
        refine lv_iload hx hb d_M_leans_32 (lv_at hl 4 rfl) ?_
        refine lv_i2l hx hb d_M_leans_34 rfl ?_
        refine lv_lconst (v := 0) hx hb d_M_leans_35 (by decide) ?_
        refine lv_ldc2 (v := 99) hx hb hown (hts _ k1546) d_M_leans_36 ?_
        obtain ⟨r_8, h_7, hf⟩ := bp_e hf
        refine k_callS (As := [.long (x4).toInt64, .long 0, .long 99]) (rest := []) C w (c_M_isIn (q := q) h_7) cv_M_isIn k1410 (by decide) hl.1 rfl (Nat.le_of_ble_eq_true rfl) d_M_leans_39 (fun H locs w => ?_)
        show WK p l e s m _ below meth c 4 g (wM g q) A (some (.int r)) σ2 H locs (F0 m 42 ls [.int r_8])
        refine lv_if_eq (tgt := 58) hx hb d_M_leans_42 (by decide) (fun cd => ?_) (fun cd => ?_)
        · have hf := it_e cd hf
          refine lv_iconst (v := (-1)) hx hb d_M_leans_58 (by decide) ?_
          obtain ⟨rfl, rfl⟩ := some2_e hf
          exact k_iret C w d_M_leans_59
        · have hf := if_e cd hf
          refine lv_iload hx hb d_M_leans_45 (lv_at hl 5 rfl) ?_
          refine lv_i2l hx hb d_M_leans_47 rfl ?_
          refine lv_lconst (v := 0) hx hb d_M_leans_48 (by decide) ?_
          refine lv_ldc2 (v := 99) hx hb hown (hts _ k1546) d_M_leans_49 ?_
          obtain ⟨r_10, h_9, hf⟩ := bp_e hf
          refine k_callS (As := [.long (x5).toInt64, .long 0, .long 99]) (rest := []) C w (c_M_isIn (q := q) h_9) cv_M_isIn k1410 (by decide) hl.1 rfl (Nat.le_of_ble_eq_true rfl) d_M_leans_52 (fun H locs w => ?_)
          show WK p l e s m _ below meth c 4 g (wM g q) A (some (.int r)) σ2 H locs (F0 m 55 ls [.int r_10])
          refine lv_if_ne (tgt := 60) hx hb d_M_leans_55 (by decide) (fun cd => ?_) (fun cd => ?_)
          · have hf := if_e cd hf
            refine lv_aload_n hx hb d_M_leans_60 rfl (lv_at hl 0 rfl) ?_
            refine lv_aload_n hx hb d_M_leans_61 rfl (lv_at hl 0 rfl) ?_
            refine mg_0_now C w k1149 d_M_leans_62 ?_
            refine lv_iconst (v := 2) hx hb d_M_leans_65 (by decide) ?_
            refine ml_41 C w (by decide) d_M_leans_66 ?_
            refine mp_0_turnRules C w k1151 d_M_leans_67 (fun σ_11 H locs eσ_11 w => ?_)
            have hf := lt_e eσ_11 hf
            refine lv_aload_n hx hb d_M_leans_70 rfl (lv_at hl 0 rfl) ?_
            refine lv_iload_n hx hb d_M_leans_71 rfl (lv_at hl 2 rfl) ?_
            refine mp_0_turnCrowd C w k1153 d_M_leans_72 (fun σ_12 H locs eσ_12 w => ?_)
            have hf := lt_e eσ_12 hf
            refine lv_aload_n hx hb d_M_leans_75 rfl (lv_at hl 0 rfl) ?_
            refine lv_iload_n hx hb d_M_leans_76 rfl (lv_at hl 3 rfl) ?_
            refine mp_0_turnTried C w k1156 d_M_leans_77 (fun σ_13 H locs eσ_13 w => ?_)
            have hf := lt_e eσ_13 hf
            refine lv_aload_n hx hb d_M_leans_80 rfl (lv_at hl 0 rfl) ?_
            refine lv_iload hx hb d_M_leans_81 (lv_at hl 4 rfl) ?_
            refine mp_0_turnLast C w k1157 d_M_leans_83 (fun σ_14 H locs eσ_14 w => ?_)
            have hf := lt_e eσ_14 hf
            refine lv_aload_n hx hb d_M_leans_86 rfl (lv_at hl 0 rfl) ?_
            refine lv_iload hx hb d_M_leans_87 (lv_at hl 5 rfl) ?_
            refine mp_0_turnRings C w k1154 d_M_leans_89 (fun σ_15 H locs eσ_15 w => ?_)
            have hf := lt_e eσ_15 hf
            refine lv_aload_n hx hb d_M_leans_92 rfl (lv_at hl 0 rfl) ?_
            refine lv_aload_n hx hb d_M_leans_93 rfl (lv_at hl 0 rfl) ?_
            refine lv_iload_n hx hb d_M_leans_94 rfl (lv_at hl 1 rfl) ?_
            refine lv_iconst (v := 3) hx hb d_M_leans_95 (by decide) ?_
            obtain ⟨r_17, h_16, hf⟩ := bp_e hf
            refine k_callV (As := [.int x1, .int 3]) (rest := [.ref (q 0)]) C w (c_M_trierOf (q := q) h_16) cv_M_trierOf k1534 (mr_0 C w) (by decide) hl.1 rfl (Nat.le_of_ble_eq_true rfl) d_M_leans_96 (fun H locs w => ?_)
            show WK p l e s m _ below meth c 4 g (wM g q) A (some (.int r)) σ2 H locs (F0 m 99 ls [.int r_17, .ref (q 0)])
            refine mp_0_turnCoins C w k1155 d_M_leans_99 (fun σ_18 H locs eσ_18 w => ?_)
            have hf := lt_e eσ_18 hf
            refine lv_aload_n hx hb d_M_leans_102 rfl (lv_at hl 0 rfl) ?_
            refine lv_iload_n hx hb d_M_leans_103 rfl (lv_at hl 1 rfl) ?_
            obtain ⟨r_20, σ_21, h_19, hf⟩ := bd_e hf
            refine k_callV (As := [.int x1]) (rest := []) C w (c_M_isLeant (q := q) h_19) cv_M_isLeant k1580 (mr_0 C w) (by decide) hl.1 rfl (Nat.le_of_ble_eq_true rfl) d_M_leans_104 (fun H locs w => ?_)
            show WK p l e s m _ below meth c 4 g (wM g q) A (some (.int r)) σ2 H locs (F0 m 107 ls [.int r_20])
            refine lv_if_eq (tgt := 114) hx hb d_M_leans_107 (by decide) (fun cd => ?_) (fun cd => ?_)
            · have hf := it_e cd hf
              refine lv_iconst (v := 0) hx hb d_M_leans_114 (by decide) ?_
              obtain ⟨rfl, rfl⟩ := some2_e hf
              exact k_iret C w d_M_leans_115
            · have hf := if_e cd hf
              refine lv_iconst (v := 1) hx hb d_M_leans_110 (by decide) ?_
              refine lv_goto (tgt := 115) hx hb d_M_leans_111 (by decide) ?_
              obtain ⟨rfl, rfl⟩ := some2_e hf
              exact k_iret C w d_M_leans_115
          · have hf := it_e cd hf
            refine lv_iconst (v := (-1)) hx hb d_M_leans_58 (by decide) ?_
            obtain ⟨rfl, rfl⟩ := some2_e hf
            exact k_iret C w d_M_leans_59
def f_M_begins (x1 : Int32) (σ : St) : Option (St) :=
  bp (f_M_trierOf x1 3 σ) fun r_2 =>
  lt (uI σ 19 r_2) fun σ_3 =>
  lt (uI σ_3 20 0) fun σ_4 =>
  lt (uI σ_4 21 0) fun σ_5 =>
  lt (uI σ_5 23 0) fun σ_6 =>
  some σ_6
set_option maxHeartbeats 4000000 in
set_option maxRecDepth 20000 in
theorem c_M_begins {l : Launch} {g : GX} {q : Nat → Nat} {x1 : Int32}  {σ : St} {σ2 : St} (hf : f_M_begins  x1 σ = some σ2) : KK l y_M_begins prog_13_method_57_code 2 none 1 g (wM g q) σ [.ref (q 0), .int x1] none (wM g q) σ2 := by
  refine KK_of (plainFor_of_name (by decide)) (Nat.le_of_ble_eq_true rfl) (fun p e s m below meth c A ls C w hl => ?_)
  have hl : lv_has ls 2 [(0, .ref (q 0)), (1, .int x1)] := hl
  obtain ⟨hx, hb, hml, hown, hts, hK, hA, hZ, hlocks, hr, hN⟩ := id C
  unfold f_M_begins at hf
  refine lv_aload_n hx hb d_M_begins_0 rfl (lv_at hl 0 rfl) ?_
  refine lv_aload_n hx hb d_M_begins_1 rfl (lv_at hl 0 rfl) ?_
  refine lv_iload_n hx hb d_M_begins_2 rfl (lv_at hl 1 rfl) ?_
  refine lv_iconst (v := 3) hx hb d_M_begins_3 (by decide) ?_
  obtain ⟨r_2, h_1, hf⟩ := bp_e hf
  refine k_callV (As := [.int x1, .int 3]) (rest := [.ref (q 0)]) C w (c_M_trierOf (q := q) h_1) cv_M_trierOf k1534 (mr_0 C w) (by decide) hl.1 rfl (Nat.le_of_ble_eq_true rfl) d_M_begins_4 (fun H locs w => ?_)
  show WK p l e s m _ below meth c 1 g (wM g q) A none σ2 H locs (F0 m 7 ls [.int r_2, .ref (q 0)])
  refine mp_0_turnCoins C w k1155 d_M_begins_7 (fun σ_3 H locs eσ_3 w => ?_)
  have hf := lt_e eσ_3 hf
  refine lv_aload_n hx hb d_M_begins_10 rfl (lv_at hl 0 rfl) ?_
  refine lv_iconst (v := 0) hx hb d_M_begins_11 (by decide) ?_
  refine mp_0_turnTried C w k1156 d_M_begins_12 (fun σ_4 H locs eσ_4 w => ?_)
  have hf := lt_e eσ_4 hf
  refine lv_aload_n hx hb d_M_begins_15 rfl (lv_at hl 0 rfl) ?_
  refine lv_iconst (v := 0) hx hb d_M_begins_16 (by decide) ?_
  refine mp_0_turnLast C w k1157 d_M_begins_17 (fun σ_5 H locs eσ_5 w => ?_)
  have hf := lt_e eσ_5 hf
  refine lv_aload_n hx hb d_M_begins_20 rfl (lv_at hl 0 rfl) ?_
  refine lv_iconst (v := 0) hx hb d_M_begins_21 (by decide) ?_
  refine mp_0_turnLeant C w (by decide) k1159 d_M_begins_22 (fun σ_6 H locs eσ_6 w => ?_)
  have hf := lt_e eσ_6 hf
  cases some_e hf
  exact k_vret C w d_M_begins_25
def f_M_strikes (x1 : Int32) (σ : St) : Option (Int32) :=
  bp (f_M_toldOf 2 σ) fun r_2 =>
  if (sI σ 20) = r_2 then
    some 0
  else
    if (sA σ 11 (5 : Int32).toNatClampNeg) ≤ (sI σ 19) then
      if (sI σ 20) = 0 then
        some 1
      else
        if (sI σ 16) ≤ (sI σ 21) then
          some 0
        else
          bp (f_M_trierOf x1 4 σ) fun r_4 =>
          if r_4 < ((sI σ 16) - (sI σ 21)) then
            some 0
          else
            some 1
    else
      some 0
set_option maxHeartbeats 4000000 in
set_option maxRecDepth 20000 in
theorem c_M_strikes {l : Launch} {g : GX} {q : Nat → Nat} {x1 : Int32}  {σ : St} {r : Int32} (hf : f_M_strikes  x1 σ = some r) : KK l y_M_strikes prog_13_method_58_code 2 (some .boolean) 1 g (wM g q) σ [.ref (q 0), .int x1] (some (.int r)) (wM g q) σ := by
  refine KK_of (plainFor_of_name (by decide)) (Nat.le_of_ble_eq_true rfl) (fun p e s m below meth c A ls C w hl => ?_)
  have hl : lv_has ls 2 [(0, .ref (q 0)), (1, .int x1)] := hl
  obtain ⟨hx, hb, hml, hown, hts, hK, hA, hZ, hlocks, hr, hN⟩ := id C
  unfold f_M_strikes at hf
  refine lv_aload_n hx hb d_M_strikes_0 rfl (lv_at hl 0 rfl) ?_
  refine mg_0_turnTried C w k1156 d_M_strikes_1 ?_
  refine lv_aload_n hx hb d_M_strikes_4 rfl (lv_at hl 0 rfl) ?_
  refine lv_iconst (v := 2) hx hb d_M_strikes_5 (by decide) ?_
  obtain ⟨r_2, h_1, hf⟩ := bp_e hf
  refine k_callV (As := [.int 2]) (rest := [.int (sI σ 20)]) C w (c_M_toldOf (q := q) h_1) cv_M_toldOf k1517 (mr_0 C w) (by decide) hl.1 rfl (Nat.le_of_ble_eq_true rfl) d_M_strikes_6 (fun H locs w => ?_)
  show WK p l e s m _ below meth c 1 g (wM g q) A (some (.int r)) σ H locs (F0 m 9 ls [.int r_2, .int (sI σ 20)])
  refine lv_icmp_eq (tgt := 25) hx hb d_M_strikes_9 (by decide) (fun cd => ?_) (fun cd => ?_)
  · have hf := it_e cd hf
    refine lv_iconst (v := 0) hx hb d_M_strikes_25 (by decide) ?_
    cases some_e hf
    exact k_zret C w (by decide) d_M_strikes_26
  · have hf := if_e cd hf
    refine lv_aload_n hx hb d_M_strikes_12 rfl (lv_at hl 0 rfl) ?_
    refine mg_0_turnCoins C w k1155 d_M_strikes_13 ?_
    refine lv_aload_n hx hb d_M_strikes_16 rfl (lv_at hl 0 rfl) ?_
    refine mg_0_now C w k1149 d_M_strikes_17 ?_
    refine lv_iconst (v := 5) hx hb d_M_strikes_20 (by decide) ?_
    refine ml_41 C w (by decide) d_M_strikes_21 ?_
    refine lv_icmp_ge (tgt := 27) hx hb d_M_strikes_22 (by decide) (fun cd => ?_) (fun cd => ?_)
    · have hf := it_e cd hf
      refine lv_aload_n hx hb d_M_strikes_27 rfl (lv_at hl 0 rfl) ?_
      refine mg_0_turnTried C w k1156 d_M_strikes_28 ?_
      refine lv_if_eq (tgt := 63) hx hb d_M_strikes_31 (by decide) (fun cd => ?_) (fun cd => ?_)
      · have hf := it_e cd hf
        refine lv_iconst (v := 1) hx hb d_M_strikes_63 (by decide) ?_
        refine lv_goto (tgt := 68) hx hb d_M_strikes_64 (by decide) ?_
        cases some_e hf
        exact k_zret C w (by decide) d_M_strikes_68
      · have hf := if_e cd hf
        refine lv_aload_n hx hb d_M_strikes_34 rfl (lv_at hl 0 rfl) ?_
        refine mg_0_turnLast C w k1157 d_M_strikes_35 ?_
        refine lv_aload_n hx hb d_M_strikes_38 rfl (lv_at hl 0 rfl) ?_
        refine mg_0_turnBell C w k1152 d_M_strikes_39 ?_
        refine lv_icmp_ge (tgt := 67) hx hb d_M_strikes_42 (by decide) (fun cd => ?_) (fun cd => ?_)
        · have hf := it_e cd hf
          refine lv_iconst (v := 0) hx hb d_M_strikes_67 (by decide) ?_
          cases some_e hf
          exact k_zret C w (by decide) d_M_strikes_68
        · have hf := if_e cd hf
          refine lv_aload_n hx hb d_M_strikes_45 rfl (lv_at hl 0 rfl) ?_
          refine mg_0_turnBell C w k1152 d_M_strikes_46 ?_
          refine lv_aload_n hx hb d_M_strikes_49 rfl (lv_at hl 0 rfl) ?_
          refine mg_0_turnLast C w k1157 d_M_strikes_50 ?_
          refine lv_isub hx hb d_M_strikes_53 ?_
          refine lv_aload_n hx hb d_M_strikes_54 rfl (lv_at hl 0 rfl) ?_
          refine lv_iload_n hx hb d_M_strikes_55 rfl (lv_at hl 1 rfl) ?_
          refine lv_iconst (v := 4) hx hb d_M_strikes_56 (by decide) ?_
          obtain ⟨r_4, h_3, hf⟩ := bp_e hf
          refine k_callV (As := [.int x1, .int 4]) (rest := [.int ((sI σ 16) - (sI σ 21))]) C w (c_M_trierOf (q := q) h_3) cv_M_trierOf k1534 (mr_0 C w) (by decide) hl.1 rfl (Nat.le_of_ble_eq_true rfl) d_M_strikes_57 (fun H locs w => ?_)
          show WK p l e s m _ below meth c 1 g (wM g q) A (some (.int r)) σ H locs (F0 m 60 ls [.int r_4, .int ((sI σ 16) - (sI σ 21))])
          refine lv_icmp_gt (tgt := 67) hx hb d_M_strikes_60 (by decide) (fun cd => ?_) (fun cd => ?_)
          · have hf := it_e cd hf
            refine lv_iconst (v := 0) hx hb d_M_strikes_67 (by decide) ?_
            cases some_e hf
            exact k_zret C w (by decide) d_M_strikes_68
          · have hf := if_e cd hf
            refine lv_iconst (v := 1) hx hb d_M_strikes_63 (by decide) ?_
            refine lv_goto (tgt := 68) hx hb d_M_strikes_64 (by decide) ?_
            cases some_e hf
            exact k_zret C w (by decide) d_M_strikes_68
    · have hf := if_e cd hf
      refine lv_iconst (v := 0) hx hb d_M_strikes_25 (by decide) ?_
      cases some_e hf
      exact k_zret C w (by decide) d_M_strikes_26
def f_M_blow_173 (t0 : Int32) (σ : St) : Option (St) :=
  if ((sI σ 17) + t0) ≤ 999 then
    lt (uI σ 17 ((sI σ 17) + t0)) fun σ_1 =>
    some σ_1
  else
    lt (uI σ 17 999) fun σ_2 =>
    some σ_2
def f_M_blow_128 (x3 : Int32) (σ : St) : Option (St) :=
  if x3 = 0 then
    bp (f_M_toldOf 5 σ) fun r_2 =>
    if r_2 < ((sI σ 16) - (sI σ 21)) then
      bp (f_M_toldOf 8 σ) fun r_4 =>
      f_M_blow_173 r_4 σ
    else
      bp (f_M_toldOf 7 σ) fun r_6 =>
      f_M_blow_173 r_6 σ
  else
    bp (f_M_toldOf 6 σ) fun r_8 =>
    f_M_blow_173 r_8 σ
def f_M_blow_113 (t0 : Int32) (σ : St) : Option (St) :=
  if t0 = 0 then
    f_M_blow_128 t0 σ
  else
    lt (uI σ 18 ((sI σ 18) + 1)) fun σ_1 =>
    f_M_blow_128 t0 σ_1
def f_M_blow_29 (x1 : Int32) (x2 : Int32) (t0 : Int32) (σ : St) : Option (St) :=
  gd (isB t0) <|
  lt (uI σ 23 t0) fun σ_2 =>
  lt (uI σ_2 19 ((sI σ_2 19) - (sA σ_2 11 (5 : Int32).toNatClampNeg))) fun σ_3 =>
  bp (f_M_trierOf x1 0 σ_3) fun r_5 =>
  bp (f_M_trierOf x1 2 σ_3) fun r_7 =>
  bp (f_M_tiredBy r_5 r_7 (sI σ_3 20) σ_3) fun r_9 =>
  bp (f_M_heightBy r_9 x2 (sI σ_3 22) σ_3) fun r_11 =>
  bp (f_M_cut r_11 (sI σ_3 16) σ_3) fun r_13 =>
  lt (uI σ_3 21 r_13) fun σ_14 =>
  lt (uI σ_14 20 ((sI σ_14 20) + 1)) fun σ_15 =>
  if (sI σ_15 21) = (sI σ_15 16) then
    f_M_blow_113 1 σ_15
  else
    f_M_blow_113 0 σ_15
def f_M_blow_24 (x1 : Int32) (x2 : Int32) (σ : St) : Option (St) :=
  f_M_blow_29 x1 x2 1 σ
def f_M_blow (x1 : Int32) (x2 : Int32) (σ : St) : Option (St) :=
  bd (f_M_isLeant x1 σ) fun r_2 σ_3 =>
  gd (isB r_2) <|
  lt (uI σ_3 22 r_2) fun σ_5 =>
  if (sI σ_5 23) = 0 then
    if (sI σ_5 22) = 0 then
      f_M_blow_29 x1 x2 0 σ_5
    else
      f_M_blow_24 x1 x2 σ_5
  else
    f_M_blow_24 x1 x2 σ_5
set_option maxHeartbeats 4000000 in
set_option maxRecDepth 20000 in
theorem t_M_blow_173 {σ2 : St} (C : Cx g A p s m av meth c prog_13_method_60_code 5 "BellHammerModel" none)  {t0 : Int32} {σ : St} {H : Heap} {locs : List Loc} {ls : Array Slot} (hf : f_M_blow_173   t0 σ = some σ2) (w : Wd g (wM g q) A s σ H locs) (hl : lv_has ls 5 [(0, .ref (q 0))]) : WK p l e s m av below meth c 4 g (wM g q) A none σ2 H locs (F0 m 173 ls [.int t0]) := by
  obtain ⟨hx, hb, hml, hown, hts, hK, hA, hZ, hlocks, hr, hN⟩ := id C
  unfold f_M_blow_173 at hf
  refine lv_istore (lv' := [(4, .int t0), (0, .ref (q 0))]) hx hb d_M_blow_173 hl (by decide) rfl (fun ls hl => ?_)
  refine lv_aload_n hx hb d_M_blow_175 rfl (lv_at hl 1 rfl) ?_
  refine lv_aload_n hx hb d_M_blow_176 rfl (lv_at hl 1 rfl) ?_
  refine mg_0_turnCrowd C w k1153 d_M_blow_177 ?_
  refine lv_iload hx hb d_M_blow_180 (lv_at hl 0 rfl) ?_
  refine lv_iadd hx hb d_M_blow_182 ?_
  refine lv_sipush (v := 999) hx hb d_M_blow_183 (by decide) ?_
  refine lv_icmp_le (tgt := 195) hx hb d_M_blow_186 (by decide) (fun cd => ?_) (fun cd => ?_)
  · have hf := it_e cd hf
    refine lv_aload_n hx hb d_M_blow_195 rfl (lv_at hl 1 rfl) ?_
    refine mg_0_turnCrowd C w k1153 d_M_blow_196 ?_
    refine lv_iload hx hb d_M_blow_199 (lv_at hl 0 rfl) ?_
    refine lv_iadd hx hb d_M_blow_201 ?_
    refine mp_0_turnCrowd C w k1153 d_M_blow_202 (fun σ_1 H locs eσ_1 w => ?_)
    have hf := lt_e eσ_1 hf
    cases some_e hf
    exact k_vret C w d_M_blow_205
  · have hf := if_e cd hf
    refine lv_sipush (v := 999) hx hb d_M_blow_189 (by decide) ?_
    refine lv_goto (tgt := 202) hx hb d_M_blow_192 (by decide) ?_
    refine mp_0_turnCrowd C w k1153 d_M_blow_202 (fun σ_2 H locs eσ_2 w => ?_)
    have hf := lt_e eσ_2 hf
    cases some_e hf
    exact k_vret C w d_M_blow_205
set_option maxHeartbeats 4000000 in
set_option maxRecDepth 20000 in
theorem t_M_blow_128 {σ2 : St} (C : Cx g A p s m av meth c prog_13_method_60_code 5 "BellHammerModel" none)  {x3 : Int32} {σ : St} {H : Heap} {locs : List Loc} {ls : Array Slot} (hf : f_M_blow_128   x3 σ = some σ2) (w : Wd g (wM g q) A s σ H locs) (hl : lv_has ls 5 [(0, .ref (q 0)), (3, .int x3)]) : WK p l e s m av below meth c 4 g (wM g q) A none σ2 H locs (F0 m 128 ls []) := by
  obtain ⟨hx, hb, hml, hown, hts, hK, hA, hZ, hlocks, hr, hN⟩ := id C
  unfold f_M_blow_128 at hf
  refine lv_iload_n hx hb d_M_blow_128 rfl (lv_at hl 1 rfl) ?_
  refine lv_if_eq (tgt := 141) hx hb d_M_blow_129 (by decide) (fun cd => ?_) (fun cd => ?_)
  · have hf := it_e cd hf
    refine lv_aload_n hx hb d_M_blow_141 rfl (lv_at hl 0 rfl) ?_
    refine mg_0_turnBell C w k1152 d_M_blow_142 ?_
    refine lv_aload_n hx hb d_M_blow_145 rfl (lv_at hl 0 rfl) ?_
    refine mg_0_turnLast C w k1157 d_M_blow_146 ?_
    refine lv_isub hx hb d_M_blow_149 ?_
    refine lv_aload_n hx hb d_M_blow_150 rfl (lv_at hl 0 rfl) ?_
    refine lv_iconst (v := 5) hx hb d_M_blow_151 (by decide) ?_
    obtain ⟨r_2, h_1, hf⟩ := bp_e hf
    refine k_callV (As := [.int 5]) (rest := [.int ((sI σ 16) - (sI σ 21))]) C w (c_M_toldOf (q := q) h_1) cv_M_toldOf k1517 (mr_0 C w) (by decide) hl.1 rfl (Nat.le_of_ble_eq_true rfl) d_M_blow_152 (fun H locs w => ?_)
    show WK p l e s m av below meth c 4 g (wM g q) A none σ2 H locs (F0 m 155 ls [.int r_2, .int ((sI σ 16) - (sI σ 21))])
    refine lv_icmp_gt (tgt := 167) hx hb d_M_blow_155 (by decide) (fun cd => ?_) (fun cd => ?_)
    · have hf := it_e cd hf
      refine lv_aload_n hx hb d_M_blow_167 rfl (lv_at hl 0 rfl) ?_
      refine lv_bipush (v := 8) hx hb d_M_blow_168 (by decide) ?_
      obtain ⟨r_4, h_3, hf⟩ := bp_e hf
      refine k_callV (As := [.int 8]) (rest := []) C w (c_M_toldOf (q := q) h_3) cv_M_toldOf k1517 (mr_0 C w) (by decide) hl.1 rfl (Nat.le_of_ble_eq_true rfl) d_M_blow_170 (fun H locs w => ?_)
      show WK p l e s m av below meth c 4 g (wM g q) A none σ2 H locs (F0 m 173 ls [.int r_4])
      exact t_M_blow_173 C  hf w (lv_sub hl [0] rfl)
    · have hf := if_e cd hf
      refine lv_aload_n hx hb d_M_blow_158 rfl (lv_at hl 0 rfl) ?_
      refine lv_bipush (v := 7) hx hb d_M_blow_159 (by decide) ?_
      obtain ⟨r_6, h_5, hf⟩ := bp_e hf
      refine k_callV (As := [.int 7]) (rest := []) C w (c_M_toldOf (q := q) h_5) cv_M_toldOf k1517 (mr_0 C w) (by decide) hl.1 rfl (Nat.le_of_ble_eq_true rfl) d_M_blow_161 (fun H locs w => ?_)
      show WK p l e s m av below meth c 4 g (wM g q) A none σ2 H locs (F0 m 164 ls [.int r_6])
      refine lv_goto (tgt := 173) hx hb d_M_blow_164 (by decide) ?_
      exact t_M_blow_173 C  hf w (lv_sub hl [0] rfl)
  · have hf := if_e cd hf
    refine lv_aload_n hx hb d_M_blow_132 rfl (lv_at hl 0 rfl) ?_
    refine lv_bipush (v := 6) hx hb d_M_blow_133 (by decide) ?_
    obtain ⟨r_8, h_7, hf⟩ := bp_e hf
    refine k_callV (As := [.int 6]) (rest := []) C w (c_M_toldOf (q := q) h_7) cv_M_toldOf k1517 (mr_0 C w) (by decide) hl.1 rfl (Nat.le_of_ble_eq_true rfl) d_M_blow_135 (fun H locs w => ?_)
    show WK p l e s m av below meth c 4 g (wM g q) A none σ2 H locs (F0 m 138 ls [.int r_8])
    refine lv_goto (tgt := 173) hx hb d_M_blow_138 (by decide) ?_
    exact t_M_blow_173 C  hf w (lv_sub hl [0] rfl)
set_option maxHeartbeats 4000000 in
set_option maxRecDepth 20000 in
theorem t_M_blow_113 {σ2 : St} (C : Cx g A p s m av meth c prog_13_method_60_code 5 "BellHammerModel" none)  {t0 : Int32} {σ : St} {H : Heap} {locs : List Loc} {ls : Array Slot} (hf : f_M_blow_113   t0 σ = some σ2) (w : Wd g (wM g q) A s σ H locs) (hl : lv_has ls 5 [(0, .ref (q 0))]) : WK p l e s m av below meth c 4 g (wM g q) A none σ2 H locs (F0 m 113 ls [.int t0]) := by
  obtain ⟨hx, hb, hml, hown, hts, hK, hA, hZ, hlocks, hr, hN⟩ := id C
  unfold f_M_blow_113 at hf
  refine lv_istore_n (lv' := [(3, .int t0), (0, .ref (q 0))]) hx hb d_M_blow_113 rfl hl (by decide) rfl (fun ls hl => ?_)
  refine lv_iload_n hx hb d_M_blow_114 rfl (lv_at hl 0 rfl) ?_
  refine lv_if_eq (tgt := 128) hx hb d_M_blow_115 (by decide) (fun cd => ?_) (fun cd => ?_)
  · have hf := it_e cd hf
    exact t_M_blow_128 C  hf w (lv_sub hl [1, 0] rfl)
  · have hf := if_e cd hf
    refine lv_aload_n hx hb d_M_blow_118 rfl (lv_at hl 1 rfl) ?_
    refine lv_dup hx hb d_M_blow_119 rfl ?_
    refine mg_0_turnRings C w k1154 d_M_blow_120 ?_
    refine lv_iconst (v := 1) hx hb d_M_blow_123 (by decide) ?_
    refine lv_iadd hx hb d_M_blow_124 ?_
    refine mp_0_turnRings C w k1154 d_M_blow_125 (fun σ_1 H locs eσ_1 w => ?_)
    have hf := lt_e eσ_1 hf
    exact t_M_blow_128 C  hf w (lv_sub hl [1, 0] rfl)
set_option maxHeartbeats 4000000 in
set_option maxRecDepth 20000 in
theorem t_M_blow_29 {σ2 : St} (C : Cx g A p s m av meth c prog_13_method_60_code 5 "BellHammerModel" none)  {x1 : Int32} {x2 : Int32} {t0 : Int32} {σ : St} {H : Heap} {locs : List Loc} {ls : Array Slot} (hf : f_M_blow_29   x1 x2 t0 σ = some σ2) (w : Wd g (wM g q) A s σ H locs) (hl : lv_has ls 5 [(0, .ref (q 0)), (1, .int x1), (2, .int x2)]) : WK p l e s m av below meth c 4 g (wM g q) A none σ2 H locs (F0 m 29 ls [.int t0, .ref (q 0)]) := by
  obtain ⟨hx, hb, hml, hown, hts, hK, hA, hZ, hlocks, hr, hN⟩ := id C
  unfold f_M_blow_29 at hf
  obtain ⟨g_1, hf⟩ := gd_e hf
  refine mp_0_turnLeant C w g_1 k1159 d_M_blow_29 (fun σ_2 H locs eσ_2 w => ?_)
  have hf := lt_e eσ_2 hf
  refine lv_aload_n hx hb d_M_blow_32 rfl (lv_at hl 0 rfl) ?_
  refine lv_dup hx hb d_M_blow_33 rfl ?_
  refine mg_0_turnCoins C w k1155 d_M_blow_34 ?_
  refine lv_aload_n hx hb d_M_blow_37 rfl (lv_at hl 0 rfl) ?_
  refine mg_0_now C w k1149 d_M_blow_38 ?_
  refine lv_iconst (v := 5) hx hb d_M_blow_41 (by decide) ?_
  refine ml_41 C w (by decide) d_M_blow_42 ?_
  refine lv_isub hx hb d_M_blow_43 ?_
  refine mp_0_turnCoins C w k1155 d_M_blow_44 (fun σ_3 H locs eσ_3 w => ?_)
  have hf := lt_e eσ_3 hf
  refine lv_aload_n hx hb d_M_blow_47 rfl (lv_at hl 0 rfl) ?_
  refine lv_aload_n hx hb d_M_blow_48 rfl (lv_at hl 0 rfl) ?_
  refine lv_aload_n hx hb d_M_blow_49 rfl (lv_at hl 0 rfl) ?_
  refine lv_aload_n hx hb d_M_blow_50 rfl (lv_at hl 0 rfl) ?_
  refine lv_iload_n hx hb d_M_blow_51 rfl (lv_at hl 1 rfl) ?_
  refine lv_iconst (v := 0) hx hb d_M_blow_52 (by decide) ?_
  obtain ⟨r_5, h_4, hf⟩ := bp_e hf
  refine k_callV (As := [.int x1, .int 0]) (rest := [.ref (q 0), .ref (q 0), .ref (q 0)]) C w (c_M_trierOf (q := q) h_4) cv_M_trierOf k1534 (mr_0 C w) (by decide) hl.1 rfl (Nat.le_of_ble_eq_true rfl) d_M_blow_53 (fun H locs w => ?_)
  show WK p l e s m av below meth c 4 g (wM g q) A none σ2 H locs (F0 m 56 ls [.int r_5, .ref (q 0), .ref (q 0), .ref (q 0)])
  refine lv_aload_n hx hb d_M_blow_56 rfl (lv_at hl 0 rfl) ?_
  refine lv_iload_n hx hb d_M_blow_57 rfl (lv_at hl 1 rfl) ?_
  refine lv_iconst (v := 2) hx hb d_M_blow_58 (by decide) ?_
  obtain ⟨r_7, h_6, hf⟩ := bp_e hf
  refine k_callV (As := [.int x1, .int 2]) (rest := [.int r_5, .ref (q 0), .ref (q 0), .ref (q 0)]) C w (c_M_trierOf (q := q) h_6) cv_M_trierOf k1534 (mr_0 C w) (by decide) hl.1 rfl (Nat.le_of_ble_eq_true rfl) d_M_blow_59 (fun H locs w => ?_)
  show WK p l e s m av below meth c 4 g (wM g q) A none σ2 H locs (F0 m 62 ls [.int r_7, .int r_5, .ref (q 0), .ref (q 0), .ref (q 0)])
  refine lv_aload_n hx hb d_M_blow_62 rfl (lv_at hl 0 rfl) ?_
  refine mg_0_turnTried C w k1156 d_M_blow_63 ?_
  obtain ⟨r_9, h_8, hf⟩ := bp_e hf
  refine k_callS (As := [.int r_5, .int r_7, .int (sI σ_3 20)]) (rest := [.ref (q 0), .ref (q 0), .ref (q 0)]) C w (c_M_tiredBy (q := q) h_8) cv_M_tiredBy k1553 (by decide) hl.1 rfl (Nat.le_of_ble_eq_true rfl) d_M_blow_66 (fun H locs w => ?_)
  show WK p l e s m av below meth c 4 g (wM g q) A none σ2 H locs (F0 m 69 ls [.int r_9, .ref (q 0), .ref (q 0), .ref (q 0)])
  refine lv_iload_n hx hb d_M_blow_69 rfl (lv_at hl 2 rfl) ?_
  refine lv_aload_n hx hb d_M_blow_70 rfl (lv_at hl 0 rfl) ?_
  refine mg_0_turnSlack C w k1158 d_M_blow_71 ?_
  obtain ⟨r_11, h_10, hf⟩ := bp_e hf
  refine k_callV (As := [.int r_9, .int x2, .int (sI σ_3 22)]) (rest := [.ref (q 0), .ref (q 0)]) C w (c_M_heightBy (q := q) h_10) cv_M_heightBy k1556 (mr_0 C w) (by decide) hl.1 rfl (Nat.le_of_ble_eq_true rfl) d_M_blow_74 (fun H locs w => ?_)
  show WK p l e s m av below meth c 4 g (wM g q) A none σ2 H locs (F0 m 77 ls [.int r_11, .ref (q 0), .ref (q 0)])
  refine lv_aload_n hx hb d_M_blow_77 rfl (lv_at hl 0 rfl) ?_
  refine mg_0_turnBell C w k1152 d_M_blow_78 ?_
  obtain ⟨r_13, h_12, hf⟩ := bp_e hf
  refine k_callV (As := [.int r_11, .int (sI σ_3 16)]) (rest := [.ref (q 0)]) C w (c_M_cut (q := q) h_12) cv_M_cut k1563 (mr_0 C w) (by decide) hl.1 rfl (Nat.le_of_ble_eq_true rfl) d_M_blow_81 (fun H locs w => ?_)
  show WK p l e s m av below meth c 4 g (wM g q) A none σ2 H locs (F0 m 84 ls [.int r_13, .ref (q 0)])
  refine mp_0_turnLast C w k1157 d_M_blow_84 (fun σ_14 H locs eσ_14 w => ?_)
  have hf := lt_e eσ_14 hf
  refine lv_aload_n hx hb d_M_blow_87 rfl (lv_at hl 0 rfl) ?_
  refine lv_dup hx hb d_M_blow_88 rfl ?_
  refine mg_0_turnTried C w k1156 d_M_blow_89 ?_
  refine lv_iconst (v := 1) hx hb d_M_blow_92 (by decide) ?_
  refine lv_iadd hx hb d_M_blow_93 ?_
  refine mp_0_turnTried C w k1156 d_M_blow_94 (fun σ_15 H locs eσ_15 w => ?_)
  have hf := lt_e eσ_15 hf
  refine lv_aload_n hx hb d_M_blow_97 rfl (lv_at hl 0 rfl) ?_
  refine mg_0_turnLast C w k1157 d_M_blow_98 ?_
  refine lv_aload_n hx hb d_M_blow_101 rfl (lv_at hl 0 rfl) ?_
  refine mg_0_turnBell C w k1152 d_M_blow_102 ?_
  refine lv_icmp_ne (tgt := 112) hx hb d_M_blow_105 (by decide) (fun cd => ?_) (fun cd => ?_)
  · have hf := if_e cd hf
    refine lv_iconst (v := 0) hx hb d_M_blow_112 (by decide) ?_
    exact t_M_blow_113 C  hf w (lv_sub hl [0] rfl)
  · have hf := it_e cd hf
    refine lv_iconst (v := 1) hx hb d_M_blow_108 (by decide) ?_
    refine lv_goto (tgt := 113) hx hb d_M_blow_109 (by decide) ?_
    exact t_M_blow_113 C  hf w (lv_sub hl [0] rfl)
set_option maxHeartbeats 4000000 in
set_option maxRecDepth 20000 in
theorem t_M_blow_24 {σ2 : St} (C : Cx g A p s m av meth c prog_13_method_60_code 5 "BellHammerModel" none)  {x1 : Int32} {x2 : Int32} {σ : St} {H : Heap} {locs : List Loc} {ls : Array Slot} (hf : f_M_blow_24   x1 x2 σ = some σ2) (w : Wd g (wM g q) A s σ H locs) (hl : lv_has ls 5 [(0, .ref (q 0)), (1, .int x1), (2, .int x2)]) : WK p l e s m av below meth c 4 g (wM g q) A none σ2 H locs (F0 m 24 ls [.ref (q 0)]) := by
  obtain ⟨hx, hb, hml, hown, hts, hK, hA, hZ, hlocks, hr, hN⟩ := id C
  unfold f_M_blow_24 at hf
  refine lv_iconst (v := 1) hx hb d_M_blow_24 (by decide) ?_
  refine lv_goto (tgt := 29) hx hb d_M_blow_25 (by decide) ?_
  exact t_M_blow_29 C  hf w (lv_sub hl [0, 1, 2] rfl)
set_option maxHeartbeats 4000000 in
set_option maxRecDepth 20000 in
theorem c_M_blow {l : Launch} {g : GX} {q : Nat → Nat} {x1 : Int32} {x2 : Int32}  {σ : St} {σ2 : St} (hf : f_M_blow  x1 x2 σ = some σ2) : KK l y_M_blow prog_13_method_60_code 5 none 4 g (wM g q) σ [.ref (q 0), .int x1, .int x2] none (wM g q) σ2 := by
  refine KK_of (plainFor_of_name (by decide)) (Nat.le_of_ble_eq_true rfl) (fun p e s m below meth c A ls C w hl => ?_)
  have hl : lv_has ls 5 [(0, .ref (q 0)), (1, .int x1), (2, .int x2)] := hl
  obtain ⟨hx, hb, hml, hown, hts, hK, hA, hZ, hlocks, hr, hN⟩ := id C
  unfold f_M_blow at hf
  refine lv_aload_n hx hb d_M_blow_0 rfl (lv_at hl 0 rfl) ?_
  refine lv_aload_n hx hb d_M_blow_1 rfl (lv_at hl 0 rfl) ?_
  refine lv_iload_n hx hb d_M_blow_2 rfl (lv_at hl 1 rfl) ?_
  obtain ⟨r_2, σ_3, h_1, hf⟩ := bd_e hf
  refine k_callV (As := [.int x1]) (rest := [.ref (q 0)]) C w (c_M_isLeant (q := q) h_1) cv_M_isLeant k1580 (mr_0 C w) (by decide) hl.1 rfl (Nat.le_of_ble_eq_true rfl) d_M_blow_3 (fun H locs w => ?_)
  show WK p l e s m _ below meth c 4 g (wM g q) A none σ2 H locs (F0 m 6 ls [.int r_2, .ref (q 0)])
  obtain ⟨g_4, hf⟩ := gd_e hf
  refine mp_0_turnSlack C w g_4 k1158 d_M_blow_6 (fun σ_5 H locs eσ_5 w => ?_)
  have hf := lt_e eσ_5 hf
  refine lv_aload_n hx hb d_M_blow_9 rfl (lv_at hl 0 rfl) ?_
  refine lv_aload_n hx hb d_M_blow_10 rfl (lv_at hl 0 rfl) ?_
  refine mg_0_turnLeant C w k1159 d_M_blow_11 ?_
  refine lv_if_ne (tgt := 24) hx hb d_M_blow_14 (by decide) (fun cd => ?_) (fun cd => ?_)
  · have hf := if_e cd hf
    exact t_M_blow_24 C  hf w (lv_sub hl [0, 1, 2] rfl)
  · have hf := it_e cd hf
    refine lv_aload_n hx hb d_M_blow_17 rfl (lv_at hl 0 rfl) ?_
    refine mg_0_turnSlack C w k1158 d_M_blow_18 ?_
    refine lv_if_eq (tgt := 28) hx hb d_M_blow_21 (by decide) (fun cd => ?_) (fun cd => ?_)
    · have hf := it_e cd hf
      refine lv_iconst (v := 0) hx hb d_M_blow_28 (by decide) ?_
      exact t_M_blow_29 C  hf w (lv_sub hl [0, 1, 2] rfl)
    · have hf := if_e cd hf
      exact t_M_blow_24 C  hf w (lv_sub hl [0, 1, 2] rfl)
def f_M_grows_236 (k89 : Int32 → Int32 → Int32 → St → Option (St)) (x1 : Int32) (x4 : Int32) (x5 : Int32) (σ : St) : Option (St) :=
  if (sI σ 20) ≤ (sI σ 25) then
    lt ((x5 + 1)) fun x_1 =>
    k89 x1 x4 x_1 σ
  else
    lt (uI σ 25 (sI σ 20)) fun σ_2 =>
    lt ((x5 + 1)) fun x_3 =>
    k89 x1 x4 x_3 σ_2
def f_M_grows_217 (k89 : Int32 → Int32 → Int32 → St → Option (St)) (x1 : Int32) (x4 : Int32) (x5 : Int32) (σ : St) : Option (St) :=
  if (sI σ 24) ≤ (sI σ 20) then
    f_M_grows_236 k89 x1 x4 x5 σ
  else
    lt (uI σ 24 (sI σ 20)) fun σ_1 =>
    f_M_grows_236 k89 x1 x4 x5 σ_1
def f_M_grows_123b (k89 : Int32 → Int32 → Int32 → St → Option (St)) (k123 : Int32 → Int32 → Int32 → Int32 → St → Option (St)) (x1 : Int32) (x4 : Int32) (x5 : Int32) (x6 : Int32) (σ : St) : Option (St) :=
  bp (f_M_strikes x1 σ) fun r_2 =>
  if r_2 = 0 then
    lt (uJ σ 1 ((sJ σ 1) + ((sI σ 18)).toInt64)) fun σ_3 =>
    lt (uJ σ_3 2 ((sJ σ_3 2) + (((sI σ_3 20) * (sA σ_3 11 (5 : Int32).toNatClampNeg))).toInt64)) fun σ_4 =>
    lt (uJ σ_4 4 ((sJ σ_4 4) + ((sI σ_4 17)).toInt64)) fun σ_5 =>
    if (sI σ_5 23) = 0 then
      f_M_grows_217 k89 x1 x4 x5 σ_5
    else
      lt (uJ σ_5 3 ((sJ σ_5 3) + 1)) fun σ_6 =>
      f_M_grows_217 k89 x1 x4 x5 σ_6
  else
    gd (nz x4) <|
    bp (f_M_blow x1 (iR x6 x4) σ) fun σ_9 =>
    gd (nz x4) <|
    lt ((x6 / x4)) fun x_11 =>
    k123 x1 x4 x5 x_11 σ_9
def f_M_grows_123 (k89 : Int32 → Int32 → Int32 → St → Option (St)) : Nat → Int32 → Int32 → Int32 → Int32 → St → Option (St)
  | 0 => fun _ _ _ _ _ => none
  | n + 1 => f_M_grows_123b  k89 (f_M_grows_123  k89 n)
def f_M_grows_89b (k89 : Int32 → Int32 → Int32 → St → Option (St)) (x1 : Int32) (x4 : Int32) (x5 : Int32) (σ : St) : Option (St) :=
  if 0 ≤ (lg_cmp (x5).toInt64 (sJ σ 0)) then
    some σ
  else
    bp (f_M_toldOf 4 σ) fun r_2 =>
    lt (uI σ 17 r_2) fun σ_3 =>
    lt (uI σ_3 18 0) fun σ_4 =>
    bp (f_M_begins x1 σ_4) fun σ_6 =>
    f_M_grows_123 k89 FU x1 x4 x5 x5 σ_6
def f_M_grows_89 : Nat → Int32 → Int32 → Int32 → St → Option (St)
  | 0 => fun _ _ _ _ => none
  | n + 1 => f_M_grows_89b   (f_M_grows_89   n)
def f_M_grows_18b (k18 : Int32 → Int32 → Int32 → Int32 → Int32 → St → Option (St)) (x1 : Int32) (x2 : Int32) (x3 : Int32) (x4 : Int32) (x5 : Int32) (σ : St) : Option (St) :=
  bp (f_M_toldOf 2 σ) fun r_2 =>
  if r_2 ≤ x5 then
    lt (uJ σ 1 0) fun σ_3 =>
    lt (uJ σ_3 2 0) fun σ_4 =>
    lt (uJ σ_4 3 0) fun σ_5 =>
    lt (uJ σ_5 4 0) fun σ_6 =>
    lt (uI σ_6 24 4) fun σ_7 =>
    lt (uI σ_7 25 0) fun σ_8 =>
    lt (uI σ_8 15 x2) fun σ_9 =>
    lt (uI σ_9 16 x3) fun σ_10 =>
    f_M_grows_89 FU x1 x4 0 σ_10
  else
    lt (uJ σ 0 ((sJ σ 0) * (x4).toInt64)) fun σ_11 =>
    lt ((x5 + 1)) fun x_12 =>
    k18 x1 x2 x3 x4 x_12 σ_11
def f_M_grows_18 : Nat → Int32 → Int32 → Int32 → Int32 → Int32 → St → Option (St)
  | 0 => fun _ _ _ _ _ _ => none
  | n + 1 => f_M_grows_18b   (f_M_grows_18   n)
def f_M_grows (x1 : Int32) (x2 : Int32) (x3 : Int32) (σ : St) : Option (St) :=
  bp (f_M_trierOf x1 1 σ) fun r_2 =>
  lt ((r_2 + 1)) fun x_3 =>
  lt (uJ σ 0 1) fun σ_4 =>
  f_M_grows_18 FU x1 x2 x3 x_3 0 σ_4
set_option maxHeartbeats 4000000 in
set_option maxRecDepth 20000 in
theorem t_M_grows_236 {σ2 : St} (C : Cx g A p s m av meth c prog_13_method_70_code 7 "BellHammerModel" none) {k89 : Int32 → Int32 → Int32 → St → Option (St)} (hk89 : ∀ (x1 : Int32) (x4 : Int32) (x5 : Int32) (σ : St) (H : Heap) (locs : List Loc) (ls : Array Slot), k89 x1 x4 x5 σ = some σ2 → Wd g (wM g q) A s σ H locs → lv_has ls 7 [(0, .ref (q 0)), (1, .int x1), (4, .int x4), (5, .int x5)] → WK p l e s m av below meth c 5 g (wM g q) A none σ2 H locs (F0 m 89 ls []))  {x1 : Int32} {x4 : Int32} {x5 : Int32} {σ : St} {H : Heap} {locs : List Loc} {ls : Array Slot} (hf : f_M_grows_236  k89 x1 x4 x5 σ = some σ2) (w : Wd g (wM g q) A s σ H locs) (hl : lv_has ls 7 [(0, .ref (q 0)), (1, .int x1), (4, .int x4), (5, .int x5)]) : WK p l e s m av below meth c 5 g (wM g q) A none σ2 H locs (F0 m 236 ls []) := by
  obtain ⟨hx, hb, hml, hown, hts, hK, hA, hZ, hlocks, hr, hN⟩ := id C
  unfold f_M_grows_236 at hf
  refine lv_aload_n hx hb d_M_grows_236 rfl (lv_at hl 0 rfl) ?_
  refine mg_0_turnTried C w k1156 d_M_grows_237 ?_
  refine lv_aload_n hx hb d_M_grows_240 rfl (lv_at hl 0 rfl) ?_
  refine mg_0_treeMost C w k1166 d_M_grows_241 ?_
  refine lv_icmp_le (tgt := 255) hx hb d_M_grows_244 (by decide) (fun cd => ?_) (fun cd => ?_)
  · have hf := it_e cd hf
    obtain ⟨x_1, ex_1⟩ : ∃ y : Int32, y = (x5 + 1) := ⟨_, rfl⟩
    have hf := lt_e ex_1 hf
    refine lv_iinc (v := x_1) (lv' := [(5, .int x_1), (0, .ref (q 0)), (1, .int x1), (4, .int x4)]) hx hb d_M_grows_255 hl (k := 3) rfl (by rw [ex_1]; rfl) (by decide) rfl (fun ls hl => ?_)
    refine lv_goto (tgt := 89) hx hb d_M_grows_258 (by decide) ?_
    exact hk89 x1 x4 x_1 σ _ _ _ hf w (lv_sub hl [1, 2, 3, 0] rfl)
  · have hf := if_e cd hf
    refine lv_aload_n hx hb d_M_grows_247 rfl (lv_at hl 0 rfl) ?_
    refine lv_aload_n hx hb d_M_grows_248 rfl (lv_at hl 0 rfl) ?_
    refine mg_0_turnTried C w k1156 d_M_grows_249 ?_
    refine mp_0_treeMost C w k1166 d_M_grows_252 (fun σ_2 H locs eσ_2 w => ?_)
    have hf := lt_e eσ_2 hf
    obtain ⟨x_3, ex_3⟩ : ∃ y : Int32, y = (x5 + 1) := ⟨_, rfl⟩
    have hf := lt_e ex_3 hf
    refine lv_iinc (v := x_3) (lv' := [(5, .int x_3), (0, .ref (q 0)), (1, .int x1), (4, .int x4)]) hx hb d_M_grows_255 hl (k := 3) rfl (by rw [ex_3]; rfl) (by decide) rfl (fun ls hl => ?_)
    refine lv_goto (tgt := 89) hx hb d_M_grows_258 (by decide) ?_
    exact hk89 x1 x4 x_3 σ_2 _ _ _ hf w (lv_sub hl [1, 2, 3, 0] rfl)
set_option maxHeartbeats 4000000 in
set_option maxRecDepth 20000 in
theorem t_M_grows_217 {σ2 : St} (C : Cx g A p s m av meth c prog_13_method_70_code 7 "BellHammerModel" none) {k89 : Int32 → Int32 → Int32 → St → Option (St)} (hk89 : ∀ (x1 : Int32) (x4 : Int32) (x5 : Int32) (σ : St) (H : Heap) (locs : List Loc) (ls : Array Slot), k89 x1 x4 x5 σ = some σ2 → Wd g (wM g q) A s σ H locs → lv_has ls 7 [(0, .ref (q 0)), (1, .int x1), (4, .int x4), (5, .int x5)] → WK p l e s m av below meth c 5 g (wM g q) A none σ2 H locs (F0 m 89 ls []))  {x1 : Int32} {x4 : Int32} {x5 : Int32} {σ : St} {H : Heap} {locs : List Loc} {ls : Array Slot} (hf : f_M_grows_217  k89 x1 x4 x5 σ = some σ2) (w : Wd g (wM g q) A s σ H locs) (hl : lv_has ls 7 [(0, .ref (q 0)), (1, .int x1), (4, .int x4), (5, .int x5)]) : WK p l e s m av below meth c 5 g (wM g q) A none σ2 H locs (F0 m 217 ls []) := by
  obtain ⟨hx, hb, hml, hown, hts, hK, hA, hZ, hlocks, hr, hN⟩ := id C
  unfold f_M_grows_217 at hf
  refine lv_aload_n hx hb d_M_grows_217 rfl (lv_at hl 0 rfl) ?_
  refine mg_0_turnTried C w k1156 d_M_grows_218 ?_
  refine lv_aload_n hx hb d_M_grows_221 rfl (lv_at hl 0 rfl) ?_
  refine mg_0_treeFewest C w k1165 d_M_grows_222 ?_
  refine lv_icmp_ge (tgt := 236) hx hb d_M_grows_225 (by decide) (fun cd => ?_) (fun cd => ?_)
  · have hf := it_e cd hf
    exact t_M_grows_236 C hk89 hf w (lv_sub hl [0, 1, 2, 3] rfl)
  · have hf := if_e cd hf
    refine lv_aload_n hx hb d_M_grows_228 rfl (lv_at hl 0 rfl) ?_
    refine lv_aload_n hx hb d_M_grows_229 rfl (lv_at hl 0 rfl) ?_
    refine mg_0_turnTried C w k1156 d_M_grows_230 ?_
    refine mp_0_treeFewest C w k1165 d_M_grows_233 (fun σ_1 H locs eσ_1 w => ?_)
    have hf := lt_e eσ_1 hf
    exact t_M_grows_236 C hk89 hf w (lv_sub hl [0, 1, 2, 3] rfl)
set_option maxHeartbeats 4000000 in
set_option maxRecDepth 20000 in
theorem t_M_grows_123b {σ2 : St} (C : Cx g A p s m av meth c prog_13_method_70_code 7 "BellHammerModel" none) {k89 : Int32 → Int32 → Int32 → St → Option (St)} (hk89 : ∀ (x1 : Int32) (x4 : Int32) (x5 : Int32) (σ : St) (H : Heap) (locs : List Loc) (ls : Array Slot), k89 x1 x4 x5 σ = some σ2 → Wd g (wM g q) A s σ H locs → lv_has ls 7 [(0, .ref (q 0)), (1, .int x1), (4, .int x4), (5, .int x5)] → WK p l e s m av below meth c 5 g (wM g q) A none σ2 H locs (F0 m 89 ls [])) {k123 : Int32 → Int32 → Int32 → Int32 → St → Option (St)} (hk123 : ∀ (x1 : Int32) (x4 : Int32) (x5 : Int32) (x6 : Int32) (σ : St) (H : Heap) (locs : List Loc) (ls : Array Slot), k123 x1 x4 x5 x6 σ = some σ2 → Wd g (wM g q) A s σ H locs → lv_has ls 7 [(0, .ref (q 0)), (1, .int x1), (4, .int x4), (5, .int x5), (6, .int x6)] → WK p l e s m av below meth c 5 g (wM g q) A none σ2 H locs (F0 m 123 ls []))  {x1 : Int32} {x4 : Int32} {x5 : Int32} {x6 : Int32} {σ : St} {H : Heap} {locs : List Loc} {ls : Array Slot} (hf : f_M_grows_123b  k89 k123 x1 x4 x5 x6 σ = some σ2) (w : Wd g (wM g q) A s σ H locs) (hl : lv_has ls 7 [(0, .ref (q 0)), (1, .int x1), (4, .int x4), (5, .int x5), (6, .int x6)]) : WK p l e s m av below meth c 5 g (wM g q) A none σ2 H locs (F0 m 123 ls []) := by
  obtain ⟨hx, hb, hml, hown, hts, hK, hA, hZ, hlocks, hr, hN⟩ := id C
  unfold f_M_grows_123b at hf
  refine lv_aload_n hx hb d_M_grows_123 rfl (lv_at hl 0 rfl) ?_
  refine lv_iload_n hx hb d_M_grows_124 rfl (lv_at hl 1 rfl) ?_
  obtain ⟨r_2, h_1, hf⟩ := bp_e hf
  refine k_callV (As := [.int x1]) (rest := []) C w (c_M_strikes (q := q) h_1) cv_M_strikes k1618 (mr_0 C w) (by decide) hl.1 rfl (Nat.le_of_ble_eq_true rfl) d_M_grows_125 (fun H locs w => ?_)
  show WK p l e s m av below meth c 5 g (wM g q) A none σ2 H locs (F0 m 128 ls [.int r_2])
  refine lv_if_eq (tgt := 151) hx hb d_M_grows_128 (by decide) (fun cd => ?_) (fun cd => ?_)
  · have hf := it_e cd hf
    refine lv_aload_n hx hb d_M_grows_151 rfl (lv_at hl 0 rfl) ?_
    refine lv_dup hx hb d_M_grows_152 rfl ?_
    refine mg_0_treeRings C w k1161 d_M_grows_153 ?_
    refine lv_aload_n hx hb d_M_grows_156 rfl (lv_at hl 0 rfl) ?_
    refine mg_0_turnRings C w k1154 d_M_grows_157 ?_
    refine lv_i2l hx hb d_M_grows_160 rfl ?_
    refine lv_ladd hx hb d_M_grows_161 ?_
    refine mp_0_treeRings C w k1161 d_M_grows_162 (fun σ_3 H locs eσ_3 w => ?_)
    have hf := lt_e eσ_3 hf
    refine lv_aload_n hx hb d_M_grows_165 rfl (lv_at hl 0 rfl) ?_
    refine lv_dup hx hb d_M_grows_166 rfl ?_
    refine mg_0_treePaid C w k1162 d_M_grows_167 ?_
    refine lv_aload_n hx hb d_M_grows_170 rfl (lv_at hl 0 rfl) ?_
    refine mg_0_turnTried C w k1156 d_M_grows_171 ?_
    refine lv_aload_n hx hb d_M_grows_174 rfl (lv_at hl 0 rfl) ?_
    refine mg_0_now C w k1149 d_M_grows_175 ?_
    refine lv_iconst (v := 5) hx hb d_M_grows_178 (by decide) ?_
    refine ml_41 C w (by decide) d_M_grows_179 ?_
    refine lv_imul hx hb d_M_grows_180 ?_
    refine lv_i2l hx hb d_M_grows_181 rfl ?_
    refine lv_ladd hx hb d_M_grows_182 ?_
    refine mp_0_treePaid C w k1162 d_M_grows_183 (fun σ_4 H locs eσ_4 w => ?_)
    have hf := lt_e eσ_4 hf
    refine lv_aload_n hx hb d_M_grows_186 rfl (lv_at hl 0 rfl) ?_
    refine lv_dup hx hb d_M_grows_187 rfl ?_
    refine mg_0_treeCrowd C w k1164 d_M_grows_188 ?_
    refine lv_aload_n hx hb d_M_grows_191 rfl (lv_at hl 0 rfl) ?_
    refine mg_0_turnCrowd C w k1153 d_M_grows_192 ?_
    refine lv_i2l hx hb d_M_grows_195 rfl ?_
    refine lv_ladd hx hb d_M_grows_196 ?_
    refine mp_0_treeCrowd C w k1164 d_M_grows_197 (fun σ_5 H locs eσ_5 w => ?_)
    have hf := lt_e eσ_5 hf
    refine lv_aload_n hx hb d_M_grows_200 rfl (lv_at hl 0 rfl) ?_
    refine mg_0_turnLeant C w k1159 d_M_grows_201 ?_
    refine lv_if_eq (tgt := 217) hx hb d_M_grows_204 (by decide) (fun cd => ?_) (fun cd => ?_)
    · have hf := it_e cd hf
      exact t_M_grows_217 C hk89 hf w (lv_sub hl [0, 1, 2, 3] rfl)
    · have hf := if_e cd hf
      refine lv_aload_n hx hb d_M_grows_207 rfl (lv_at hl 0 rfl) ?_
      refine lv_dup hx hb d_M_grows_208 rfl ?_
      refine mg_0_treeLeant C w k1163 d_M_grows_209 ?_
      refine lv_lconst (v := 1) hx hb d_M_grows_212 (by decide) ?_
      refine lv_ladd hx hb d_M_grows_213 ?_
      refine mp_0_treeLeant C w k1163 d_M_grows_214 (fun σ_6 H locs eσ_6 w => ?_)
      have hf := lt_e eσ_6 hf
      exact t_M_grows_217 C hk89 hf w (lv_sub hl [0, 1, 2, 3] rfl)
  · have hf := if_e cd hf
    refine lv_aload_n hx hb d_M_grows_131 rfl (lv_at hl 0 rfl) ?_
    refine lv_iload_n hx hb d_M_grows_132 rfl (lv_at hl 1 rfl) ?_
    refine lv_iload hx hb d_M_grows_133 (lv_at hl 4 rfl) ?_
    refine lv_iload hx hb d_M_grows_135 (lv_at hl 2 rfl) ?_
    obtain ⟨g_7, hf⟩ := gd_e hf
    refine r_irem hx hb d_M_grows_137 (nz_e g_7) ?_
    obtain ⟨σ_9, h_8, hf⟩ := bp_e hf
    refine k_callV (As := [.int x1, .int (iR x6 x4)]) (rest := []) C w (c_M_blow (q := q) h_8) cv_M_blow k1622 (mr_0 C w) (by decide) hl.1 rfl (Nat.le_of_ble_eq_true rfl) d_M_grows_138 (fun H locs w => ?_)
    show WK p l e s m av below meth c 5 g (wM g q) A none σ2 H locs (F0 m 141 ls [])
    refine lv_iload hx hb d_M_grows_141 (lv_at hl 4 rfl) ?_
    refine lv_iload hx hb d_M_grows_143 (lv_at hl 2 rfl) ?_
    obtain ⟨g_10, hf⟩ := gd_e hf
    refine lv_idiv hx hb d_M_grows_145 (nz_e g_10) ?_
    refine lv_topi (fun x_11 ex_11 => ?_)
    have hf := lt_e ex_11 hf
    refine lv_istore (lv' := [(6, .int x_11), (0, .ref (q 0)), (1, .int x1), (4, .int x4), (5, .int x5)]) hx hb d_M_grows_146 hl (by decide) rfl (fun ls hl => ?_)
    refine lv_goto (tgt := 123) hx hb d_M_grows_148 (by decide) ?_
    exact hk123 x1 x4 x5 x_11 σ_9 _ _ _ hf w (lv_sub hl [1, 2, 3, 4, 0] rfl)
set_option maxHeartbeats 4000000 in
set_option maxRecDepth 20000 in
theorem t_M_grows_123 {σ2 : St} (C : Cx g A p s m av meth c prog_13_method_70_code 7 "BellHammerModel" none) {k89 : Int32 → Int32 → Int32 → St → Option (St)} (hk89 : ∀ (x1 : Int32) (x4 : Int32) (x5 : Int32) (σ : St) (H : Heap) (locs : List Loc) (ls : Array Slot), k89 x1 x4 x5 σ = some σ2 → Wd g (wM g q) A s σ H locs → lv_has ls 7 [(0, .ref (q 0)), (1, .int x1), (4, .int x4), (5, .int x5)] → WK p l e s m av below meth c 5 g (wM g q) A none σ2 H locs (F0 m 89 ls []))  : ∀ (n : Nat) (x1 : Int32) (x4 : Int32) (x5 : Int32) (x6 : Int32) (σ : St) (H : Heap) (locs : List Loc) (ls : Array Slot), f_M_grows_123  k89 n x1 x4 x5 x6 σ = some σ2 → Wd g (wM g q) A s σ H locs → lv_has ls 7 [(0, .ref (q 0)), (1, .int x1), (4, .int x4), (5, .int x5), (6, .int x6)] → WK p l e s m av below meth c 5 g (wM g q) A none σ2 H locs (F0 m 123 ls []) := by
  intro n
  induction n with
  | zero => intro x1 x4 x5 x6 σ H locs ls hf; exact absurd hf (by intro z; cases z)
  | succ n ih => intro x1 x4 x5 x6 σ H locs ls hf w hl; exact t_M_grows_123b C hk89 ih hf w hl
set_option maxHeartbeats 4000000 in
set_option maxRecDepth 20000 in
theorem t_M_grows_89b {σ2 : St} (C : Cx g A p s m av meth c prog_13_method_70_code 7 "BellHammerModel" none) {k89 : Int32 → Int32 → Int32 → St → Option (St)} (hk89 : ∀ (x1 : Int32) (x4 : Int32) (x5 : Int32) (σ : St) (H : Heap) (locs : List Loc) (ls : Array Slot), k89 x1 x4 x5 σ = some σ2 → Wd g (wM g q) A s σ H locs → lv_has ls 7 [(0, .ref (q 0)), (1, .int x1), (4, .int x4), (5, .int x5)] → WK p l e s m av below meth c 5 g (wM g q) A none σ2 H locs (F0 m 89 ls []))  {x1 : Int32} {x4 : Int32} {x5 : Int32} {σ : St} {H : Heap} {locs : List Loc} {ls : Array Slot} (hf : f_M_grows_89b  k89 x1 x4 x5 σ = some σ2) (w : Wd g (wM g q) A s σ H locs) (hl : lv_has ls 7 [(0, .ref (q 0)), (1, .int x1), (4, .int x4), (5, .int x5)]) : WK p l e s m av below meth c 5 g (wM g q) A none σ2 H locs (F0 m 89 ls []) := by
  obtain ⟨hx, hb, hml, hown, hts, hK, hA, hZ, hlocks, hr, hN⟩ := id C
  unfold f_M_grows_89b at hf
  refine lv_iload hx hb d_M_grows_89 (lv_at hl 3 rfl) ?_
  refine lv_i2l hx hb d_M_grows_91 rfl ?_
  refine lv_aload_n hx hb d_M_grows_92 rfl (lv_at hl 0 rfl) ?_
  refine mg_0_treeRows C w k1160 d_M_grows_93 ?_
  refine W.lcmp hx hb d_M_grows_96 ?_
  refine lv_if_ge (tgt := 261) hx hb d_M_grows_97 (by decide) (fun cd => ?_) (fun cd => ?_)
  · have hf := it_e cd hf
    cases some_e hf
    exact k_vret C w d_M_grows_261
  · have hf := if_e cd hf
    refine lv_iload hx hb d_M_grows_100 (lv_at hl 3 rfl) ?_
    refine lv_istore (lv' := [(6, .int x5), (0, .ref (q 0)), (1, .int x1), (4, .int x4), (5, .int x5)]) hx hb d_M_grows_102 hl (by decide) rfl (fun ls hl => ?_)
    refine lv_aload_n hx hb d_M_grows_104 rfl (lv_at hl 1 rfl) ?_
    refine lv_aload_n hx hb d_M_grows_105 rfl (lv_at hl 1 rfl) ?_
    refine lv_iconst (v := 4) hx hb d_M_grows_106 (by decide) ?_
    obtain ⟨r_2, h_1, hf⟩ := bp_e hf
    refine k_callV (As := [.int 4]) (rest := [.ref (q 0)]) C w (c_M_toldOf (q := q) h_1) cv_M_toldOf k1517 (mr_0 C w) (by decide) hl.1 rfl (Nat.le_of_ble_eq_true rfl) d_M_grows_107 (fun H locs w => ?_)
    show WK p l e s m av below meth c 5 g (wM g q) A none σ2 H locs (F0 m 110 ls [.int r_2, .ref (q 0)])
    refine mp_0_turnCrowd C w k1153 d_M_grows_110 (fun σ_3 H locs eσ_3 w => ?_)
    have hf := lt_e eσ_3 hf
    refine lv_aload_n hx hb d_M_grows_113 rfl (lv_at hl 1 rfl) ?_
    refine lv_iconst (v := 0) hx hb d_M_grows_114 (by decide) ?_
    refine mp_0_turnRings C w k1154 d_M_grows_115 (fun σ_4 H locs eσ_4 w => ?_)
    have hf := lt_e eσ_4 hf
    refine lv_aload_n hx hb d_M_grows_118 rfl (lv_at hl 1 rfl) ?_
    refine lv_iload_n hx hb d_M_grows_119 rfl (lv_at hl 2 rfl) ?_
    obtain ⟨σ_6, h_5, hf⟩ := bp_e hf
    refine k_callV (As := [.int x1]) (rest := []) C w (c_M_begins (q := q) h_5) cv_M_begins k1614 (mr_0 C w) (by decide) hl.1 rfl (Nat.le_of_ble_eq_true rfl) d_M_grows_120 (fun H locs w => ?_)
    show WK p l e s m av below meth c 5 g (wM g q) A none σ2 H locs (F0 m 123 ls [])
    exact t_M_grows_123 C hk89 FU x1 x4 x5 x5 σ_6 _ _ _ hf w (lv_sub hl [1, 2, 3, 4, 0] rfl)
set_option maxHeartbeats 4000000 in
set_option maxRecDepth 20000 in
theorem t_M_grows_89 {σ2 : St} (C : Cx g A p s m av meth c prog_13_method_70_code 7 "BellHammerModel" none)  : ∀ (n : Nat) (x1 : Int32) (x4 : Int32) (x5 : Int32) (σ : St) (H : Heap) (locs : List Loc) (ls : Array Slot), f_M_grows_89   n x1 x4 x5 σ = some σ2 → Wd g (wM g q) A s σ H locs → lv_has ls 7 [(0, .ref (q 0)), (1, .int x1), (4, .int x4), (5, .int x5)] → WK p l e s m av below meth c 5 g (wM g q) A none σ2 H locs (F0 m 89 ls []) := by
  intro n
  induction n with
  | zero => intro x1 x4 x5 σ H locs ls hf; exact absurd hf (by intro z; cases z)
  | succ n ih => intro x1 x4 x5 σ H locs ls hf w hl; exact t_M_grows_89b C  ih hf w hl
set_option maxHeartbeats 4000000 in
set_option maxRecDepth 20000 in
theorem t_M_grows_18b {σ2 : St} (C : Cx g A p s m av meth c prog_13_method_70_code 7 "BellHammerModel" none) {k18 : Int32 → Int32 → Int32 → Int32 → Int32 → St → Option (St)} (hk18 : ∀ (x1 : Int32) (x2 : Int32) (x3 : Int32) (x4 : Int32) (x5 : Int32) (σ : St) (H : Heap) (locs : List Loc) (ls : Array Slot), k18 x1 x2 x3 x4 x5 σ = some σ2 → Wd g (wM g q) A s σ H locs → lv_has ls 7 [(0, .ref (q 0)), (1, .int x1), (2, .int x2), (3, .int x3), (4, .int x4), (5, .int x5)] → WK p l e s m av below meth c 5 g (wM g q) A none σ2 H locs (F0 m 18 ls []))  {x1 : Int32} {x2 : Int32} {x3 : Int32} {x4 : Int32} {x5 : Int32} {σ : St} {H : Heap} {locs : List Loc} {ls : Array Slot} (hf : f_M_grows_18b  k18 x1 x2 x3 x4 x5 σ = some σ2) (w : Wd g (wM g q) A s σ H locs) (hl : lv_has ls 7 [(0, .ref (q 0)), (1, .int x1), (2, .int x2), (3, .int x3), (4, .int x4), (5, .int x5)]) : WK p l e s m av below meth c 5 g (wM g q) A none σ2 H locs (F0 m 18 ls []) := by
  obtain ⟨hx, hb, hml, hown, hts, hK, hA, hZ, hlocks, hr, hN⟩ := id C
  unfold f_M_grows_18b at hf
  refine lv_iload hx hb d_M_grows_18 (lv_at hl 5 rfl) ?_
  refine lv_aload_n hx hb d_M_grows_20 rfl (lv_at hl 0 rfl) ?_
  refine lv_iconst (v := 2) hx hb d_M_grows_21 (by decide) ?_
  obtain ⟨r_2, h_1, hf⟩ := bp_e hf
  refine k_callV (As := [.int 2]) (rest := [.int x5]) C w (c_M_toldOf (q := q) h_1) cv_M_toldOf k1517 (mr_0 C w) (by decide) hl.1 rfl (Nat.le_of_ble_eq_true rfl) d_M_grows_22 (fun H locs w => ?_)
  show WK p l e s m av below meth c 5 g (wM g q) A none σ2 H locs (F0 m 25 ls [.int r_2, .int x5])
  refine lv_icmp_ge (tgt := 46) hx hb d_M_grows_25 (by decide) (fun cd => ?_) (fun cd => ?_)
  · have hf := it_e cd hf
    refine lv_aload_n hx hb d_M_grows_46 rfl (lv_at hl 0 rfl) ?_
    refine lv_lconst (v := 0) hx hb d_M_grows_47 (by decide) ?_
    refine mp_0_treeRings C w k1161 d_M_grows_48 (fun σ_3 H locs eσ_3 w => ?_)
    have hf := lt_e eσ_3 hf
    refine lv_aload_n hx hb d_M_grows_51 rfl (lv_at hl 0 rfl) ?_
    refine lv_lconst (v := 0) hx hb d_M_grows_52 (by decide) ?_
    refine mp_0_treePaid C w k1162 d_M_grows_53 (fun σ_4 H locs eσ_4 w => ?_)
    have hf := lt_e eσ_4 hf
    refine lv_aload_n hx hb d_M_grows_56 rfl (lv_at hl 0 rfl) ?_
    refine lv_lconst (v := 0) hx hb d_M_grows_57 (by decide) ?_
    refine mp_0_treeLeant C w k1163 d_M_grows_58 (fun σ_5 H locs eσ_5 w => ?_)
    have hf := lt_e eσ_5 hf
    refine lv_aload_n hx hb d_M_grows_61 rfl (lv_at hl 0 rfl) ?_
    refine lv_lconst (v := 0) hx hb d_M_grows_62 (by decide) ?_
    refine mp_0_treeCrowd C w k1164 d_M_grows_63 (fun σ_6 H locs eσ_6 w => ?_)
    have hf := lt_e eσ_6 hf
    refine lv_aload_n hx hb d_M_grows_66 rfl (lv_at hl 0 rfl) ?_
    refine lv_iconst (v := 4) hx hb d_M_grows_67 (by decide) ?_
    refine mp_0_treeFewest C w k1165 d_M_grows_68 (fun σ_7 H locs eσ_7 w => ?_)
    have hf := lt_e eσ_7 hf
    refine lv_aload_n hx hb d_M_grows_71 rfl (lv_at hl 0 rfl) ?_
    refine lv_iconst (v := 0) hx hb d_M_grows_72 (by decide) ?_
    refine mp_0_treeMost C w k1166 d_M_grows_73 (fun σ_8 H locs eσ_8 w => ?_)
    have hf := lt_e eσ_8 hf
    refine lv_aload_n hx hb d_M_grows_76 rfl (lv_at hl 0 rfl) ?_
    refine lv_iload_n hx hb d_M_grows_77 rfl (lv_at hl 2 rfl) ?_
    refine mp_0_turnRules C w k1151 d_M_grows_78 (fun σ_9 H locs eσ_9 w => ?_)
    have hf := lt_e eσ_9 hf
    refine lv_aload_n hx hb d_M_grows_81 rfl (lv_at hl 0 rfl) ?_
    refine lv_iload_n hx hb d_M_grows_82 rfl (lv_at hl 3 rfl) ?_
    refine mp_0_turnBell C w k1152 d_M_grows_83 (fun σ_10 H locs eσ_10 w => ?_)
    have hf := lt_e eσ_10 hf
    refine lv_iconst (v := 0) hx hb d_M_grows_86 (by decide) ?_
    refine lv_istore (lv' := [(5, .int 0), (0, .ref (q 0)), (1, .int x1), (2, .int x2), (3, .int x3), (4, .int x4)]) hx hb d_M_grows_87 hl (by decide) rfl (fun ls hl => ?_)
    exact t_M_grows_89 C  FU x1 x4 0 σ_10 _ _ _ hf w (lv_sub hl [1, 2, 5, 0] rfl)
  · have hf := if_e cd hf
    refine lv_aload_n hx hb d_M_grows_28 rfl (lv_at hl 0 rfl) ?_
    refine lv_dup hx hb d_M_grows_29 rfl ?_
    refine mg_0_treeRows C w k1160 d_M_grows_30 ?_
    refine lv_iload hx hb d_M_grows_33 (lv_at hl 4 rfl) ?_
    refine lv_i2l hx hb d_M_grows_35 rfl ?_
    refine lv_lmul hx hb d_M_grows_36 ?_
    refine mp_0_treeRows C w k1160 d_M_grows_37 (fun σ_11 H locs eσ_11 w => ?_)
    have hf := lt_e eσ_11 hf
    obtain ⟨x_12, ex_12⟩ : ∃ y : Int32, y = (x5 + 1) := ⟨_, rfl⟩
    have hf := lt_e ex_12 hf
    refine lv_iinc (v := x_12) (lv' := [(5, .int x_12), (0, .ref (q 0)), (1, .int x1), (2, .int x2), (3, .int x3), (4, .int x4)]) hx hb d_M_grows_40 hl (k := 5) rfl (by rw [ex_12]; rfl) (by decide) rfl (fun ls hl => ?_)
    refine lv_goto (tgt := 18) hx hb d_M_grows_43 (by decide) ?_
    exact hk18 x1 x2 x3 x4 x_12 σ_11 _ _ _ hf w (lv_sub hl [1, 2, 3, 4, 5, 0] rfl)
set_option maxHeartbeats 4000000 in
set_option maxRecDepth 20000 in
theorem t_M_grows_18 {σ2 : St} (C : Cx g A p s m av meth c prog_13_method_70_code 7 "BellHammerModel" none)  : ∀ (n : Nat) (x1 : Int32) (x2 : Int32) (x3 : Int32) (x4 : Int32) (x5 : Int32) (σ : St) (H : Heap) (locs : List Loc) (ls : Array Slot), f_M_grows_18   n x1 x2 x3 x4 x5 σ = some σ2 → Wd g (wM g q) A s σ H locs → lv_has ls 7 [(0, .ref (q 0)), (1, .int x1), (2, .int x2), (3, .int x3), (4, .int x4), (5, .int x5)] → WK p l e s m av below meth c 5 g (wM g q) A none σ2 H locs (F0 m 18 ls []) := by
  intro n
  induction n with
  | zero => intro x1 x2 x3 x4 x5 σ H locs ls hf; exact absurd hf (by intro z; cases z)
  | succ n ih => intro x1 x2 x3 x4 x5 σ H locs ls hf w hl; exact t_M_grows_18b C  ih hf w hl
set_option maxHeartbeats 4000000 in
set_option maxRecDepth 20000 in
theorem c_M_grows {l : Launch} {g : GX} {q : Nat → Nat} {x1 : Int32} {x2 : Int32} {x3 : Int32}  {σ : St} {σ2 : St} (hf : f_M_grows  x1 x2 x3 σ = some σ2) : KK l y_M_grows prog_13_method_70_code 7 none 5 g (wM g q) σ [.ref (q 0), .int x1, .int x2, .int x3] none (wM g q) σ2 := by
  refine KK_of (plainFor_of_name (by decide)) (Nat.le_of_ble_eq_true rfl) (fun p e s m below meth c A ls C w hl => ?_)
  have hl : lv_has ls 7 [(0, .ref (q 0)), (1, .int x1), (2, .int x2), (3, .int x3)] := hl
  obtain ⟨hx, hb, hml, hown, hts, hK, hA, hZ, hlocks, hr, hN⟩ := id C
  unfold f_M_grows at hf
  refine lv_aload_n hx hb d_M_grows_0 rfl (lv_at hl 0 rfl) ?_
  refine lv_iload_n hx hb d_M_grows_1 rfl (lv_at hl 1 rfl) ?_
  refine lv_iconst (v := 1) hx hb d_M_grows_2 (by decide) ?_
  obtain ⟨r_2, h_1, hf⟩ := bp_e hf
  refine k_callV (As := [.int x1, .int 1]) (rest := []) C w (c_M_trierOf (q := q) h_1) cv_M_trierOf k1534 (mr_0 C w) (by decide) hl.1 rfl (Nat.le_of_ble_eq_true rfl) d_M_grows_3 (fun H locs w => ?_)
  show WK p l e s m _ below meth c 5 g (wM g q) A none σ2 H locs (F0 m 6 ls [.int r_2])
  refine lv_iconst (v := 1) hx hb d_M_grows_6 (by decide) ?_
  refine lv_iadd hx hb d_M_grows_7 ?_
  refine lv_topi (fun x_3 ex_3 => ?_)
  have hf := lt_e ex_3 hf
  refine lv_istore (lv' := [(4, .int x_3), (0, .ref (q 0)), (1, .int x1), (2, .int x2), (3, .int x3)]) hx hb d_M_grows_8 hl (by decide) rfl (fun ls hl => ?_)
  refine lv_aload_n hx hb d_M_grows_10 rfl (lv_at hl 1 rfl) ?_
  refine lv_lconst (v := 1) hx hb d_M_grows_11 (by decide) ?_
  refine mp_0_treeRows C w k1160 d_M_grows_12 (fun σ_4 H locs eσ_4 w => ?_)
  have hf := lt_e eσ_4 hf
  refine lv_iconst (v := 0) hx hb d_M_grows_15 (by decide) ?_
  refine lv_istore (lv' := [(5, .int 0), (4, .int x_3), (0, .ref (q 0)), (1, .int x1), (2, .int x2), (3, .int x3)]) hx hb d_M_grows_16 hl (by decide) rfl (fun ls hl => ?_)
  exact t_M_grows_18 C  FU x1 x2 x3 x_3 0 σ_4 _ _ _ hf w (lv_sub hl [2, 3, 4, 5, 1, 0] rfl)
def f_M_thousandths (x1 : Int64) (σ : St) : Option (Int32) :=
  gd (nzJ (sJ σ 0)) <|
  some (((1000 * x1) / (sJ σ 0))).toInt32
set_option maxHeartbeats 4000000 in
set_option maxRecDepth 20000 in
theorem c_M_thousandths {l : Launch} {g : GX} {q : Nat → Nat} {x1 : Int64}  {σ : St} {r : Int32} (hf : f_M_thousandths  x1 σ = some r) : KK l y_M_thousandths prog_13_method_71_code 3 (some .int) 0 g (wM g q) σ [.ref (q 0), .long x1] (some (.int r)) (wM g q) σ := by
  refine KK_of (plainFor_of_name (by decide)) (Nat.le_of_ble_eq_true rfl) (fun p e s m below meth c A ls C w hl => ?_)
  have hl : lv_has ls 3 [(0, .ref (q 0)), (1, .long x1)] := hl
  obtain ⟨hx, hb, hml, hown, hts, hK, hA, hZ, hlocks, hr, hN⟩ := id C
  unfold f_M_thousandths at hf
  refine lv_ldc2 (v := 1000) hx hb hown (hts _ k1630) d_M_thousandths_0 ?_
  refine lv_lload_n hx hb d_M_thousandths_3 rfl (lv_at hl 1 rfl) ?_
  refine lv_lmul hx hb d_M_thousandths_4 ?_
  refine lv_aload_n hx hb d_M_thousandths_5 rfl (lv_at hl 0 rfl) ?_
  refine mg_0_treeRows C w k1160 d_M_thousandths_6 ?_
  obtain ⟨g_1, hf⟩ := gd_e hf
  refine lv_ldiv hx hb d_M_thousandths_9 (nzJ_e g_1) ?_
  refine lv_l2i hx hb d_M_thousandths_10 rfl ?_
  cases some_e hf
  exact k_iret C w d_M_thousandths_11
def f_M_tree (x1 : Int32) (x2 : Int32) (σ : St) : Option (Int32 × St) :=
  bp (f_M_isTrier x1 σ) fun r_2 =>
  if r_2 = 0 then
    some ((-1), σ)
  else
    bp (f_M_isIn ((x2).toInt64) 0 5 σ) fun r_4 =>
    if r_4 = 0 then
      some ((-1), σ)
    else
      bp (f_M_grows x1 (sA σ 11 (2 : Int32).toNatClampNeg) (sA σ 11 (3 : Int32).toNatClampNeg) σ) fun σ_6 =>
      if x2 = 0 then
        bp (f_M_thousandths (sJ σ_6 1) σ_6) fun r_8 =>
        some (r_8, σ_6)
      else
        if x2 = 1 then
          bp (f_M_thousandths (sJ σ_6 2) σ_6) fun r_10 =>
          some (r_10, σ_6)
        else
          if x2 = 2 then
            some ((sI σ_6 24), σ_6)
          else
            if x2 = 3 then
              some ((sI σ_6 25), σ_6)
            else
              if x2 = 4 then
                bp (f_M_thousandths (sJ σ_6 3) σ_6) fun r_12 =>
                some (r_12, σ_6)
              else
                bp (f_M_thousandths (sJ σ_6 4) σ_6) fun r_14 =>
                some (r_14, σ_6)
set_option maxHeartbeats 4000000 in
set_option maxRecDepth 20000 in
theorem c_M_tree {l : Launch} {g : GX} {q : Nat → Nat} {x1 : Int32} {x2 : Int32}  {σ : St} {r : Int32} {σ2 : St} (hf : f_M_tree  x1 x2 σ = some (r, σ2)) : KK l y_M_tree prog_13_method_72_code 3 (some .int) 6 g (wM g q) σ [.ref (q 0), .int x1, .int x2] (some (.int r)) (wM g q) σ2 := by
  refine KK_of (plainFor_of_name (by decide)) (Nat.le_of_ble_eq_true rfl) (fun p e s m below meth c A ls C w hl => ?_)
  have hl : lv_has ls 3 [(0, .ref (q 0)), (1, .int x1), (2, .int x2)] := hl
  obtain ⟨hx, hb, hml, hown, hts, hK, hA, hZ, hlocks, hr, hN⟩ := id C
  unfold f_M_tree at hf
  refine lv_aload_n hx hb d_M_tree_0 rfl (lv_at hl 0 rfl) ?_
  refine lv_iload_n hx hb d_M_tree_1 rfl (lv_at hl 1 rfl) ?_
  obtain ⟨r_2, h_1, hf⟩ := bp_e hf
  refine k_callV (As := [.int x1]) (rest := []) C w (c_M_isTrier (q := q) h_1) cv_M_isTrier k1530 (mr_0 C w) (by decide) hl.1 rfl (Nat.le_of_ble_eq_true rfl) d_M_tree_2 (fun H locs w => ?_)
  show WK p l e s m _ below meth c 6 g (wM g q) A (some (.int r)) σ2 H locs (F0 m 5 ls [.int r_2])
  refine lv_if_eq (tgt := 20) hx hb d_M_tree_5 (by decide) (fun cd => ?_) (fun cd => ?_)
  · have hf := it_e cd hf
    refine lv_iconst (v := (-1)) hx hb d_M_tree_20 (by decide) ?_
    obtain ⟨rfl, rfl⟩ := some2_e hf
    exact k_iret C w d_M_tree_21
  · have hf := if_e cd hf
    refine lv_iload_n hx hb d_M_tree_8 rfl (lv_at hl 2 rfl) ?_
    refine lv_i2l hx hb d_M_tree_9 rfl ?_
    refine lv_lconst (v := 0) hx hb d_M_tree_10 (by decide) ?_
    refine lv_ldc2 (v := 5) hx hb hown (hts _ k1525) d_M_tree_11 ?_
    obtain ⟨r_4, h_3, hf⟩ := bp_e hf
    refine k_callS (As := [.long (x2).toInt64, .long 0, .long 5]) (rest := []) C w (c_M_isIn (q := q) h_3) cv_M_isIn k1410 (by decide) hl.1 rfl (Nat.le_of_ble_eq_true rfl) d_M_tree_14 (fun H locs w => ?_)
    show WK p l e s m _ below meth c 6 g (wM g q) A (some (.int r)) σ2 H locs (F0 m 17 ls [.int r_4])
    refine lv_if_ne (tgt := 22) hx hb d_M_tree_17 (by decide) (fun cd => ?_) (fun cd => ?_)
    · have hf := if_e cd hf
      refine lv_aload_n hx hb d_M_tree_22 rfl (lv_at hl 0 rfl) ?_
      refine lv_iload_n hx hb d_M_tree_23 rfl (lv_at hl 1 rfl) ?_
      refine lv_aload_n hx hb d_M_tree_24 rfl (lv_at hl 0 rfl) ?_
      refine mg_0_now C w k1149 d_M_tree_25 ?_
      refine lv_iconst (v := 2) hx hb d_M_tree_28 (by decide) ?_
      refine ml_41 C w (by decide) d_M_tree_29 ?_
      refine lv_aload_n hx hb d_M_tree_30 rfl (lv_at hl 0 rfl) ?_
      refine mg_0_now C w k1149 d_M_tree_31 ?_
      refine lv_iconst (v := 3) hx hb d_M_tree_34 (by decide) ?_
      refine ml_41 C w (by decide) d_M_tree_35 ?_
      obtain ⟨σ_6, h_5, hf⟩ := bp_e hf
      refine k_callV (As := [.int x1, .int (sA σ 11 (2 : Int32).toNatClampNeg), .int (sA σ 11 (3 : Int32).toNatClampNeg)]) (rest := []) C w (c_M_grows (q := q) h_5) cv_M_grows k1610 (mr_0 C w) (by decide) hl.1 rfl (Nat.le_of_ble_eq_true rfl) d_M_tree_36 (fun H locs w => ?_)
      show WK p l e s m _ below meth c 6 g (wM g q) A (some (.int r)) σ2 H locs (F0 m 39 ls [])
      refine lv_iload_n hx hb d_M_tree_39 rfl (lv_at hl 2 rfl) ?_
      by_cases c0 : x2 = 0
      · have hf := it_e c0 hf
        refine lv_tableIn (tgt := 76) hx hb d_M_tree_40 (by rw [c0]; decide) (by rw [c0]; decide) (by rw [c0]; rfl) (by decide) ?_
        refine lv_aload_n hx hb d_M_tree_76 rfl (lv_at hl 0 rfl) ?_
        refine lv_aload_n hx hb d_M_tree_77 rfl (lv_at hl 0 rfl) ?_
        refine mg_0_treeRings C w k1161 d_M_tree_78 ?_
        obtain ⟨r_8, h_7, hf⟩ := bp_e hf
        refine k_callV (As := [.long (sJ σ_6 1)]) (rest := []) C w (c_M_thousandths (q := q) h_7) cv_M_thousandths k1626 (mr_0 C w) (by decide) hl.1 rfl (Nat.le_of_ble_eq_true rfl) d_M_tree_81 (fun H locs w => ?_)
        show WK p l e s m _ below meth c 6 g (wM g q) A (some (.int r)) σ2 H locs (F0 m 84 ls [.int r_8])
        obtain ⟨rfl, rfl⟩ := some2_e hf
        exact k_iret C w d_M_tree_84
      have hf := if_e c0 hf
      have n0 := lv_neT c0 (a := 0) rfl
      by_cases c1 : x2 = 1
      · have hf := it_e c1 hf
        refine lv_tableIn (tgt := 85) hx hb d_M_tree_40 (by rw [c1]; decide) (by rw [c1]; decide) (by rw [c1]; rfl) (by decide) ?_
        refine lv_aload_n hx hb d_M_tree_85 rfl (lv_at hl 0 rfl) ?_
        refine lv_aload_n hx hb d_M_tree_86 rfl (lv_at hl 0 rfl) ?_
        refine mg_0_treePaid C w k1162 d_M_tree_87 ?_
        obtain ⟨r_10, h_9, hf⟩ := bp_e hf
        refine k_callV (As := [.long (sJ σ_6 2)]) (rest := []) C w (c_M_thousandths (q := q) h_9) cv_M_thousandths k1626 (mr_0 C w) (by decide) hl.1 rfl (Nat.le_of_ble_eq_true rfl) d_M_tree_90 (fun H locs w => ?_)
        show WK p l e s m _ below meth c 6 g (wM g q) A (some (.int r)) σ2 H locs (F0 m 93 ls [.int r_10])
        obtain ⟨rfl, rfl⟩ := some2_e hf
        exact k_iret C w d_M_tree_93
      have hf := if_e c1 hf
      have n1 := lv_neT c1 (a := 1) rfl
      by_cases c2 : x2 = 2
      · have hf := it_e c2 hf
        refine lv_tableIn (tgt := 94) hx hb d_M_tree_40 (by rw [c2]; decide) (by rw [c2]; decide) (by rw [c2]; rfl) (by decide) ?_
        refine lv_aload_n hx hb d_M_tree_94 rfl (lv_at hl 0 rfl) ?_
        refine mg_0_treeFewest C w k1165 d_M_tree_95 ?_
        obtain ⟨rfl, rfl⟩ := some2_e hf
        exact k_iret C w d_M_tree_98
      have hf := if_e c2 hf
      have n2 := lv_neT c2 (a := 2) rfl
      by_cases c3 : x2 = 3
      · have hf := it_e c3 hf
        refine lv_tableIn (tgt := 99) hx hb d_M_tree_40 (by rw [c3]; decide) (by rw [c3]; decide) (by rw [c3]; rfl) (by decide) ?_
        refine lv_aload_n hx hb d_M_tree_99 rfl (lv_at hl 0 rfl) ?_
        refine mg_0_treeMost C w k1166 d_M_tree_100 ?_
        obtain ⟨rfl, rfl⟩ := some2_e hf
        exact k_iret C w d_M_tree_103
      have hf := if_e c3 hf
      have n3 := lv_neT c3 (a := 3) rfl
      by_cases c4 : x2 = 4
      · have hf := it_e c4 hf
        refine lv_tableIn (tgt := 104) hx hb d_M_tree_40 (by rw [c4]; decide) (by rw [c4]; decide) (by rw [c4]; rfl) (by decide) ?_
        refine lv_aload_n hx hb d_M_tree_104 rfl (lv_at hl 0 rfl) ?_
        refine lv_aload_n hx hb d_M_tree_105 rfl (lv_at hl 0 rfl) ?_
        refine mg_0_treeLeant C w k1163 d_M_tree_106 ?_
        obtain ⟨r_12, h_11, hf⟩ := bp_e hf
        refine k_callV (As := [.long (sJ σ_6 3)]) (rest := []) C w (c_M_thousandths (q := q) h_11) cv_M_thousandths k1626 (mr_0 C w) (by decide) hl.1 rfl (Nat.le_of_ble_eq_true rfl) d_M_tree_109 (fun H locs w => ?_)
        show WK p l e s m _ below meth c 6 g (wM g q) A (some (.int r)) σ2 H locs (F0 m 112 ls [.int r_12])
        obtain ⟨rfl, rfl⟩ := some2_e hf
        exact k_iret C w d_M_tree_112
      have hf := if_e c4 hf
      have n4 := lv_neT c4 (a := 4) rfl
      refine lv_tableOut (tgt := 113) hx hb d_M_tree_40 (by omega) (by decide) ?_
      refine lv_aload_n hx hb d_M_tree_113 rfl (lv_at hl 0 rfl) ?_
      refine lv_aload_n hx hb d_M_tree_114 rfl (lv_at hl 0 rfl) ?_
      refine mg_0_treeCrowd C w k1164 d_M_tree_115 ?_
      obtain ⟨r_14, h_13, hf⟩ := bp_e hf
      refine k_callV (As := [.long (sJ σ_6 4)]) (rest := []) C w (c_M_thousandths (q := q) h_13) cv_M_thousandths k1626 (mr_0 C w) (by decide) hl.1 rfl (Nat.le_of_ble_eq_true rfl) d_M_tree_118 (fun H locs w => ?_)
      show WK p l e s m _ below meth c 6 g (wM g q) A (some (.int r)) σ2 H locs (F0 m 121 ls [.int r_14])
      obtain ⟨rfl, rfl⟩ := some2_e hf
      exact k_iret C w d_M_tree_121
    · have hf := it_e cd hf
      refine lv_iconst (v := (-1)) hx hb d_M_tree_20 (by decide) ?_
      obtain ⟨rfl, rfl⟩ := some2_e hf
      exact k_iret C w d_M_tree_21
def f_M_whole_4b (k4 : Int64 → Int32 → St → Option (Int64)) (x1 : Int64) (x3 : Int32) (σ : St) : Option (Int64) :=
  bp (f_M_toldOf 2 σ) fun r_2 =>
  if r_2 ≤ x3 then
    some x1
  else
    lt ((x1 * 60)) fun x_3 =>
    lt ((x3 + 1)) fun x_4 =>
    k4 x_3 x_4 σ
def f_M_whole_4 : Nat → Int64 → Int32 → St → Option (Int64)
  | 0 => fun _ _ _ => none
  | n + 1 => f_M_whole_4b   (f_M_whole_4   n)
def f_M_whole (σ : St) : Option (Int64) :=
  f_M_whole_4 FU 1 0 σ
set_option maxHeartbeats 4000000 in
set_option maxRecDepth 20000 in
theorem t_M_whole_4b {r : Int64} {σ : St} (C : Cx g A p s m av meth c prog_13_method_73_code 4 "BellHammerModel" (some .long)) {k4 : Int64 → Int32 → St → Option (Int64)} (hk4 : ∀ (x1 : Int64) (x3 : Int32) (H : Heap) (locs : List Loc) (ls : Array Slot), k4 x1 x3 σ = some r → Wd g (wM g q) A s σ H locs → lv_has ls 4 [(0, .ref (q 0)), (1, .long x1), (3, .int x3)] → WK p l e s m av below meth c 1 g (wM g q) A (some (.long r)) σ H locs (F0 m 4 ls []))  {x1 : Int64} {x3 : Int32} {H : Heap} {locs : List Loc} {ls : Array Slot} (hf : f_M_whole_4b  k4 x1 x3 σ = some r) (w : Wd g (wM g q) A s σ H locs) (hl : lv_has ls 4 [(0, .ref (q 0)), (1, .long x1), (3, .int x3)]) : WK p l e s m av below meth c 1 g (wM g q) A (some (.long r)) σ H locs (F0 m 4 ls []) := by
  obtain ⟨hx, hb, hml, hown, hts, hK, hA, hZ, hlocks, hr, hN⟩ := id C
  unfold f_M_whole_4b at hf
  refine lv_iload_n hx hb d_M_whole_4 rfl (lv_at hl 2 rfl) ?_
  refine lv_aload_n hx hb d_M_whole_5 rfl (lv_at hl 0 rfl) ?_
  refine lv_iconst (v := 2) hx hb d_M_whole_6 (by decide) ?_
  obtain ⟨r_2, h_1, hf⟩ := bp_e hf
  refine k_callV (As := [.int 2]) (rest := [.int x3]) C w (c_M_toldOf (q := q) h_1) cv_M_toldOf k1517 (mr_0 C w) (by decide) hl.1 rfl (Nat.le_of_ble_eq_true rfl) d_M_whole_7 (fun H locs w => ?_)
  show WK p l e s m av below meth c 1 g (wM g q) A (some (.long r)) σ H locs (F0 m 10 ls [.int r_2, .int x3])
  refine lv_icmp_ge (tgt := 25) hx hb d_M_whole_10 (by decide) (fun cd => ?_) (fun cd => ?_)
  · have hf := it_e cd hf
    refine lv_lload_n hx hb d_M_whole_25 rfl (lv_at hl 1 rfl) ?_
    cases some_e hf
    exact k_lret C w d_M_whole_26
  · have hf := if_e cd hf
    refine lv_lload_n hx hb d_M_whole_13 rfl (lv_at hl 1 rfl) ?_
    refine lv_ldc2 (v := 60) hx hb hown (hts _ k1644) d_M_whole_14 ?_
    refine lv_lmul hx hb d_M_whole_17 ?_
    refine lv_topl (fun x_3 ex_3 => ?_)
    have hf := lt_e ex_3 hf
    refine lv_lstore_n (lv' := [(1, .long x_3), (0, .ref (q 0)), (3, .int x3)]) hx hb d_M_whole_18 rfl hl (by decide) rfl (fun ls hl => ?_)
    obtain ⟨x_4, ex_4⟩ : ∃ y : Int32, y = (x3 + 1) := ⟨_, rfl⟩
    have hf := lt_e ex_4 hf
    refine lv_iinc (v := x_4) (lv' := [(3, .int x_4), (1, .long x_3), (0, .ref (q 0))]) hx hb d_M_whole_19 hl (k := 2) rfl (by rw [ex_4]; rfl) (by decide) rfl (fun ls hl => ?_)
    refine lv_goto (tgt := 4) hx hb d_M_whole_22 (by decide) ?_
    exact hk4 x_3 x_4  _ _ _ hf w (lv_sub hl [2, 1, 0] rfl)
set_option maxHeartbeats 4000000 in
set_option maxRecDepth 20000 in
theorem t_M_whole_4 {r : Int64} {σ : St} (C : Cx g A p s m av meth c prog_13_method_73_code 4 "BellHammerModel" (some .long))  : ∀ (n : Nat) (x1 : Int64) (x3 : Int32) (H : Heap) (locs : List Loc) (ls : Array Slot), f_M_whole_4   n x1 x3 σ = some r → Wd g (wM g q) A s σ H locs → lv_has ls 4 [(0, .ref (q 0)), (1, .long x1), (3, .int x3)] → WK p l e s m av below meth c 1 g (wM g q) A (some (.long r)) σ H locs (F0 m 4 ls []) := by
  intro n
  induction n with
  | zero => intro x1 x3 H locs ls hf; exact absurd hf (by intro z; cases z)
  | succ n ih => intro x1 x3 H locs ls hf w hl; exact t_M_whole_4b C  ih hf w hl
set_option maxHeartbeats 4000000 in
set_option maxRecDepth 20000 in
theorem c_M_whole {l : Launch} {g : GX} {q : Nat → Nat}  {σ : St} {r : Int64} (hf : f_M_whole   σ = some r) : KK l y_M_whole prog_13_method_73_code 4 (some .long) 1 g (wM g q) σ [.ref (q 0)] (some (.long r)) (wM g q) σ := by
  refine KK_of (plainFor_of_name (by decide)) (Nat.le_of_ble_eq_true rfl) (fun p e s m below meth c A ls C w hl => ?_)
  have hl : lv_has ls 4 [(0, .ref (q 0))] := hl
  obtain ⟨hx, hb, hml, hown, hts, hK, hA, hZ, hlocks, hr, hN⟩ := id C
  unfold f_M_whole at hf
  refine lv_lconst (v := 1) hx hb d_M_whole_0 (by decide) ?_
  refine lv_lstore_n (lv' := [(1, .long 1), (0, .ref (q 0))]) hx hb d_M_whole_1 rfl hl (by decide) rfl (fun ls hl => ?_)
  refine lv_iconst (v := 0) hx hb d_M_whole_2 (by decide) ?_
  refine lv_istore_n (lv' := [(3, .int 0), (1, .long 1), (0, .ref (q 0))]) hx hb d_M_whole_3 rfl hl (by decide) rfl (fun ls hl => ?_)
  exact t_M_whole_4 C  FU 1 0  _ _ _ hf w (lv_sub hl [2, 1, 0] rfl)
def f_M_leftAll_5b (k5 : Int32 → Int32 → Int64 → Int32 → St → Option (Int64 × St)) (x1 : Int32) (x2 : Int32) (x3 : Int64) (x5 : Int32) (σ : St) : Option (Int64 × St) :=
  bp (f_M_trierMany σ) fun r_2 =>
  if r_2 ≤ x5 then
    some (x3, σ)
  else
    bp (f_M_grows x5 x1 x2 σ) fun σ_4 =>
    bp (f_M_whole σ_4) fun r_6 =>
    gd (nzJ (sJ σ_4 0)) <|
    lt ((x3 + ((sJ σ_4 2) * (r_6 / (sJ σ_4 0))))) fun x_8 =>
    lt ((x5 + 1)) fun x_9 =>
    k5 x1 x2 x_8 x_9 σ_4
def f_M_leftAll_5 : Nat → Int32 → Int32 → Int64 → Int32 → St → Option (Int64 × St)
  | 0 => fun _ _ _ _ _ => none
  | n + 1 => f_M_leftAll_5b   (f_M_leftAll_5   n)
def f_M_leftAll (x1 : Int32) (x2 : Int32) (σ : St) : Option (Int64 × St) :=
  f_M_leftAll_5 FU x1 x2 0 0 σ
set_option maxHeartbeats 4000000 in
set_option maxRecDepth 20000 in
theorem t_M_leftAll_5b {r : Int64} {σ2 : St} (C : Cx g A p s m av meth c prog_13_method_74_code 6 "BellHammerModel" (some .long)) {k5 : Int32 → Int32 → Int64 → Int32 → St → Option (Int64 × St)} (hk5 : ∀ (x1 : Int32) (x2 : Int32) (x3 : Int64) (x5 : Int32) (σ : St) (H : Heap) (locs : List Loc) (ls : Array Slot), k5 x1 x2 x3 x5 σ = some (r, σ2) → Wd g (wM g q) A s σ H locs → lv_has ls 6 [(0, .ref (q 0)), (1, .int x1), (2, .int x2), (3, .long x3), (5, .int x5)] → WK p l e s m av below meth c 6 g (wM g q) A (some (.long r)) σ2 H locs (F0 m 5 ls []))  {x1 : Int32} {x2 : Int32} {x3 : Int64} {x5 : Int32} {σ : St} {H : Heap} {locs : List Loc} {ls : Array Slot} (hf : f_M_leftAll_5b  k5 x1 x2 x3 x5 σ = some (r, σ2)) (w : Wd g (wM g q) A s σ H locs) (hl : lv_has ls 6 [(0, .ref (q 0)), (1, .int x1), (2, .int x2), (3, .long x3), (5, .int x5)]) : WK p l e s m av below meth c 6 g (wM g q) A (some (.long r)) σ2 H locs (F0 m 5 ls []) := by
  obtain ⟨hx, hb, hml, hown, hts, hK, hA, hZ, hlocks, hr, hN⟩ := id C
  unfold f_M_leftAll_5b at hf
  refine lv_iload hx hb d_M_leftAll_5 (lv_at hl 4 rfl) ?_
  refine lv_aload_n hx hb d_M_leftAll_7 rfl (lv_at hl 0 rfl) ?_
  obtain ⟨r_2, h_1, hf⟩ := bp_e hf
  refine k_callV (As := []) (rest := [.int x5]) C w (c_M_trierMany (q := q) h_1) cv_M_trierMany k1509 (mr_0 C w) (by decide) hl.1 rfl (Nat.le_of_ble_eq_true rfl) d_M_leftAll_8 (fun H locs w => ?_)
  show WK p l e s m av below meth c 6 g (wM g q) A (some (.long r)) σ2 H locs (F0 m 11 ls [.int r_2, .int x5])
  refine lv_icmp_ge (tgt := 45) hx hb d_M_leftAll_11 (by decide) (fun cd => ?_) (fun cd => ?_)
  · have hf := it_e cd hf
    refine lv_lload_n hx hb d_M_leftAll_45 rfl (lv_at hl 3 rfl) ?_
    obtain ⟨rfl, rfl⟩ := some2_e hf
    exact k_lret C w d_M_leftAll_46
  · have hf := if_e cd hf
    refine lv_aload_n hx hb d_M_leftAll_14 rfl (lv_at hl 0 rfl) ?_
    refine lv_iload hx hb d_M_leftAll_15 (lv_at hl 4 rfl) ?_
    refine lv_iload_n hx hb d_M_leftAll_17 rfl (lv_at hl 1 rfl) ?_
    refine lv_iload_n hx hb d_M_leftAll_18 rfl (lv_at hl 2 rfl) ?_
    obtain ⟨σ_4, h_3, hf⟩ := bp_e hf
    refine k_callV (As := [.int x5, .int x1, .int x2]) (rest := []) C w (c_M_grows (q := q) h_3) cv_M_grows k1610 (mr_0 C w) (by decide) hl.1 rfl (Nat.le_of_ble_eq_true rfl) d_M_leftAll_19 (fun H locs w => ?_)
    show WK p l e s m av below meth c 6 g (wM g q) A (some (.long r)) σ2 H locs (F0 m 22 ls [])
    refine lv_lload_n hx hb d_M_leftAll_22 rfl (lv_at hl 3 rfl) ?_
    refine lv_aload_n hx hb d_M_leftAll_23 rfl (lv_at hl 0 rfl) ?_
    refine mg_0_treePaid C w k1162 d_M_leftAll_24 ?_
    refine lv_aload_n hx hb d_M_leftAll_27 rfl (lv_at hl 0 rfl) ?_
    obtain ⟨r_6, h_5, hf⟩ := bp_e hf
    refine k_callV (As := []) (rest := [.long (sJ σ_4 2), .long x3]) C w (c_M_whole (q := q) h_5) cv_M_whole k1640 (mr_0 C w) (by decide) hl.1 rfl (Nat.le_of_ble_eq_true rfl) d_M_leftAll_28 (fun H locs w => ?_)
    show WK p l e s m av below meth c 6 g (wM g q) A (some (.long r)) σ2 H locs (F0 m 31 ls [.long r_6, .long (sJ σ_4 2), .long x3])
    refine lv_aload_n hx hb d_M_leftAll_31 rfl (lv_at hl 0 rfl) ?_
    refine mg_0_treeRows C w k1160 d_M_leftAll_32 ?_
    obtain ⟨g_7, hf⟩ := gd_e hf
    refine lv_ldiv hx hb d_M_leftAll_35 (nzJ_e g_7) ?_
    refine lv_lmul hx hb d_M_leftAll_36 ?_
    refine lv_ladd hx hb d_M_leftAll_37 ?_
    refine lv_topl (fun x_8 ex_8 => ?_)
    have hf := lt_e ex_8 hf
    refine lv_lstore_n (lv' := [(3, .long x_8), (0, .ref (q 0)), (1, .int x1), (2, .int x2), (5, .int x5)]) hx hb d_M_leftAll_38 rfl hl (by decide) rfl (fun ls hl => ?_)
    obtain ⟨x_9, ex_9⟩ : ∃ y : Int32, y = (x5 + 1) := ⟨_, rfl⟩
    have hf := lt_e ex_9 hf
    refine lv_iinc (v := x_9) (lv' := [(5, .int x_9), (3, .long x_8), (0, .ref (q 0)), (1, .int x1), (2, .int x2)]) hx hb d_M_leftAll_39 hl (k := 4) rfl (by rw [ex_9]; rfl) (by decide) rfl (fun ls hl => ?_)
    refine lv_goto (tgt := 5) hx hb d_M_leftAll_42 (by decide) ?_
    exact hk5 x1 x2 x_8 x_9 σ_4 _ _ _ hf w (lv_sub hl [2, 3, 4, 1, 0] rfl)
set_option maxHeartbeats 4000000 in
set_option maxRecDepth 20000 in
theorem t_M_leftAll_5 {r : Int64} {σ2 : St} (C : Cx g A p s m av meth c prog_13_method_74_code 6 "BellHammerModel" (some .long))  : ∀ (n : Nat) (x1 : Int32) (x2 : Int32) (x3 : Int64) (x5 : Int32) (σ : St) (H : Heap) (locs : List Loc) (ls : Array Slot), f_M_leftAll_5   n x1 x2 x3 x5 σ = some (r, σ2) → Wd g (wM g q) A s σ H locs → lv_has ls 6 [(0, .ref (q 0)), (1, .int x1), (2, .int x2), (3, .long x3), (5, .int x5)] → WK p l e s m av below meth c 6 g (wM g q) A (some (.long r)) σ2 H locs (F0 m 5 ls []) := by
  intro n
  induction n with
  | zero => intro x1 x2 x3 x5 σ H locs ls hf; exact absurd hf (by intro z; cases z)
  | succ n ih => intro x1 x2 x3 x5 σ H locs ls hf w hl; exact t_M_leftAll_5b C  ih hf w hl
set_option maxHeartbeats 4000000 in
set_option maxRecDepth 20000 in
theorem c_M_leftAll {l : Launch} {g : GX} {q : Nat → Nat} {x1 : Int32} {x2 : Int32}  {σ : St} {r : Int64} {σ2 : St} (hf : f_M_leftAll  x1 x2 σ = some (r, σ2)) : KK l y_M_leftAll prog_13_method_74_code 6 (some .long) 6 g (wM g q) σ [.ref (q 0), .int x1, .int x2] (some (.long r)) (wM g q) σ2 := by
  refine KK_of (plainFor_of_name (by decide)) (Nat.le_of_ble_eq_true rfl) (fun p e s m below meth c A ls C w hl => ?_)
  have hl : lv_has ls 6 [(0, .ref (q 0)), (1, .int x1), (2, .int x2)] := hl
  obtain ⟨hx, hb, hml, hown, hts, hK, hA, hZ, hlocks, hr, hN⟩ := id C
  unfold f_M_leftAll at hf
  refine lv_lconst (v := 0) hx hb d_M_leftAll_0 (by decide) ?_
  refine lv_lstore_n (lv' := [(3, .long 0), (0, .ref (q 0)), (1, .int x1), (2, .int x2)]) hx hb d_M_leftAll_1 rfl hl (by decide) rfl (fun ls hl => ?_)
  refine lv_iconst (v := 0) hx hb d_M_leftAll_2 (by decide) ?_
  refine lv_istore (lv' := [(5, .int 0), (3, .long 0), (0, .ref (q 0)), (1, .int x1), (2, .int x2)]) hx hb d_M_leftAll_3 hl (by decide) rfl (fun ls hl => ?_)
  exact t_M_leftAll_5 C  FU x1 x2 0 0 σ _ _ _ hf w (lv_sub hl [2, 3, 4, 1, 0] rfl)
def f_M_best_21b (k21 : Int32 → Int32 → Int64 → Int32 → St → Option (Int32 × St)) (x1 : Int32) (x2 : Int32) (x3 : Int64) (x5 : Int32) (σ : St) : Option (Int32 × St) :=
  bp (f_M_ruleMany σ) fun r_2 =>
  if (1 <<< (r_2 &&& 31)) ≤ x5 then
    if x1 = 0 then
      some (x2, σ)
    else
      bp (f_M_whole σ) fun r_4 =>
      gd (nzJ r_4) <|
      some ((((1000 * x3) / r_4)).toInt32, σ)
  else
    bd (f_M_leftAll x5 (sA σ 11 (3 : Int32).toNatClampNeg) σ) fun r_7 σ_8 =>
    if 0 < (lg_cmp r_7 x3) then
      lt ((x5 + 1)) fun x_9 =>
      k21 x1 x5 r_7 x_9 σ_8
    else
      lt ((x5 + 1)) fun x_10 =>
      k21 x1 x2 x3 x_10 σ_8
def f_M_best_21 : Nat → Int32 → Int32 → Int64 → Int32 → St → Option (Int32 × St)
  | 0 => fun _ _ _ _ _ => none
  | n + 1 => f_M_best_21b   (f_M_best_21   n)
def f_M_best (x1 : Int32) (σ : St) : Option (Int32 × St) :=
  bp (f_M_isIn ((x1).toInt64) 0 1 σ) fun r_2 =>
  if r_2 = 0 then
    some ((-1), σ)
  else
    f_M_best_21 FU x1 0 (-1) 0 σ
set_option maxHeartbeats 4000000 in
set_option maxRecDepth 20000 in
theorem t_M_best_21b {r : Int32} {σ2 : St} (C : Cx g A p s m av meth c prog_13_method_75_code 8 "BellHammerModel" (some .int)) {k21 : Int32 → Int32 → Int64 → Int32 → St → Option (Int32 × St)} (hk21 : ∀ (x1 : Int32) (x2 : Int32) (x3 : Int64) (x5 : Int32) (σ : St) (H : Heap) (locs : List Loc) (ls : Array Slot), k21 x1 x2 x3 x5 σ = some (r, σ2) → Wd g (wM g q) A s σ H locs → lv_has ls 8 [(0, .ref (q 0)), (1, .int x1), (2, .int x2), (3, .long x3), (5, .int x5)] → WK p l e s m av below meth c 7 g (wM g q) A (some (.int r)) σ2 H locs (F0 m 21 ls []))  {x1 : Int32} {x2 : Int32} {x3 : Int64} {x5 : Int32} {σ : St} {H : Heap} {locs : List Loc} {ls : Array Slot} (hf : f_M_best_21b  k21 x1 x2 x3 x5 σ = some (r, σ2)) (w : Wd g (wM g q) A s σ H locs) (hl : lv_has ls 8 [(0, .ref (q 0)), (1, .int x1), (2, .int x2), (3, .long x3), (5, .int x5)]) : WK p l e s m av below meth c 7 g (wM g q) A (some (.int r)) σ2 H locs (F0 m 21 ls []) := by
  obtain ⟨hx, hb, hml, hown, hts, hK, hA, hZ, hlocks, hr, hN⟩ := id C
  unfold f_M_best_21b at hf
  refine lv_iload hx hb d_M_best_21 (lv_at hl 4 rfl) ?_
  refine lv_iconst (v := 1) hx hb d_M_best_23 (by decide) ?_
  refine lv_aload_n hx hb d_M_best_24 rfl (lv_at hl 0 rfl) ?_
  obtain ⟨r_2, h_1, hf⟩ := bp_e hf
  refine k_callV (As := []) (rest := [.int 1, .int x5]) C w (c_M_ruleMany (q := q) h_1) cv_M_ruleMany k1513 (mr_0 C w) (by decide) hl.1 rfl (Nat.le_of_ble_eq_true rfl) d_M_best_25 (fun H locs w => ?_)
  show WK p l e s m av below meth c 7 g (wM g q) A (some (.int r)) σ2 H locs (F0 m 28 ls [.int r_2, .int 1, .int x5])
  refine lv_ishl hx hb d_M_best_28 ?_
  refine lv_icmp_ge (tgt := 68) hx hb d_M_best_29 (by decide) (fun cd => ?_) (fun cd => ?_)
  · have hf := it_e cd hf
    refine lv_iload_n hx hb d_M_best_68 rfl (lv_at hl 1 rfl) ?_
    refine lv_if_ne (tgt := 76) hx hb d_M_best_69 (by decide) (fun cd => ?_) (fun cd => ?_)
    · have hf := if_e cd hf
      refine lv_ldc2 (v := 1000) hx hb hown (hts _ k1630) d_M_best_76 ?_
      refine lv_lload_n hx hb d_M_best_79 rfl (lv_at hl 3 rfl) ?_
      refine lv_lmul hx hb d_M_best_80 ?_
      refine lv_aload_n hx hb d_M_best_81 rfl (lv_at hl 0 rfl) ?_
      obtain ⟨r_4, h_3, hf⟩ := bp_e hf
      refine k_callV (As := []) (rest := [.long (1000 * x3)]) C w (c_M_whole (q := q) h_3) cv_M_whole k1640 (mr_0 C w) (by decide) hl.1 rfl (Nat.le_of_ble_eq_true rfl) d_M_best_82 (fun H locs w => ?_)
      show WK p l e s m av below meth c 7 g (wM g q) A (some (.int r)) σ2 H locs (F0 m 85 ls [.long r_4, .long (1000 * x3)])
      obtain ⟨g_5, hf⟩ := gd_e hf
      refine lv_ldiv hx hb d_M_best_85 (nzJ_e g_5) ?_
      refine lv_l2i hx hb d_M_best_86 rfl ?_
      obtain ⟨rfl, rfl⟩ := some2_e hf
      exact k_iret C w d_M_best_87
    · have hf := it_e cd hf
      refine lv_iload_n hx hb d_M_best_72 rfl (lv_at hl 2 rfl) ?_
      refine lv_goto (tgt := 87) hx hb d_M_best_73 (by decide) ?_
      obtain ⟨rfl, rfl⟩ := some2_e hf
      exact k_iret C w d_M_best_87
  · have hf := if_e cd hf
    refine lv_aload_n hx hb d_M_best_32 rfl (lv_at hl 0 rfl) ?_
    refine lv_iload hx hb d_M_best_33 (lv_at hl 4 rfl) ?_
    refine lv_aload_n hx hb d_M_best_35 rfl (lv_at hl 0 rfl) ?_
    refine mg_0_now C w k1149 d_M_best_36 ?_
    refine lv_iconst (v := 3) hx hb d_M_best_39 (by decide) ?_
    refine ml_41 C w (by decide) d_M_best_40 ?_
    obtain ⟨r_7, σ_8, h_6, hf⟩ := bd_e hf
    refine k_callV (As := [.int x5, .int (sA σ 11 (3 : Int32).toNatClampNeg)]) (rest := []) C w (c_M_leftAll (q := q) h_6) cv_M_leftAll k1636 (mr_0 C w) (by decide) hl.1 rfl (Nat.le_of_ble_eq_true rfl) d_M_best_41 (fun H locs w => ?_)
    show WK p l e s m av below meth c 7 g (wM g q) A (some (.int r)) σ2 H locs (F0 m 44 ls [.long r_7])
    refine lv_lstore (lv' := [(6, .long r_7), (0, .ref (q 0)), (1, .int x1), (2, .int x2), (3, .long x3), (5, .int x5)]) hx hb d_M_best_44 hl (by decide) rfl (fun ls hl => ?_)
    refine lv_lload hx hb d_M_best_46 (lv_at hl 0 rfl) ?_
    refine lv_lload_n hx hb d_M_best_48 rfl (lv_at hl 4 rfl) ?_
    refine W.lcmp hx hb d_M_best_49 ?_
    refine lv_if_gt (tgt := 56) hx hb d_M_best_50 (by decide) (fun cd => ?_) (fun cd => ?_)
    · have hf := it_e cd hf
      refine lv_lload hx hb d_M_best_56 (lv_at hl 0 rfl) ?_
      refine lv_lstore_n (lv' := [(3, .long r_7), (6, .long r_7), (0, .ref (q 0)), (1, .int x1), (2, .int x2), (5, .int x5)]) hx hb d_M_best_58 rfl hl (by decide) rfl (fun ls hl => ?_)
      refine lv_iload hx hb d_M_best_59 (lv_at hl 5 rfl) ?_
      refine lv_istore_n (lv' := [(2, .int x5), (3, .long r_7), (6, .long r_7), (0, .ref (q 0)), (1, .int x1), (5, .int x5)]) hx hb d_M_best_61 rfl hl (by decide) rfl (fun ls hl => ?_)
      obtain ⟨x_9, ex_9⟩ : ∃ y : Int32, y = (x5 + 1) := ⟨_, rfl⟩
      have hf := lt_e ex_9 hf
      refine lv_iinc (v := x_9) (lv' := [(5, .int x_9), (2, .int x5), (3, .long r_7), (6, .long r_7), (0, .ref (q 0)), (1, .int x1)]) hx hb d_M_best_62 hl (k := 5) rfl (by rw [ex_9]; rfl) (by decide) rfl (fun ls hl => ?_)
      refine lv_goto (tgt := 21) hx hb d_M_best_65 (by decide) ?_
      exact hk21 x1 x5 r_7 x_9 σ_8 _ _ _ hf w (lv_sub hl [4, 5, 1, 2, 0] rfl)
    · have hf := if_e cd hf
      refine lv_goto (tgt := 62) hx hb d_M_best_53 (by decide) ?_
      obtain ⟨x_10, ex_10⟩ : ∃ y : Int32, y = (x5 + 1) := ⟨_, rfl⟩
      have hf := lt_e ex_10 hf
      refine lv_iinc (v := x_10) (lv' := [(5, .int x_10), (6, .long r_7), (0, .ref (q 0)), (1, .int x1), (2, .int x2), (3, .long x3)]) hx hb d_M_best_62 hl (k := 5) rfl (by rw [ex_10]; rfl) (by decide) rfl (fun ls hl => ?_)
      refine lv_goto (tgt := 21) hx hb d_M_best_65 (by decide) ?_
      exact hk21 x1 x2 x3 x_10 σ_8 _ _ _ hf w (lv_sub hl [2, 3, 4, 5, 0] rfl)
set_option maxHeartbeats 4000000 in
set_option maxRecDepth 20000 in
theorem t_M_best_21 {r : Int32} {σ2 : St} (C : Cx g A p s m av meth c prog_13_method_75_code 8 "BellHammerModel" (some .int))  : ∀ (n : Nat) (x1 : Int32) (x2 : Int32) (x3 : Int64) (x5 : Int32) (σ : St) (H : Heap) (locs : List Loc) (ls : Array Slot), f_M_best_21   n x1 x2 x3 x5 σ = some (r, σ2) → Wd g (wM g q) A s σ H locs → lv_has ls 8 [(0, .ref (q 0)), (1, .int x1), (2, .int x2), (3, .long x3), (5, .int x5)] → WK p l e s m av below meth c 7 g (wM g q) A (some (.int r)) σ2 H locs (F0 m 21 ls []) := by
  intro n
  induction n with
  | zero => intro x1 x2 x3 x5 σ H locs ls hf; exact absurd hf (by intro z; cases z)
  | succ n ih => intro x1 x2 x3 x5 σ H locs ls hf w hl; exact t_M_best_21b C  ih hf w hl
set_option maxHeartbeats 4000000 in
set_option maxRecDepth 20000 in
theorem c_M_best {l : Launch} {g : GX} {q : Nat → Nat} {x1 : Int32}  {σ : St} {r : Int32} {σ2 : St} (hf : f_M_best  x1 σ = some (r, σ2)) : KK l y_M_best prog_13_method_75_code 8 (some .int) 7 g (wM g q) σ [.ref (q 0), .int x1] (some (.int r)) (wM g q) σ2 := by
  refine KK_of (plainFor_of_name (by decide)) (Nat.le_of_ble_eq_true rfl) (fun p e s m below meth c A ls C w hl => ?_)
  have hl : lv_has ls 8 [(0, .ref (q 0)), (1, .int x1)] := hl
  obtain ⟨hx, hb, hml, hown, hts, hK, hA, hZ, hlocks, hr, hN⟩ := id C
  unfold f_M_best at hf
  refine lv_iload_n hx hb d_M_best_0 rfl (lv_at hl 1 rfl) ?_
  refine lv_i2l hx hb d_M_best_1 rfl ?_
  refine lv_lconst (v := 0) hx hb d_M_best_2 (by decide) ?_
  refine lv_lconst (v := 1) hx hb d_M_best_3 (by decide) ?_
  obtain ⟨r_2, h_1, hf⟩ := bp_e hf
  refine k_callS (As := [.long (x1).toInt64, .long 0, .long 1]) (rest := []) C w (c_M_isIn (q := q) h_1) cv_M_isIn k1410 (by decide) hl.1 rfl (Nat.le_of_ble_eq_true rfl) d_M_best_4 (fun H locs w => ?_)
  show WK p l e s m _ below meth c 7 g (wM g q) A (some (.int r)) σ2 H locs (F0 m 7 ls [.int r_2])
  refine lv_if_ne (tgt := 12) hx hb d_M_best_7 (by decide) (fun cd => ?_) (fun cd => ?_)
  · have hf := if_e cd hf
    refine lv_iconst (v := 0) hx hb d_M_best_12 (by decide) ?_
    refine lv_istore_n (lv' := [(2, .int 0), (0, .ref (q 0)), (1, .int x1)]) hx hb d_M_best_13 rfl hl (by decide) rfl (fun ls hl => ?_)
    refine lv_ldc2 (v := (-1)) hx hb hown (hts _ k1635) d_M_best_14 ?_
    refine lv_lstore_n (lv' := [(3, .long (-1)), (2, .int 0), (0, .ref (q 0)), (1, .int x1)]) hx hb d_M_best_17 rfl hl (by decide) rfl (fun ls hl => ?_)
    refine lv_iconst (v := 0) hx hb d_M_best_18 (by decide) ?_
    refine lv_istore (lv' := [(5, .int 0), (3, .long (-1)), (2, .int 0), (0, .ref (q 0)), (1, .int x1)]) hx hb d_M_best_19 hl (by decide) rfl (fun ls hl => ?_)
    exact t_M_best_21 C  FU x1 0 (-1) 0 σ _ _ _ hf w (lv_sub hl [3, 4, 2, 1, 0] rfl)
  · have hf := it_e cd hf
    refine lv_iconst (v := (-1)) hx hb d_M_best_10 (by decide) ?_
    obtain ⟨rfl, rfl⟩ := some2_e hf
    exact k_iret C w d_M_best_11
def f_M_honest_21b (k21 : Int32 → Int32 → Int64 → Int32 → St → Option (Int32 × St)) (x1 : Int32) (x2 : Int32) (x3 : Int64) (x5 : Int32) (σ : St) : Option (Int32 × St) :=
  if 100 ≤ x5 then
    if x1 = 0 then
      some (x2, σ)
    else
      bp (f_M_whole σ) fun r_2 =>
      gd (nzJ r_2) <|
      some ((((1000 * x3) / r_2)).toInt32, σ)
  else
    bd (f_M_leftAll 0 x5 σ) fun r_5 σ_6 =>
    if 0 < (lg_cmp r_5 x3) then
      lt ((x5 + 1)) fun x_7 =>
      k21 x1 x5 r_5 x_7 σ_6
    else
      lt ((x5 + 1)) fun x_8 =>
      k21 x1 x2 x3 x_8 σ_6
def f_M_honest_21 : Nat → Int32 → Int32 → Int64 → Int32 → St → Option (Int32 × St)
  | 0 => fun _ _ _ _ _ => none
  | n + 1 => f_M_honest_21b   (f_M_honest_21   n)
def f_M_honest (x1 : Int32) (σ : St) : Option (Int32 × St) :=
  bp (f_M_isIn ((x1).toInt64) 0 1 σ) fun r_2 =>
  if r_2 = 0 then
    some ((-1), σ)
  else
    f_M_honest_21 FU x1 0 (-1) 1 σ
set_option maxHeartbeats 4000000 in
set_option maxRecDepth 20000 in
theorem t_M_honest_21b {r : Int32} {σ2 : St} (C : Cx g A p s m av meth c prog_13_method_76_code 8 "BellHammerModel" (some .int)) {k21 : Int32 → Int32 → Int64 → Int32 → St → Option (Int32 × St)} (hk21 : ∀ (x1 : Int32) (x2 : Int32) (x3 : Int64) (x5 : Int32) (σ : St) (H : Heap) (locs : List Loc) (ls : Array Slot), k21 x1 x2 x3 x5 σ = some (r, σ2) → Wd g (wM g q) A s σ H locs → lv_has ls 8 [(0, .ref (q 0)), (1, .int x1), (2, .int x2), (3, .long x3), (5, .int x5)] → WK p l e s m av below meth c 7 g (wM g q) A (some (.int r)) σ2 H locs (F0 m 21 ls []))  {x1 : Int32} {x2 : Int32} {x3 : Int64} {x5 : Int32} {σ : St} {H : Heap} {locs : List Loc} {ls : Array Slot} (hf : f_M_honest_21b  k21 x1 x2 x3 x5 σ = some (r, σ2)) (w : Wd g (wM g q) A s σ H locs) (hl : lv_has ls 8 [(0, .ref (q 0)), (1, .int x1), (2, .int x2), (3, .long x3), (5, .int x5)]) : WK p l e s m av below meth c 7 g (wM g q) A (some (.int r)) σ2 H locs (F0 m 21 ls []) := by
  obtain ⟨hx, hb, hml, hown, hts, hK, hA, hZ, hlocks, hr, hN⟩ := id C
  unfold f_M_honest_21b at hf
  refine lv_iload hx hb d_M_honest_21 (lv_at hl 4 rfl) ?_
  refine lv_bipush (v := 100) hx hb d_M_honest_23 (by decide) ?_
  refine lv_icmp_ge (tgt := 59) hx hb d_M_honest_25 (by decide) (fun cd => ?_) (fun cd => ?_)
  · have hf := it_e cd hf
    refine lv_iload_n hx hb d_M_honest_59 rfl (lv_at hl 1 rfl) ?_
    refine lv_if_ne (tgt := 67) hx hb d_M_honest_60 (by decide) (fun cd => ?_) (fun cd => ?_)
    · have hf := if_e cd hf
      refine lv_ldc2 (v := 1000) hx hb hown (hts _ k1630) d_M_honest_67 ?_
      refine lv_lload_n hx hb d_M_honest_70 rfl (lv_at hl 3 rfl) ?_
      refine lv_lmul hx hb d_M_honest_71 ?_
      refine lv_aload_n hx hb d_M_honest_72 rfl (lv_at hl 0 rfl) ?_
      obtain ⟨r_2, h_1, hf⟩ := bp_e hf
      refine k_callV (As := []) (rest := [.long (1000 * x3)]) C w (c_M_whole (q := q) h_1) cv_M_whole k1640 (mr_0 C w) (by decide) hl.1 rfl (Nat.le_of_ble_eq_true rfl) d_M_honest_73 (fun H locs w => ?_)
      show WK p l e s m av below meth c 7 g (wM g q) A (some (.int r)) σ2 H locs (F0 m 76 ls [.long r_2, .long (1000 * x3)])
      obtain ⟨g_3, hf⟩ := gd_e hf
      refine lv_ldiv hx hb d_M_honest_76 (nzJ_e g_3) ?_
      refine lv_l2i hx hb d_M_honest_77 rfl ?_
      obtain ⟨rfl, rfl⟩ := some2_e hf
      exact k_iret C w d_M_honest_78
    · have hf := it_e cd hf
      refine lv_iload_n hx hb d_M_honest_63 rfl (lv_at hl 2 rfl) ?_
      refine lv_goto (tgt := 78) hx hb d_M_honest_64 (by decide) ?_
      obtain ⟨rfl, rfl⟩ := some2_e hf
      exact k_iret C w d_M_honest_78
  · have hf := if_e cd hf
    refine lv_aload_n hx hb d_M_honest_28 rfl (lv_at hl 0 rfl) ?_
    refine lv_iconst (v := 0) hx hb d_M_honest_29 (by decide) ?_
    refine lv_iload hx hb d_M_honest_30 (lv_at hl 4 rfl) ?_
    obtain ⟨r_5, σ_6, h_4, hf⟩ := bd_e hf
    refine k_callV (As := [.int 0, .int x5]) (rest := []) C w (c_M_leftAll (q := q) h_4) cv_M_leftAll k1636 (mr_0 C w) (by decide) hl.1 rfl (Nat.le_of_ble_eq_true rfl) d_M_honest_32 (fun H locs w => ?_)
    show WK p l e s m av below meth c 7 g (wM g q) A (some (.int r)) σ2 H locs (F0 m 35 ls [.long r_5])
    refine lv_lstore (lv' := [(6, .long r_5), (0, .ref (q 0)), (1, .int x1), (2, .int x2), (3, .long x3), (5, .int x5)]) hx hb d_M_honest_35 hl (by decide) rfl (fun ls hl => ?_)
    refine lv_lload hx hb d_M_honest_37 (lv_at hl 0 rfl) ?_
    refine lv_lload_n hx hb d_M_honest_39 rfl (lv_at hl 4 rfl) ?_
    refine W.lcmp hx hb d_M_honest_40 ?_
    refine lv_if_gt (tgt := 47) hx hb d_M_honest_41 (by decide) (fun cd => ?_) (fun cd => ?_)
    · have hf := it_e cd hf
      refine lv_lload hx hb d_M_honest_47 (lv_at hl 0 rfl) ?_
      refine lv_lstore_n (lv' := [(3, .long r_5), (6, .long r_5), (0, .ref (q 0)), (1, .int x1), (2, .int x2), (5, .int x5)]) hx hb d_M_honest_49 rfl hl (by decide) rfl (fun ls hl => ?_)
      refine lv_iload hx hb d_M_honest_50 (lv_at hl 5 rfl) ?_
      refine lv_istore_n (lv' := [(2, .int x5), (3, .long r_5), (6, .long r_5), (0, .ref (q 0)), (1, .int x1), (5, .int x5)]) hx hb d_M_honest_52 rfl hl (by decide) rfl (fun ls hl => ?_)
      obtain ⟨x_7, ex_7⟩ : ∃ y : Int32, y = (x5 + 1) := ⟨_, rfl⟩
      have hf := lt_e ex_7 hf
      refine lv_iinc (v := x_7) (lv' := [(5, .int x_7), (2, .int x5), (3, .long r_5), (6, .long r_5), (0, .ref (q 0)), (1, .int x1)]) hx hb d_M_honest_53 hl (k := 5) rfl (by rw [ex_7]; rfl) (by decide) rfl (fun ls hl => ?_)
      refine lv_goto (tgt := 21) hx hb d_M_honest_56 (by decide) ?_
      exact hk21 x1 x5 r_5 x_7 σ_6 _ _ _ hf w (lv_sub hl [4, 5, 1, 2, 0] rfl)
    · have hf := if_e cd hf
      refine lv_goto (tgt := 53) hx hb d_M_honest_44 (by decide) ?_
      obtain ⟨x_8, ex_8⟩ : ∃ y : Int32, y = (x5 + 1) := ⟨_, rfl⟩
      have hf := lt_e ex_8 hf
      refine lv_iinc (v := x_8) (lv' := [(5, .int x_8), (6, .long r_5), (0, .ref (q 0)), (1, .int x1), (2, .int x2), (3, .long x3)]) hx hb d_M_honest_53 hl (k := 5) rfl (by rw [ex_8]; rfl) (by decide) rfl (fun ls hl => ?_)
      refine lv_goto (tgt := 21) hx hb d_M_honest_56 (by decide) ?_
      exact hk21 x1 x2 x3 x_8 σ_6 _ _ _ hf w (lv_sub hl [2, 3, 4, 5, 0] rfl)
set_option maxHeartbeats 4000000 in
set_option maxRecDepth 20000 in
theorem t_M_honest_21 {r : Int32} {σ2 : St} (C : Cx g A p s m av meth c prog_13_method_76_code 8 "BellHammerModel" (some .int))  : ∀ (n : Nat) (x1 : Int32) (x2 : Int32) (x3 : Int64) (x5 : Int32) (σ : St) (H : Heap) (locs : List Loc) (ls : Array Slot), f_M_honest_21   n x1 x2 x3 x5 σ = some (r, σ2) → Wd g (wM g q) A s σ H locs → lv_has ls 8 [(0, .ref (q 0)), (1, .int x1), (2, .int x2), (3, .long x3), (5, .int x5)] → WK p l e s m av below meth c 7 g (wM g q) A (some (.int r)) σ2 H locs (F0 m 21 ls []) := by
  intro n
  induction n with
  | zero => intro x1 x2 x3 x5 σ H locs ls hf; exact absurd hf (by intro z; cases z)
  | succ n ih => intro x1 x2 x3 x5 σ H locs ls hf w hl; exact t_M_honest_21b C  ih hf w hl
set_option maxHeartbeats 4000000 in
set_option maxRecDepth 20000 in
theorem c_M_honest {l : Launch} {g : GX} {q : Nat → Nat} {x1 : Int32}  {σ : St} {r : Int32} {σ2 : St} (hf : f_M_honest  x1 σ = some (r, σ2)) : KK l y_M_honest prog_13_method_76_code 8 (some .int) 7 g (wM g q) σ [.ref (q 0), .int x1] (some (.int r)) (wM g q) σ2 := by
  refine KK_of (plainFor_of_name (by decide)) (Nat.le_of_ble_eq_true rfl) (fun p e s m below meth c A ls C w hl => ?_)
  have hl : lv_has ls 8 [(0, .ref (q 0)), (1, .int x1)] := hl
  obtain ⟨hx, hb, hml, hown, hts, hK, hA, hZ, hlocks, hr, hN⟩ := id C
  unfold f_M_honest at hf
  refine lv_iload_n hx hb d_M_honest_0 rfl (lv_at hl 1 rfl) ?_
  refine lv_i2l hx hb d_M_honest_1 rfl ?_
  refine lv_lconst (v := 0) hx hb d_M_honest_2 (by decide) ?_
  refine lv_lconst (v := 1) hx hb d_M_honest_3 (by decide) ?_
  obtain ⟨r_2, h_1, hf⟩ := bp_e hf
  refine k_callS (As := [.long (x1).toInt64, .long 0, .long 1]) (rest := []) C w (c_M_isIn (q := q) h_1) cv_M_isIn k1410 (by decide) hl.1 rfl (Nat.le_of_ble_eq_true rfl) d_M_honest_4 (fun H locs w => ?_)
  show WK p l e s m _ below meth c 7 g (wM g q) A (some (.int r)) σ2 H locs (F0 m 7 ls [.int r_2])
  refine lv_if_ne (tgt := 12) hx hb d_M_honest_7 (by decide) (fun cd => ?_) (fun cd => ?_)
  · have hf := if_e cd hf
    refine lv_iconst (v := 0) hx hb d_M_honest_12 (by decide) ?_
    refine lv_istore_n (lv' := [(2, .int 0), (0, .ref (q 0)), (1, .int x1)]) hx hb d_M_honest_13 rfl hl (by decide) rfl (fun ls hl => ?_)
    refine lv_ldc2 (v := (-1)) hx hb hown (hts _ k1635) d_M_honest_14 ?_
    refine lv_lstore_n (lv' := [(3, .long (-1)), (2, .int 0), (0, .ref (q 0)), (1, .int x1)]) hx hb d_M_honest_17 rfl hl (by decide) rfl (fun ls hl => ?_)
    refine lv_iconst (v := 1) hx hb d_M_honest_18 (by decide) ?_
    refine lv_istore (lv' := [(5, .int 1), (3, .long (-1)), (2, .int 0), (0, .ref (q 0)), (1, .int x1)]) hx hb d_M_honest_19 hl (by decide) rfl (fun ls hl => ?_)
    exact t_M_honest_21 C  FU x1 0 (-1) 1 σ _ _ _ hf w (lv_sub hl [3, 4, 2, 1, 0] rfl)
  · have hf := it_e cd hf
    refine lv_iconst (v := (-1)) hx hb d_M_honest_10 (by decide) ?_
    obtain ⟨rfl, rfl⟩ := some2_e hf
    exact k_iret C w d_M_honest_11
def f_M_bet_53b (k39 : Int32 → Int32 → Int32 → Int32 → Int32 → St → Option (Int32)) (k53 : Int32 → Int32 → Int32 → Int32 → Int32 → Int32 → St → Option (Int32)) (x1 : Int32) (x2 : Int32) (x3 : Int32) (x4 : Int32) (x5 : Int32) (x6 : Int32) (σ : St) : Option (Int32) :=
  bp (f_M_trierOf x2 1 σ) fun r_2 =>
  if r_2 < x6 then
    lt ((x5 + 1)) fun x_3 =>
    k39 x1 x2 x3 x4 x_3 σ
  else
    bp (f_M_trierOf x1 0 σ) fun r_5 =>
    bp (f_M_raisedBy r_5 x5 σ) fun r_7 =>
    bp (f_M_trierOf x2 0 σ) fun r_9 =>
    bp (f_M_raisedBy r_9 x6 σ) fun r_11 =>
    if x3 = 0 then
      if r_7 ≤ r_11 then
        lt ((x6 + 1)) fun x_15 =>
        k53 x1 x2 x3 x4 x5 x_15 σ
      else
        lt ((x4 + 1)) fun x_16 =>
        lt ((x6 + 1)) fun x_17 =>
        k53 x1 x2 x3 x_16 x5 x_17 σ
    else
      if r_7 = r_11 then
        lt ((x4 + 1)) fun x_13 =>
        lt ((x6 + 1)) fun x_14 =>
        k53 x1 x2 x3 x_13 x5 x_14 σ
      else
        lt ((x6 + 1)) fun x_12 =>
        k53 x1 x2 x3 x4 x5 x_12 σ
def f_M_bet_53 (k39 : Int32 → Int32 → Int32 → Int32 → Int32 → St → Option (Int32)) : Nat → Int32 → Int32 → Int32 → Int32 → Int32 → Int32 → St → Option (Int32)
  | 0 => fun _ _ _ _ _ _ _ => none
  | n + 1 => f_M_bet_53b  k39 (f_M_bet_53  k39 n)
def f_M_bet_39b (k39 : Int32 → Int32 → Int32 → Int32 → Int32 → St → Option (Int32)) (x1 : Int32) (x2 : Int32) (x3 : Int32) (x4 : Int32) (x5 : Int32) (σ : St) : Option (Int32) :=
  bp (f_M_trierOf x1 1 σ) fun r_2 =>
  if r_2 < x5 then
    bp (f_M_trierOf x1 1 σ) fun r_4 =>
    bp (f_M_trierOf x2 1 σ) fun r_6 =>
    gd (nz ((r_4 + 1) * (r_6 + 1))) <|
    some ((1000 * x4) / ((r_4 + 1) * (r_6 + 1)))
  else
    f_M_bet_53 k39 FU x1 x2 x3 x4 x5 0 σ
def f_M_bet_39 : Nat → Int32 → Int32 → Int32 → Int32 → Int32 → St → Option (Int32)
  | 0 => fun _ _ _ _ _ _ => none
  | n + 1 => f_M_bet_39b   (f_M_bet_39   n)
def f_M_bet (x1 : Int32) (x2 : Int32) (x3 : Int32) (σ : St) : Option (Int32) :=
  bp (f_M_isTrier x1 σ) fun r_2 =>
  if r_2 = 0 then
    some (-1)
  else
    bp (f_M_isTrier x2 σ) fun r_4 =>
    if r_4 = 0 then
      some (-1)
    else
      if x1 = x2 then
        some (-1)
      else
        bp (f_M_isIn ((x3).toInt64) 0 1 σ) fun r_6 =>
        if r_6 = 0 then
          some (-1)
        else
          f_M_bet_39 FU x1 x2 x3 0 0 σ
set_option maxHeartbeats 4000000 in
set_option maxRecDepth 20000 in
theorem t_M_bet_53b {r : Int32} {σ : St} (C : Cx g A p s m av meth c prog_13_method_77_code 9 "BellHammerModel" (some .int)) {k39 : Int32 → Int32 → Int32 → Int32 → Int32 → St → Option (Int32)} (hk39 : ∀ (x1 : Int32) (x2 : Int32) (x3 : Int32) (x4 : Int32) (x5 : Int32) (H : Heap) (locs : List Loc) (ls : Array Slot), k39 x1 x2 x3 x4 x5 σ = some r → Wd g (wM g q) A s σ H locs → lv_has ls 9 [(0, .ref (q 0)), (1, .int x1), (2, .int x2), (3, .int x3), (4, .int x4), (5, .int x5)] → WK p l e s m av below meth c 2 g (wM g q) A (some (.int r)) σ H locs (F0 m 39 ls [])) {k53 : Int32 → Int32 → Int32 → Int32 → Int32 → Int32 → St → Option (Int32)} (hk53 : ∀ (x1 : Int32) (x2 : Int32) (x3 : Int32) (x4 : Int32) (x5 : Int32) (x6 : Int32) (H : Heap) (locs : List Loc) (ls : Array Slot), k53 x1 x2 x3 x4 x5 x6 σ = some r → Wd g (wM g q) A s σ H locs → lv_has ls 9 [(0, .ref (q 0)), (1, .int x1), (2, .int x2), (3, .int x3), (4, .int x4), (5, .int x5), (6, .int x6)] → WK p l e s m av below meth c 2 g (wM g q) A (some (.int r)) σ H locs (F0 m 53 ls []))  {x1 : Int32} {x2 : Int32} {x3 : Int32} {x4 : Int32} {x5 : Int32} {x6 : Int32} {H : Heap} {locs : List Loc} {ls : Array Slot} (hf : f_M_bet_53b  k39 k53 x1 x2 x3 x4 x5 x6 σ = some r) (w : Wd g (wM g q) A s σ H locs) (hl : lv_has ls 9 [(0, .ref (q 0)), (1, .int x1), (2, .int x2), (3, .int x3), (4, .int x4), (5, .int x5), (6, .int x6)]) : WK p l e s m av below meth c 2 g (wM g q) A (some (.int r)) σ H locs (F0 m 53 ls []) := by
  obtain ⟨hx, hb, hml, hown, hts, hK, hA, hZ, hlocks, hr, hN⟩ := id C
  unfold f_M_bet_53b at hf
  refine lv_iload hx hb d_M_bet_53 (lv_at hl 6 rfl) ?_
  refine lv_aload_n hx hb d_M_bet_55 rfl (lv_at hl 0 rfl) ?_
  refine lv_iload_n hx hb d_M_bet_56 rfl (lv_at hl 2 rfl) ?_
  refine lv_iconst (v := 1) hx hb d_M_bet_57 (by decide) ?_
  obtain ⟨r_2, h_1, hf⟩ := bp_e hf
  refine k_callV (As := [.int x2, .int 1]) (rest := [.int x6]) C w (c_M_trierOf (q := q) h_1) cv_M_trierOf k1534 (mr_0 C w) (by decide) hl.1 rfl (Nat.le_of_ble_eq_true rfl) d_M_bet_58 (fun H locs w => ?_)
  show WK p l e s m av below meth c 2 g (wM g q) A (some (.int r)) σ H locs (F0 m 61 ls [.int r_2, .int x6])
  refine lv_icmp_gt (tgt := 120) hx hb d_M_bet_61 (by decide) (fun cd => ?_) (fun cd => ?_)
  · have hf := it_e cd hf
    obtain ⟨x_3, ex_3⟩ : ∃ y : Int32, y = (x5 + 1) := ⟨_, rfl⟩
    have hf := lt_e ex_3 hf
    refine lv_iinc (v := x_3) (lv' := [(5, .int x_3), (0, .ref (q 0)), (1, .int x1), (2, .int x2), (3, .int x3), (4, .int x4), (6, .int x6)]) hx hb d_M_bet_120 hl (k := 5) rfl (by rw [ex_3]; rfl) (by decide) rfl (fun ls hl => ?_)
    refine lv_goto (tgt := 39) hx hb d_M_bet_123 (by decide) ?_
    exact hk39 x1 x2 x3 x4 x_3  _ _ _ hf w (lv_sub hl [1, 2, 3, 4, 5, 0] rfl)
  · have hf := if_e cd hf
    refine lv_aload_n hx hb d_M_bet_64 rfl (lv_at hl 0 rfl) ?_
    refine lv_iload_n hx hb d_M_bet_65 rfl (lv_at hl 1 rfl) ?_
    refine lv_iconst (v := 0) hx hb d_M_bet_66 (by decide) ?_
    obtain ⟨r_5, h_4, hf⟩ := bp_e hf
    refine k_callV (As := [.int x1, .int 0]) (rest := []) C w (c_M_trierOf (q := q) h_4) cv_M_trierOf k1534 (mr_0 C w) (by decide) hl.1 rfl (Nat.le_of_ble_eq_true rfl) d_M_bet_67 (fun H locs w => ?_)
    show WK p l e s m av below meth c 2 g (wM g q) A (some (.int r)) σ H locs (F0 m 70 ls [.int r_5])
    refine lv_iload hx hb d_M_bet_70 (lv_at hl 5 rfl) ?_
    obtain ⟨r_7, h_6, hf⟩ := bp_e hf
    refine k_callS (As := [.int r_5, .int x5]) (rest := []) C w (c_M_raisedBy (q := q) h_6) cv_M_raisedBy k1560 (by decide) hl.1 rfl (Nat.le_of_ble_eq_true rfl) d_M_bet_72 (fun H locs w => ?_)
    show WK p l e s m av below meth c 2 g (wM g q) A (some (.int r)) σ H locs (F0 m 75 ls [.int r_7])
    refine lv_istore (lv' := [(7, .int r_7), (0, .ref (q 0)), (1, .int x1), (2, .int x2), (3, .int x3), (4, .int x4), (5, .int x5), (6, .int x6)]) hx hb d_M_bet_75 hl (by decide) rfl (fun ls hl => ?_)
    refine lv_aload_n hx hb d_M_bet_77 rfl (lv_at hl 1 rfl) ?_
    refine lv_iload_n hx hb d_M_bet_78 rfl (lv_at hl 3 rfl) ?_
    refine lv_iconst (v := 0) hx hb d_M_bet_79 (by decide) ?_
    obtain ⟨r_9, h_8, hf⟩ := bp_e hf
    refine k_callV (As := [.int x2, .int 0]) (rest := []) C w (c_M_trierOf (q := q) h_8) cv_M_trierOf k1534 (mr_0 C w) (by decide) hl.1 rfl (Nat.le_of_ble_eq_true rfl) d_M_bet_80 (fun H locs w => ?_)
    show WK p l e s m av below meth c 2 g (wM g q) A (some (.int r)) σ H locs (F0 m 83 ls [.int r_9])
    refine lv_iload hx hb d_M_bet_83 (lv_at hl 7 rfl) ?_
    obtain ⟨r_11, h_10, hf⟩ := bp_e hf
    refine k_callS (As := [.int r_9, .int x6]) (rest := []) C w (c_M_raisedBy (q := q) h_10) cv_M_raisedBy k1560 (by decide) hl.1 rfl (Nat.le_of_ble_eq_true rfl) d_M_bet_85 (fun H locs w => ?_)
    show WK p l e s m av below meth c 2 g (wM g q) A (some (.int r)) σ H locs (F0 m 88 ls [.int r_11])
    refine lv_istore (lv' := [(8, .int r_11), (7, .int r_7), (0, .ref (q 0)), (1, .int x1), (2, .int x2), (3, .int x3), (4, .int x4), (5, .int x5), (6, .int x6)]) hx hb d_M_bet_88 hl (by decide) rfl (fun ls hl => ?_)
    refine lv_iload_n hx hb d_M_bet_90 rfl (lv_at hl 5 rfl) ?_
    refine lv_if_ne (tgt := 104) hx hb d_M_bet_91 (by decide) (fun cd => ?_) (fun cd => ?_)
    · have hf := if_e cd hf
      refine lv_iload hx hb d_M_bet_104 (lv_at hl 1 rfl) ?_
      refine lv_iload hx hb d_M_bet_106 (lv_at hl 0 rfl) ?_
      refine lv_icmp_ne (tgt := 114) hx hb d_M_bet_108 (by decide) (fun cd => ?_) (fun cd => ?_)
      · have hf := if_e cd hf
        obtain ⟨x_12, ex_12⟩ : ∃ y : Int32, y = (x6 + 1) := ⟨_, rfl⟩
        have hf := lt_e ex_12 hf
        refine lv_iinc (v := x_12) (lv' := [(6, .int x_12), (8, .int r_11), (7, .int r_7), (0, .ref (q 0)), (1, .int x1), (2, .int x2), (3, .int x3), (4, .int x4), (5, .int x5)]) hx hb d_M_bet_114 hl (k := 8) rfl (by rw [ex_12]; rfl) (by decide) rfl (fun ls hl => ?_)
        refine lv_goto (tgt := 53) hx hb d_M_bet_117 (by decide) ?_
        exact hk53 x1 x2 x3 x4 x5 x_12  _ _ _ hf w (lv_sub hl [3, 4, 5, 6, 7, 8, 0] rfl)
      · have hf := it_e cd hf
        obtain ⟨x_13, ex_13⟩ : ∃ y : Int32, y = (x4 + 1) := ⟨_, rfl⟩
        have hf := lt_e ex_13 hf
        refine lv_iinc (v := x_13) (lv' := [(4, .int x_13), (8, .int r_11), (7, .int r_7), (0, .ref (q 0)), (1, .int x1), (2, .int x2), (3, .int x3), (5, .int x5), (6, .int x6)]) hx hb d_M_bet_111 hl (k := 6) rfl (by rw [ex_13]; rfl) (by decide) rfl (fun ls hl => ?_)
        obtain ⟨x_14, ex_14⟩ : ∃ y : Int32, y = (x6 + 1) := ⟨_, rfl⟩
        have hf := lt_e ex_14 hf
        refine lv_iinc (v := x_14) (lv' := [(6, .int x_14), (4, .int x_13), (8, .int r_11), (7, .int r_7), (0, .ref (q 0)), (1, .int x1), (2, .int x2), (3, .int x3), (5, .int x5)]) hx hb d_M_bet_114 hl (k := 8) rfl (by rw [ex_14]; rfl) (by decide) rfl (fun ls hl => ?_)
        refine lv_goto (tgt := 53) hx hb d_M_bet_117 (by decide) ?_
        exact hk53 x1 x2 x3 x_13 x5 x_14  _ _ _ hf w (lv_sub hl [4, 5, 6, 7, 1, 8, 0] rfl)
    · have hf := it_e cd hf
      refine lv_iload hx hb d_M_bet_94 (lv_at hl 1 rfl) ?_
      refine lv_iload hx hb d_M_bet_96 (lv_at hl 0 rfl) ?_
      refine lv_icmp_le (tgt := 114) hx hb d_M_bet_98 (by decide) (fun cd => ?_) (fun cd => ?_)
      · have hf := it_e cd hf
        obtain ⟨x_15, ex_15⟩ : ∃ y : Int32, y = (x6 + 1) := ⟨_, rfl⟩
        have hf := lt_e ex_15 hf
        refine lv_iinc (v := x_15) (lv' := [(6, .int x_15), (8, .int r_11), (7, .int r_7), (0, .ref (q 0)), (1, .int x1), (2, .int x2), (3, .int x3), (4, .int x4), (5, .int x5)]) hx hb d_M_bet_114 hl (k := 8) rfl (by rw [ex_15]; rfl) (by decide) rfl (fun ls hl => ?_)
        refine lv_goto (tgt := 53) hx hb d_M_bet_117 (by decide) ?_
        exact hk53 x1 x2 x3 x4 x5 x_15  _ _ _ hf w (lv_sub hl [3, 4, 5, 6, 7, 8, 0] rfl)
      · have hf := if_e cd hf
        refine lv_goto (tgt := 111) hx hb d_M_bet_101 (by decide) ?_
        obtain ⟨x_16, ex_16⟩ : ∃ y : Int32, y = (x4 + 1) := ⟨_, rfl⟩
        have hf := lt_e ex_16 hf
        refine lv_iinc (v := x_16) (lv' := [(4, .int x_16), (8, .int r_11), (7, .int r_7), (0, .ref (q 0)), (1, .int x1), (2, .int x2), (3, .int x3), (5, .int x5), (6, .int x6)]) hx hb d_M_bet_111 hl (k := 6) rfl (by rw [ex_16]; rfl) (by decide) rfl (fun ls hl => ?_)
        obtain ⟨x_17, ex_17⟩ : ∃ y : Int32, y = (x6 + 1) := ⟨_, rfl⟩
        have hf := lt_e ex_17 hf
        refine lv_iinc (v := x_17) (lv' := [(6, .int x_17), (4, .int x_16), (8, .int r_11), (7, .int r_7), (0, .ref (q 0)), (1, .int x1), (2, .int x2), (3, .int x3), (5, .int x5)]) hx hb d_M_bet_114 hl (k := 8) rfl (by rw [ex_17]; rfl) (by decide) rfl (fun ls hl => ?_)
        refine lv_goto (tgt := 53) hx hb d_M_bet_117 (by decide) ?_
        exact hk53 x1 x2 x3 x_16 x5 x_17  _ _ _ hf w (lv_sub hl [4, 5, 6, 7, 1, 8, 0] rfl)
set_option maxHeartbeats 4000000 in
set_option maxRecDepth 20000 in
theorem t_M_bet_53 {r : Int32} {σ : St} (C : Cx g A p s m av meth c prog_13_method_77_code 9 "BellHammerModel" (some .int)) {k39 : Int32 → Int32 → Int32 → Int32 → Int32 → St → Option (Int32)} (hk39 : ∀ (x1 : Int32) (x2 : Int32) (x3 : Int32) (x4 : Int32) (x5 : Int32) (H : Heap) (locs : List Loc) (ls : Array Slot), k39 x1 x2 x3 x4 x5 σ = some r → Wd g (wM g q) A s σ H locs → lv_has ls 9 [(0, .ref (q 0)), (1, .int x1), (2, .int x2), (3, .int x3), (4, .int x4), (5, .int x5)] → WK p l e s m av below meth c 2 g (wM g q) A (some (.int r)) σ H locs (F0 m 39 ls []))  : ∀ (n : Nat) (x1 : Int32) (x2 : Int32) (x3 : Int32) (x4 : Int32) (x5 : Int32) (x6 : Int32) (H : Heap) (locs : List Loc) (ls : Array Slot), f_M_bet_53  k39 n x1 x2 x3 x4 x5 x6 σ = some r → Wd g (wM g q) A s σ H locs → lv_has ls 9 [(0, .ref (q 0)), (1, .int x1), (2, .int x2), (3, .int x3), (4, .int x4), (5, .int x5), (6, .int x6)] → WK p l e s m av below meth c 2 g (wM g q) A (some (.int r)) σ H locs (F0 m 53 ls []) := by
  intro n
  induction n with
  | zero => intro x1 x2 x3 x4 x5 x6 H locs ls hf; exact absurd hf (by intro z; cases z)
  | succ n ih => intro x1 x2 x3 x4 x5 x6 H locs ls hf w hl; exact t_M_bet_53b C hk39 ih hf w hl
set_option maxHeartbeats 4000000 in
set_option maxRecDepth 20000 in
theorem t_M_bet_39b {r : Int32} {σ : St} (C : Cx g A p s m av meth c prog_13_method_77_code 9 "BellHammerModel" (some .int)) {k39 : Int32 → Int32 → Int32 → Int32 → Int32 → St → Option (Int32)} (hk39 : ∀ (x1 : Int32) (x2 : Int32) (x3 : Int32) (x4 : Int32) (x5 : Int32) (H : Heap) (locs : List Loc) (ls : Array Slot), k39 x1 x2 x3 x4 x5 σ = some r → Wd g (wM g q) A s σ H locs → lv_has ls 9 [(0, .ref (q 0)), (1, .int x1), (2, .int x2), (3, .int x3), (4, .int x4), (5, .int x5)] → WK p l e s m av below meth c 2 g (wM g q) A (some (.int r)) σ H locs (F0 m 39 ls []))  {x1 : Int32} {x2 : Int32} {x3 : Int32} {x4 : Int32} {x5 : Int32} {H : Heap} {locs : List Loc} {ls : Array Slot} (hf : f_M_bet_39b  k39 x1 x2 x3 x4 x5 σ = some r) (w : Wd g (wM g q) A s σ H locs) (hl : lv_has ls 9 [(0, .ref (q 0)), (1, .int x1), (2, .int x2), (3, .int x3), (4, .int x4), (5, .int x5)]) : WK p l e s m av below meth c 2 g (wM g q) A (some (.int r)) σ H locs (F0 m 39 ls []) := by
  obtain ⟨hx, hb, hml, hown, hts, hK, hA, hZ, hlocks, hr, hN⟩ := id C
  unfold f_M_bet_39b at hf
  refine lv_iload hx hb d_M_bet_39 (lv_at hl 5 rfl) ?_
  refine lv_aload_n hx hb d_M_bet_41 rfl (lv_at hl 0 rfl) ?_
  refine lv_iload_n hx hb d_M_bet_42 rfl (lv_at hl 1 rfl) ?_
  refine lv_iconst (v := 1) hx hb d_M_bet_43 (by decide) ?_
  obtain ⟨r_2, h_1, hf⟩ := bp_e hf
  refine k_callV (As := [.int x1, .int 1]) (rest := [.int x5]) C w (c_M_trierOf (q := q) h_1) cv_M_trierOf k1534 (mr_0 C w) (by decide) hl.1 rfl (Nat.le_of_ble_eq_true rfl) d_M_bet_44 (fun H locs w => ?_)
  show WK p l e s m av below meth c 2 g (wM g q) A (some (.int r)) σ H locs (F0 m 47 ls [.int r_2, .int x5])
  refine lv_icmp_gt (tgt := 126) hx hb d_M_bet_47 (by decide) (fun cd => ?_) (fun cd => ?_)
  · have hf := it_e cd hf
    refine lv_sipush (v := 1000) hx hb d_M_bet_126 (by decide) ?_
    refine lv_iload hx hb d_M_bet_129 (lv_at hl 4 rfl) ?_
    refine lv_imul hx hb d_M_bet_131 ?_
    refine lv_aload_n hx hb d_M_bet_132 rfl (lv_at hl 0 rfl) ?_
    refine lv_iload_n hx hb d_M_bet_133 rfl (lv_at hl 1 rfl) ?_
    refine lv_iconst (v := 1) hx hb d_M_bet_134 (by decide) ?_
    obtain ⟨r_4, h_3, hf⟩ := bp_e hf
    refine k_callV (As := [.int x1, .int 1]) (rest := [.int (1000 * x4)]) C w (c_M_trierOf (q := q) h_3) cv_M_trierOf k1534 (mr_0 C w) (by decide) hl.1 rfl (Nat.le_of_ble_eq_true rfl) d_M_bet_135 (fun H locs w => ?_)
    show WK p l e s m av below meth c 2 g (wM g q) A (some (.int r)) σ H locs (F0 m 138 ls [.int r_4, .int (1000 * x4)])
    refine lv_iconst (v := 1) hx hb d_M_bet_138 (by decide) ?_
    refine lv_iadd hx hb d_M_bet_139 ?_
    refine lv_aload_n hx hb d_M_bet_140 rfl (lv_at hl 0 rfl) ?_
    refine lv_iload_n hx hb d_M_bet_141 rfl (lv_at hl 2 rfl) ?_
    refine lv_iconst (v := 1) hx hb d_M_bet_142 (by decide) ?_
    obtain ⟨r_6, h_5, hf⟩ := bp_e hf
    refine k_callV (As := [.int x2, .int 1]) (rest := [.int (r_4 + 1), .int (1000 * x4)]) C w (c_M_trierOf (q := q) h_5) cv_M_trierOf k1534 (mr_0 C w) (by decide) hl.1 rfl (Nat.le_of_ble_eq_true rfl) d_M_bet_143 (fun H locs w => ?_)
    show WK p l e s m av below meth c 2 g (wM g q) A (some (.int r)) σ H locs (F0 m 146 ls [.int r_6, .int (r_4 + 1), .int (1000 * x4)])
    refine lv_iconst (v := 1) hx hb d_M_bet_146 (by decide) ?_
    refine lv_iadd hx hb d_M_bet_147 ?_
    refine lv_imul hx hb d_M_bet_148 ?_
    obtain ⟨g_7, hf⟩ := gd_e hf
    refine lv_idiv hx hb d_M_bet_149 (nz_e g_7) ?_
    cases some_e hf
    exact k_iret C w d_M_bet_150
  · have hf := if_e cd hf
    refine lv_iconst (v := 0) hx hb d_M_bet_50 (by decide) ?_
    refine lv_istore (lv' := [(6, .int 0), (0, .ref (q 0)), (1, .int x1), (2, .int x2), (3, .int x3), (4, .int x4), (5, .int x5)]) hx hb d_M_bet_51 hl (by decide) rfl (fun ls hl => ?_)
    exact t_M_bet_53 C hk39 FU x1 x2 x3 x4 x5 0  _ _ _ hf w (lv_sub hl [1, 2, 3, 4, 5, 6, 0] rfl)
set_option maxHeartbeats 4000000 in
set_option maxRecDepth 20000 in
theorem t_M_bet_39 {r : Int32} {σ : St} (C : Cx g A p s m av meth c prog_13_method_77_code 9 "BellHammerModel" (some .int))  : ∀ (n : Nat) (x1 : Int32) (x2 : Int32) (x3 : Int32) (x4 : Int32) (x5 : Int32) (H : Heap) (locs : List Loc) (ls : Array Slot), f_M_bet_39   n x1 x2 x3 x4 x5 σ = some r → Wd g (wM g q) A s σ H locs → lv_has ls 9 [(0, .ref (q 0)), (1, .int x1), (2, .int x2), (3, .int x3), (4, .int x4), (5, .int x5)] → WK p l e s m av below meth c 2 g (wM g q) A (some (.int r)) σ H locs (F0 m 39 ls []) := by
  intro n
  induction n with
  | zero => intro x1 x2 x3 x4 x5 H locs ls hf; exact absurd hf (by intro z; cases z)
  | succ n ih => intro x1 x2 x3 x4 x5 H locs ls hf w hl; exact t_M_bet_39b C  ih hf w hl
set_option maxHeartbeats 4000000 in
set_option maxRecDepth 20000 in
theorem c_M_bet {l : Launch} {g : GX} {q : Nat → Nat} {x1 : Int32} {x2 : Int32} {x3 : Int32}  {σ : St} {r : Int32} (hf : f_M_bet  x1 x2 x3 σ = some r) : KK l y_M_bet prog_13_method_77_code 9 (some .int) 2 g (wM g q) σ [.ref (q 0), .int x1, .int x2, .int x3] (some (.int r)) (wM g q) σ := by
  refine KK_of (plainFor_of_name (by decide)) (Nat.le_of_ble_eq_true rfl) (fun p e s m below meth c A ls C w hl => ?_)
  have hl : lv_has ls 9 [(0, .ref (q 0)), (1, .int x1), (2, .int x2), (3, .int x3)] := hl
  obtain ⟨hx, hb, hml, hown, hts, hK, hA, hZ, hlocks, hr, hN⟩ := id C
  unfold f_M_bet at hf
  refine lv_aload_n hx hb d_M_bet_0 rfl (lv_at hl 0 rfl) ?_
  refine lv_iload_n hx hb d_M_bet_1 rfl (lv_at hl 1 rfl) ?_
  obtain ⟨r_2, h_1, hf⟩ := bp_e hf
  refine k_callV (As := [.int x1]) (rest := []) C w (c_M_isTrier (q := q) h_1) cv_M_isTrier k1530 (mr_0 C w) (by decide) hl.1 rfl (Nat.le_of_ble_eq_true rfl) d_M_bet_2 (fun H locs w => ?_)
  show WK p l e s m _ below meth c 2 g (wM g q) A (some (.int r)) σ H locs (F0 m 5 ls [.int r_2])
  refine lv_if_eq (tgt := 31) hx hb d_M_bet_5 (by decide) (fun cd => ?_) (fun cd => ?_)
  · have hf := it_e cd hf
    refine lv_iconst (v := (-1)) hx hb d_M_bet_31 (by decide) ?_
    cases some_e hf
    exact k_iret C w d_M_bet_32
  · have hf := if_e cd hf
    refine lv_aload_n hx hb d_M_bet_8 rfl (lv_at hl 0 rfl) ?_
    refine lv_iload_n hx hb d_M_bet_9 rfl (lv_at hl 2 rfl) ?_
    obtain ⟨r_4, h_3, hf⟩ := bp_e hf
    refine k_callV (As := [.int x2]) (rest := []) C w (c_M_isTrier (q := q) h_3) cv_M_isTrier k1530 (mr_0 C w) (by decide) hl.1 rfl (Nat.le_of_ble_eq_true rfl) d_M_bet_10 (fun H locs w => ?_)
    show WK p l e s m _ below meth c 2 g (wM g q) A (some (.int r)) σ H locs (F0 m 13 ls [.int r_4])
    refine lv_if_eq (tgt := 31) hx hb d_M_bet_13 (by decide) (fun cd => ?_) (fun cd => ?_)
    · have hf := it_e cd hf
      refine lv_iconst (v := (-1)) hx hb d_M_bet_31 (by decide) ?_
      cases some_e hf
      exact k_iret C w d_M_bet_32
    · have hf := if_e cd hf
      refine lv_iload_n hx hb d_M_bet_16 rfl (lv_at hl 1 rfl) ?_
      refine lv_iload_n hx hb d_M_bet_17 rfl (lv_at hl 2 rfl) ?_
      refine lv_icmp_eq (tgt := 31) hx hb d_M_bet_18 (by decide) (fun cd => ?_) (fun cd => ?_)
      · have hf := it_e cd hf
        refine lv_iconst (v := (-1)) hx hb d_M_bet_31 (by decide) ?_
        cases some_e hf
        exact k_iret C w d_M_bet_32
      · have hf := if_e cd hf
        refine lv_iload_n hx hb d_M_bet_21 rfl (lv_at hl 3 rfl) ?_
        refine lv_i2l hx hb d_M_bet_22 rfl ?_
        refine lv_lconst (v := 0) hx hb d_M_bet_23 (by decide) ?_
        refine lv_lconst (v := 1) hx hb d_M_bet_24 (by decide) ?_
        obtain ⟨r_6, h_5, hf⟩ := bp_e hf
        refine k_callS (As := [.long (x3).toInt64, .long 0, .long 1]) (rest := []) C w (c_M_isIn (q := q) h_5) cv_M_isIn k1410 (by decide) hl.1 rfl (Nat.le_of_ble_eq_true rfl) d_M_bet_25 (fun H locs w => ?_)
        show WK p l e s m _ below meth c 2 g (wM g q) A (some (.int r)) σ H locs (F0 m 28 ls [.int r_6])
        refine lv_if_ne (tgt := 33) hx hb d_M_bet_28 (by decide) (fun cd => ?_) (fun cd => ?_)
        · have hf := if_e cd hf
          refine lv_iconst (v := 0) hx hb d_M_bet_33 (by decide) ?_
          refine lv_istore (lv' := [(4, .int 0), (0, .ref (q 0)), (1, .int x1), (2, .int x2), (3, .int x3)]) hx hb d_M_bet_34 hl (by decide) rfl (fun ls hl => ?_)
          refine lv_iconst (v := 0) hx hb d_M_bet_36 (by decide) ?_
          refine lv_istore (lv' := [(5, .int 0), (4, .int 0), (0, .ref (q 0)), (1, .int x1), (2, .int x2), (3, .int x3)]) hx hb d_M_bet_37 hl (by decide) rfl (fun ls hl => ?_)
          exact t_M_bet_39 C  FU x1 x2 x3 0 0  _ _ _ hf w (lv_sub hl [2, 3, 4, 5, 1, 0] rfl)
        · have hf := it_e cd hf
          refine lv_iconst (v := (-1)) hx hb d_M_bet_31 (by decide) ?_
          cases some_e hf
          exact k_iret C w d_M_bet_32
def f_M_keeps_50b (k50 : Int32 → St → Option (St)) (x1 : Int32) (σ : St) : Option (St) :=
  if 300 ≤ x1 then
    if 20 ≤ (sI σ 26) then
      some σ
    else
      lt (uI σ 26 ((sI σ 26) + 1)) fun σ_1 =>
      some σ_1
  else
    gd (inB x1 300) <|
    gd (inB (((307 * (sI σ 27)) + 7) + x1) 6140) <|
    lt (uA σ 13 (upd (sA σ 13) (((307 * (sI σ 27)) + 7) + x1).toNatClampNeg (sA σ 12 x1.toNatClampNeg))) fun σ_4 =>
    lt ((x1 + 1)) fun x_5 =>
    k50 x_5 σ_4
def f_M_keeps_50 : Nat → Int32 → St → Option (St)
  | 0 => fun _ _ => none
  | n + 1 => f_M_keeps_50b   (f_M_keeps_50   n)
def f_M_keeps_15b (k15 : Int32 → St → Option (St)) (x1 : Int32) (σ : St) : Option (St) :=
  if 7 ≤ x1 then
    f_M_keeps_50 FU 0 σ
  else
    gd (inB x1 10) <|
    gd (inB ((307 * (sI σ 27)) + x1) 6140) <|
    lt (uA σ 13 (upd (sA σ 13) ((307 * (sI σ 27)) + x1).toNatClampNeg (sA σ 11 x1.toNatClampNeg))) fun σ_3 =>
    lt ((x1 + 1)) fun x_4 =>
    k15 x_4 σ_3
def f_M_keeps_15 : Nat → Int32 → St → Option (St)
  | 0 => fun _ _ => none
  | n + 1 => f_M_keeps_15b   (f_M_keeps_15   n)
def f_M_keeps (σ : St) : Option (St) :=
  lt (uI σ 27 (iR ((sI σ 27) + 1) 20)) fun σ_1 =>
  f_M_keeps_15 FU 0 σ_1
set_option maxHeartbeats 4000000 in
set_option maxRecDepth 20000 in
theorem t_M_keeps_50b {σ2 : St} (C : Cx g A p s m av meth c prog_13_method_78_code 2 "BellHammerModel" none) {k50 : Int32 → St → Option (St)} (hk50 : ∀ (x1 : Int32) (σ : St) (H : Heap) (locs : List Loc) (ls : Array Slot), k50 x1 σ = some σ2 → Wd g (wM g q) A s σ H locs → lv_has ls 2 [(0, .ref (q 0)), (1, .int x1)] → WK p l e s m av below meth c 0 g (wM g q) A none σ2 H locs (F0 m 50 ls []))  {x1 : Int32} {σ : St} {H : Heap} {locs : List Loc} {ls : Array Slot} (hf : f_M_keeps_50b  k50 x1 σ = some σ2) (w : Wd g (wM g q) A s σ H locs) (hl : lv_has ls 2 [(0, .ref (q 0)), (1, .int x1)]) : WK p l e s m av below meth c 0 g (wM g q) A none σ2 H locs (F0 m 50 ls []) := by
  obtain ⟨hx, hb, hml, hown, hts, hK, hA, hZ, hlocks, hr, hN⟩ := id C
  unfold f_M_keeps_50b at hf
  refine lv_iload_n hx hb d_M_keeps_50 rfl (lv_at hl 1 rfl) ?_
  refine lv_sipush (v := 300) hx hb d_M_keeps_51 (by decide) ?_
  refine lv_icmp_ge (tgt := 87) hx hb d_M_keeps_54 (by decide) (fun cd => ?_) (fun cd => ?_)
  · have hf := it_e cd hf
    refine lv_aload_n hx hb d_M_keeps_87 rfl (lv_at hl 0 rfl) ?_
    refine mg_0_undoable C w k1168 d_M_keeps_88 ?_
    refine lv_bipush (v := 20) hx hb d_M_keeps_91 (by decide) ?_
    refine lv_icmp_ge (tgt := 106) hx hb d_M_keeps_93 (by decide) (fun cd => ?_) (fun cd => ?_)
    · have hf := it_e cd hf
      cases some_e hf
      exact k_vret C w d_M_keeps_106
    · have hf := if_e cd hf
      refine lv_aload_n hx hb d_M_keeps_96 rfl (lv_at hl 0 rfl) ?_
      refine lv_dup hx hb d_M_keeps_97 rfl ?_
      refine mg_0_undoable C w k1168 d_M_keeps_98 ?_
      refine lv_iconst (v := 1) hx hb d_M_keeps_101 (by decide) ?_
      refine lv_iadd hx hb d_M_keeps_102 ?_
      refine mp_0_undoable C w k1168 d_M_keeps_103 (fun σ_1 H locs eσ_1 w => ?_)
      have hf := lt_e eσ_1 hf
      cases some_e hf
      exact k_vret C w d_M_keeps_106
  · have hf := if_e cd hf
    refine lv_aload_n hx hb d_M_keeps_57 rfl (lv_at hl 0 rfl) ?_
    refine mg_0_keptNow C w k1167 d_M_keeps_58 ?_
    refine lv_sipush (v := 307) hx hb d_M_keeps_61 (by decide) ?_
    refine lv_aload_n hx hb d_M_keeps_64 rfl (lv_at hl 0 rfl) ?_
    refine mg_0_newest C w k1169 d_M_keeps_65 ?_
    refine lv_imul hx hb d_M_keeps_68 ?_
    refine lv_bipush (v := 7) hx hb d_M_keeps_69 (by decide) ?_
    refine lv_iadd hx hb d_M_keeps_71 ?_
    refine lv_iload_n hx hb d_M_keeps_72 rfl (lv_at hl 1 rfl) ?_
    refine lv_iadd hx hb d_M_keeps_73 ?_
    refine lv_aload_n hx hb d_M_keeps_74 rfl (lv_at hl 0 rfl) ?_
    refine mg_0_blows C w k1150 d_M_keeps_75 ?_
    refine lv_iload_n hx hb d_M_keeps_78 rfl (lv_at hl 1 rfl) ?_
    obtain ⟨g_2, hf⟩ := gd_e hf
    refine ml_42 C w g_2 d_M_keeps_79 ?_
    obtain ⟨g_3, hf⟩ := gd_e hf
    refine ms_43 C w g_3 d_M_keeps_80 (fun σ_4 H locs eσ_4 w => ?_)
    have hf := lt_e eσ_4 hf
    obtain ⟨x_5, ex_5⟩ : ∃ y : Int32, y = (x1 + 1) := ⟨_, rfl⟩
    have hf := lt_e ex_5 hf
    refine lv_iinc (v := x_5) (lv' := [(1, .int x_5), (0, .ref (q 0))]) hx hb d_M_keeps_81 hl (k := 1) rfl (by rw [ex_5]; rfl) (by decide) rfl (fun ls hl => ?_)
    refine lv_goto (tgt := 50) hx hb d_M_keeps_84 (by decide) ?_
    exact hk50 x_5 σ_4 _ _ _ hf w (lv_sub hl [1, 0] rfl)
set_option maxHeartbeats 4000000 in
set_option maxRecDepth 20000 in
theorem t_M_keeps_50 {σ2 : St} (C : Cx g A p s m av meth c prog_13_method_78_code 2 "BellHammerModel" none)  : ∀ (n : Nat) (x1 : Int32) (σ : St) (H : Heap) (locs : List Loc) (ls : Array Slot), f_M_keeps_50   n x1 σ = some σ2 → Wd g (wM g q) A s σ H locs → lv_has ls 2 [(0, .ref (q 0)), (1, .int x1)] → WK p l e s m av below meth c 0 g (wM g q) A none σ2 H locs (F0 m 50 ls []) := by
  intro n
  induction n with
  | zero => intro x1 σ H locs ls hf; exact absurd hf (by intro z; cases z)
  | succ n ih => intro x1 σ H locs ls hf w hl; exact t_M_keeps_50b C  ih hf w hl
set_option maxHeartbeats 4000000 in
set_option maxRecDepth 20000 in
theorem t_M_keeps_15b {σ2 : St} (C : Cx g A p s m av meth c prog_13_method_78_code 2 "BellHammerModel" none) {k15 : Int32 → St → Option (St)} (hk15 : ∀ (x1 : Int32) (σ : St) (H : Heap) (locs : List Loc) (ls : Array Slot), k15 x1 σ = some σ2 → Wd g (wM g q) A s σ H locs → lv_has ls 2 [(0, .ref (q 0)), (1, .int x1)] → WK p l e s m av below meth c 0 g (wM g q) A none σ2 H locs (F0 m 15 ls []))  {x1 : Int32} {σ : St} {H : Heap} {locs : List Loc} {ls : Array Slot} (hf : f_M_keeps_15b  k15 x1 σ = some σ2) (w : Wd g (wM g q) A s σ H locs) (hl : lv_has ls 2 [(0, .ref (q 0)), (1, .int x1)]) : WK p l e s m av below meth c 0 g (wM g q) A none σ2 H locs (F0 m 15 ls []) := by
  obtain ⟨hx, hb, hml, hown, hts, hK, hA, hZ, hlocks, hr, hN⟩ := id C
  unfold f_M_keeps_15b at hf
  refine lv_iload_n hx hb d_M_keeps_15 rfl (lv_at hl 1 rfl) ?_
  refine lv_bipush (v := 7) hx hb d_M_keeps_16 (by decide) ?_
  refine lv_icmp_ge (tgt := 48) hx hb d_M_keeps_18 (by decide) (fun cd => ?_) (fun cd => ?_)
  · have hf := it_e cd hf
    refine lv_iconst (v := 0) hx hb d_M_keeps_48 (by decide) ?_
    refine lv_istore_n (lv' := [(1, .int 0), (0, .ref (q 0))]) hx hb d_M_keeps_49 rfl hl (by decide) rfl (fun ls hl => ?_)
    exact t_M_keeps_50 C  FU 0 σ _ _ _ hf w (lv_sub hl [1, 0] rfl)
  · have hf := if_e cd hf
    refine lv_aload_n hx hb d_M_keeps_21 rfl (lv_at hl 0 rfl) ?_
    refine mg_0_keptNow C w k1167 d_M_keeps_22 ?_
    refine lv_sipush (v := 307) hx hb d_M_keeps_25 (by decide) ?_
    refine lv_aload_n hx hb d_M_keeps_28 rfl (lv_at hl 0 rfl) ?_
    refine mg_0_newest C w k1169 d_M_keeps_29 ?_
    refine lv_imul hx hb d_M_keeps_32 ?_
    refine lv_iload_n hx hb d_M_keeps_33 rfl (lv_at hl 1 rfl) ?_
    refine lv_iadd hx hb d_M_keeps_34 ?_
    refine lv_aload_n hx hb d_M_keeps_35 rfl (lv_at hl 0 rfl) ?_
    refine mg_0_now C w k1149 d_M_keeps_36 ?_
    refine lv_iload_n hx hb d_M_keeps_39 rfl (lv_at hl 1 rfl) ?_
    obtain ⟨g_1, hf⟩ := gd_e hf
    refine ml_41 C w g_1 d_M_keeps_40 ?_
    obtain ⟨g_2, hf⟩ := gd_e hf
    refine ms_43 C w g_2 d_M_keeps_41 (fun σ_3 H locs eσ_3 w => ?_)
    have hf := lt_e eσ_3 hf
    obtain ⟨x_4, ex_4⟩ : ∃ y : Int32, y = (x1 + 1) := ⟨_, rfl⟩
    have hf := lt_e ex_4 hf
    refine lv_iinc (v := x_4) (lv' := [(1, .int x_4), (0, .ref (q 0))]) hx hb d_M_keeps_42 hl (k := 1) rfl (by rw [ex_4]; rfl) (by decide) rfl (fun ls hl => ?_)
    refine lv_goto (tgt := 15) hx hb d_M_keeps_45 (by decide) ?_
    exact hk15 x_4 σ_3 _ _ _ hf w (lv_sub hl [1, 0] rfl)
set_option maxHeartbeats 4000000 in
set_option maxRecDepth 20000 in
theorem t_M_keeps_15 {σ2 : St} (C : Cx g A p s m av meth c prog_13_method_78_code 2 "BellHammerModel" none)  : ∀ (n : Nat) (x1 : Int32) (σ : St) (H : Heap) (locs : List Loc) (ls : Array Slot), f_M_keeps_15   n x1 σ = some σ2 → Wd g (wM g q) A s σ H locs → lv_has ls 2 [(0, .ref (q 0)), (1, .int x1)] → WK p l e s m av below meth c 0 g (wM g q) A none σ2 H locs (F0 m 15 ls []) := by
  intro n
  induction n with
  | zero => intro x1 σ H locs ls hf; exact absurd hf (by intro z; cases z)
  | succ n ih => intro x1 σ H locs ls hf w hl; exact t_M_keeps_15b C  ih hf w hl
set_option maxHeartbeats 4000000 in
set_option maxRecDepth 20000 in
theorem c_M_keeps {l : Launch} {g : GX} {q : Nat → Nat}  {σ : St} {σ2 : St} (hf : f_M_keeps   σ = some σ2) : KK l y_M_keeps prog_13_method_78_code 2 none 0 g (wM g q) σ [.ref (q 0)] none (wM g q) σ2 := by
  refine KK_of (plainFor_of_name (by decide)) (Nat.le_of_ble_eq_true rfl) (fun p e s m below meth c A ls C w hl => ?_)
  have hl : lv_has ls 2 [(0, .ref (q 0))] := hl
  obtain ⟨hx, hb, hml, hown, hts, hK, hA, hZ, hlocks, hr, hN⟩ := id C
  unfold f_M_keeps at hf
  refine lv_aload_n hx hb d_M_keeps_0 rfl (lv_at hl 0 rfl) ?_
  refine lv_aload_n hx hb d_M_keeps_1 rfl (lv_at hl 0 rfl) ?_
  refine mg_0_newest C w k1169 d_M_keeps_2 ?_
  refine lv_iconst (v := 1) hx hb d_M_keeps_5 (by decide) ?_
  refine lv_iadd hx hb d_M_keeps_6 ?_
  refine lv_bipush (v := 20) hx hb d_M_keeps_7 (by decide) ?_
  refine r_irem hx hb d_M_keeps_9 (by decide) ?_
  refine mp_0_newest C w k1169 d_M_keeps_10 (fun σ_1 H locs eσ_1 w => ?_)
  have hf := lt_e eσ_1 hf
  refine lv_iconst (v := 0) hx hb d_M_keeps_13 (by decide) ?_
  refine lv_istore_n (lv' := [(1, .int 0), (0, .ref (q 0))]) hx hb d_M_keeps_14 rfl hl (by decide) rfl (fun ls hl => ?_)
  exact t_M_keeps_15 C  FU 0 σ_1 _ _ _ hf w (lv_sub hl [1, 0] rfl)
def f_M_drawOf (x1 : Int32) (σ : St) : Option (Int32 × St) :=
  lt (uJ σ 5 (lR ((1103515245 * (sJ σ 5)) + 12345) 2147483648)) fun σ_1 =>
  gd (nzJ (x1).toInt64) <|
  some (((lR ((sJ σ_1 5) / 64) (x1).toInt64)).toInt32, σ_1)
set_option maxHeartbeats 4000000 in
set_option maxRecDepth 20000 in
theorem c_M_drawOf {l : Launch} {g : GX} {q : Nat → Nat} {x1 : Int32}  {σ : St} {r : Int32} {σ2 : St} (hf : f_M_drawOf  x1 σ = some (r, σ2)) : KK l y_M_drawOf prog_13_method_82_code 2 (some .int) 0 g (wM g q) σ [.ref (q 0), .int x1] (some (.int r)) (wM g q) σ2 := by
  refine KK_of (plainFor_of_name (by decide)) (Nat.le_of_ble_eq_true rfl) (fun p e s m below meth c A ls C w hl => ?_)
  have hl : lv_has ls 2 [(0, .ref (q 0)), (1, .int x1)] := hl
  obtain ⟨hx, hb, hml, hown, hts, hK, hA, hZ, hlocks, hr, hN⟩ := id C
  unfold f_M_drawOf at hf
  refine lv_aload_n hx hb d_M_drawOf_0 rfl (lv_at hl 0 rfl) ?_
  refine lv_ldc2 (v := 1103515245) hx hb hown (hts _ k1673) d_M_drawOf_1 ?_
  refine lv_aload_n hx hb d_M_drawOf_4 rfl (lv_at hl 0 rfl) ?_
  refine mg_0_seeded C w k1170 d_M_drawOf_5 ?_
  refine lv_lmul hx hb d_M_drawOf_8 ?_
  refine lv_ldc2 (v := 12345) hx hb hown (hts _ k1674) d_M_drawOf_9 ?_
  refine lv_ladd hx hb d_M_drawOf_12 ?_
  refine lv_ldc2 (v := 2147483648) hx hb hown (hts _ k1675) d_M_drawOf_13 ?_
  refine r_lrem hx hb d_M_drawOf_16 (by decide) ?_
  refine mp_0_seeded C w k1170 d_M_drawOf_17 (fun σ_1 H locs eσ_1 w => ?_)
  have hf := lt_e eσ_1 hf
  refine lv_aload_n hx hb d_M_drawOf_20 rfl (lv_at hl 0 rfl) ?_
  refine mg_0_seeded C w k1170 d_M_drawOf_21 ?_
  refine lv_ldc2 (v := 64) hx hb hown (hts _ k1676) d_M_drawOf_24 ?_
  refine lv_ldiv hx hb d_M_drawOf_27 (by decide) ?_
  refine lv_iload_n hx hb d_M_drawOf_28 rfl (lv_at hl 1 rfl) ?_
  refine lv_i2l hx hb d_M_drawOf_29 rfl ?_
  obtain ⟨g_2, hf⟩ := gd_e hf
  refine r_lrem hx hb d_M_drawOf_30 (nzJ_e g_2) ?_
  refine lv_l2i hx hb d_M_drawOf_31 rfl ?_
  obtain ⟨rfl, rfl⟩ := some2_e hf
  exact k_iret C w d_M_drawOf_32
