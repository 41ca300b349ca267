variable {p : Program} {l : Launch} {e : Env} {s : State} {m : MethodId} {av : Array Value} {below : List Frame} {meth : Method} {c : Code} {g : GX} {q : Nat → Nat} {A : Nat → Prop}
theorem d_M_reachedBy_0 : decode prog_13_method_95_code 0 = .ok (.iconst 0, 1) := by decide +kernel
theorem d_M_reachedBy_1 : decode prog_13_method_95_code 1 = .ok (.istore_n 3, 1) := by decide +kernel
theorem d_M_reachedBy_2 : decode prog_13_method_95_code 2 = .ok (.iconst 0, 1) := by decide +kernel
theorem d_M_reachedBy_3 : decode prog_13_method_95_code 3 = .ok (.istore 4, 2) := by decide +kernel
theorem d_M_reachedBy_5 : decode prog_13_method_95_code 5 = .ok (.iload 4, 2) := by decide +kernel
theorem d_M_reachedBy_7 : decode prog_13_method_95_code 7 = .ok (.aload_n 0, 1) := by decide +kernel
theorem d_M_reachedBy_8 : decode prog_13_method_95_code 8 = .ok (.getfield 136, 3) := by decide +kernel
theorem d_M_reachedBy_11 : decode prog_13_method_95_code 11 = .ok (.bipush 6, 2) := by decide +kernel
theorem d_M_reachedBy_13 : decode prog_13_method_95_code 13 = .ok (.iaload, 1) := by decide +kernel
theorem d_M_reachedBy_14 : decode prog_13_method_95_code 14 = .ok (.if_icmp .ge 51, 3) := by decide +kernel
theorem d_M_reachedBy_17 : decode prog_13_method_95_code 17 = .ok (.iload_n 2, 1) := by decide +kernel
theorem d_M_reachedBy_18 : decode prog_13_method_95_code 18 = .ok (.iconst (-1), 1) := by decide +kernel
theorem d_M_reachedBy_19 : decode prog_13_method_95_code 19 = .ok (.if_icmp .eq 18, 3) := by decide +kernel
theorem d_M_reachedBy_22 : decode prog_13_method_95_code 22 = .ok (.aload_n 0, 1) := by decide +kernel
theorem d_M_reachedBy_23 : decode prog_13_method_95_code 23 = .ok (.getfield 139, 3) := by decide +kernel
theorem d_M_reachedBy_26 : decode prog_13_method_95_code 26 = .ok (.iconst 5, 1) := by decide +kernel
theorem d_M_reachedBy_27 : decode prog_13_method_95_code 27 = .ok (.iload 4, 2) := by decide +kernel
theorem d_M_reachedBy_29 : decode prog_13_method_95_code 29 = .ok (.imul, 1) := by decide +kernel
theorem d_M_reachedBy_30 : decode prog_13_method_95_code 30 = .ok (.iconst 1, 1) := by decide +kernel
theorem d_M_reachedBy_31 : decode prog_13_method_95_code 31 = .ok (.iadd, 1) := by decide +kernel
theorem d_M_reachedBy_32 : decode prog_13_method_95_code 32 = .ok (.iaload, 1) := by decide +kernel
theorem d_M_reachedBy_33 : decode prog_13_method_95_code 33 = .ok (.iload_n 2, 1) := by decide +kernel
theorem d_M_reachedBy_34 : decode prog_13_method_95_code 34 = .ok (.if_icmp .ne 25, 3) := by decide +kernel
theorem d_M_reachedBy_37 : decode prog_13_method_95_code 37 = .ok (.aload_n 0, 1) := by decide +kernel
theorem d_M_reachedBy_38 : decode prog_13_method_95_code 38 = .ok (.aload_n 0, 1) := by decide +kernel
theorem d_M_reachedBy_39 : decode prog_13_method_95_code 39 = .ok (.getfield 139, 3) := by decide +kernel
theorem d_M_reachedBy_42 : decode prog_13_method_95_code 42 = .ok (.iconst 5, 1) := by decide +kernel
theorem d_M_reachedBy_43 : decode prog_13_method_95_code 43 = .ok (.iload 4, 2) := by decide +kernel
theorem d_M_reachedBy_45 : decode prog_13_method_95_code 45 = .ok (.imul, 1) := by decide +kernel
theorem d_M_reachedBy_46 : decode prog_13_method_95_code 46 = .ok (.iconst 4, 1) := by decide +kernel
theorem d_M_reachedBy_47 : decode prog_13_method_95_code 47 = .ok (.iadd, 1) := by decide +kernel
theorem d_M_reachedBy_48 : decode prog_13_method_95_code 48 = .ok (.iaload, 1) := by decide +kernel
theorem d_M_reachedBy_49 : decode prog_13_method_95_code 49 = .ok (.invokevirtual 520, 3) := by decide +kernel
theorem d_M_reachedBy_52 : decode prog_13_method_95_code 52 = .ok (.iload_n 1, 1) := by decide +kernel
theorem d_M_reachedBy_53 : decode prog_13_method_95_code 53 = .ok (.if_icmp .ne 6, 3) := by decide +kernel
theorem d_M_reachedBy_56 : decode prog_13_method_95_code 56 = .ok (.iinc 3 1, 3) := by decide +kernel
theorem d_M_reachedBy_59 : decode prog_13_method_95_code 59 = .ok (.iinc 4 1, 3) := by decide +kernel
theorem d_M_reachedBy_62 : decode prog_13_method_95_code 62 = .ok (.goto (-57), 3) := by decide +kernel
theorem d_M_reachedBy_65 : decode prog_13_method_95_code 65 = .ok (.iload_n 3, 1) := by decide +kernel
theorem d_M_reachedBy_66 : decode prog_13_method_95_code 66 = .ok (.ireturn, 1) := by decide +kernel
theorem d_M_reach_0 : decode prog_13_method_96_code 0 = .ok (.iload_n 1, 1) := by decide +kernel
theorem d_M_reach_1 : decode prog_13_method_96_code 1 = .ok (.i2l, 1) := by decide +kernel
theorem d_M_reach_2 : decode prog_13_method_96_code 2 = .ok (.lconst 0, 1) := by decide +kernel
theorem d_M_reach_3 : decode prog_13_method_96_code 3 = .ok (.aload_n 0, 1) := by decide +kernel
theorem d_M_reach_4 : decode prog_13_method_96_code 4 = .ok (.getfield 102, 3) := by decide +kernel
theorem d_M_reach_7 : decode prog_13_method_96_code 7 = .ok (.iconst 3, 1) := by decide +kernel
theorem d_M_reach_8 : decode prog_13_method_96_code 8 = .ok (.iaload, 1) := by decide +kernel
theorem d_M_reach_9 : decode prog_13_method_96_code 9 = .ok (.iconst 1, 1) := by decide +kernel
theorem d_M_reach_10 : decode prog_13_method_96_code 10 = .ok (.isub, 1) := by decide +kernel
theorem d_M_reach_11 : decode prog_13_method_96_code 11 = .ok (.i2l, 1) := by decide +kernel
theorem d_M_reach_12 : decode prog_13_method_96_code 12 = .ok (.invokestatic 198, 3) := by decide +kernel
theorem d_M_reach_15 : decode prog_13_method_96_code 15 = .ok (.ifCond .eq 13, 3) := by decide +kernel
theorem d_M_reach_18 : decode prog_13_method_96_code 18 = .ok (.iload_n 2, 1) := by decide +kernel
theorem d_M_reach_19 : decode prog_13_method_96_code 19 = .ok (.i2l, 1) := by decide +kernel
theorem d_M_reach_20 : decode prog_13_method_96_code 20 = .ok (.lconst 0, 1) := by decide +kernel
theorem d_M_reach_21 : decode prog_13_method_96_code 21 = .ok (.lconst 1, 1) := by decide +kernel
theorem d_M_reach_22 : decode prog_13_method_96_code 22 = .ok (.invokestatic 198, 3) := by decide +kernel
theorem d_M_reach_25 : decode prog_13_method_96_code 25 = .ok (.ifCond .ne 5, 3) := by decide +kernel
theorem d_M_reach_28 : decode prog_13_method_96_code 28 = .ok (.iconst (-1), 1) := by decide +kernel
theorem d_M_reach_29 : decode prog_13_method_96_code 29 = .ok (.ireturn, 1) := by decide +kernel
theorem d_M_reach_30 : decode prog_13_method_96_code 30 = .ok (.iload_n 2, 1) := by decide +kernel
theorem d_M_reach_31 : decode prog_13_method_96_code 31 = .ok (.ifCond .ne 10, 3) := by decide +kernel
theorem d_M_reach_34 : decode prog_13_method_96_code 34 = .ok (.aload_n 0, 1) := by decide +kernel
theorem d_M_reach_35 : decode prog_13_method_96_code 35 = .ok (.iload_n 1, 1) := by decide +kernel
theorem d_M_reach_36 : decode prog_13_method_96_code 36 = .ok (.iconst (-1), 1) := by decide +kernel
theorem d_M_reach_37 : decode prog_13_method_96_code 37 = .ok (.invokevirtual 523, 3) := by decide +kernel
theorem d_M_reach_40 : decode prog_13_method_96_code 40 = .ok (.ireturn, 1) := by decide +kernel
theorem d_M_reach_41 : decode prog_13_method_96_code 41 = .ok (.iconst (-1), 1) := by decide +kernel
theorem d_M_reach_42 : decode prog_13_method_96_code 42 = .ok (.istore_n 3, 1) := by decide +kernel
theorem d_M_reach_43 : decode prog_13_method_96_code 43 = .ok (.iconst 0, 1) := by decide +kernel
theorem d_M_reach_44 : decode prog_13_method_96_code 44 = .ok (.istore 4, 2) := by decide +kernel
theorem d_M_reach_46 : decode prog_13_method_96_code 46 = .ok (.iconst 0, 1) := by decide +kernel
theorem d_M_reach_47 : decode prog_13_method_96_code 47 = .ok (.istore 5, 2) := by decide +kernel
theorem d_M_reach_49 : decode prog_13_method_96_code 49 = .ok (.iload 5, 2) := by decide +kernel
theorem d_M_reach_51 : decode prog_13_method_96_code 51 = .ok (.aload_n 0, 1) := by decide +kernel
theorem d_M_reach_52 : decode prog_13_method_96_code 52 = .ok (.invokevirtual 352, 3) := by decide +kernel
theorem d_M_reach_55 : decode prog_13_method_96_code 55 = .ok (.if_icmp .ge 35, 3) := by decide +kernel
theorem d_M_reach_58 : decode prog_13_method_96_code 58 = .ok (.aload_n 0, 1) := by decide +kernel
theorem d_M_reach_59 : decode prog_13_method_96_code 59 = .ok (.iload_n 1, 1) := by decide +kernel
theorem d_M_reach_60 : decode prog_13_method_96_code 60 = .ok (.iload 5, 2) := by decide +kernel
theorem d_M_reach_62 : decode prog_13_method_96_code 62 = .ok (.invokevirtual 523, 3) := by decide +kernel
theorem d_M_reach_65 : decode prog_13_method_96_code 65 = .ok (.istore 6, 2) := by decide +kernel
theorem d_M_reach_67 : decode prog_13_method_96_code 67 = .ok (.iload 6, 2) := by decide +kernel
theorem d_M_reach_69 : decode prog_13_method_96_code 69 = .ok (.iload 4, 2) := by decide +kernel
theorem d_M_reach_71 : decode prog_13_method_96_code 71 = .ok (.if_icmp .gt 6, 3) := by decide +kernel
theorem d_M_reach_74 : decode prog_13_method_96_code 74 = .ok (.goto 10, 3) := by decide +kernel
theorem d_M_reach_77 : decode prog_13_method_96_code 77 = .ok (.iload 5, 2) := by decide +kernel
theorem d_M_reach_79 : decode prog_13_method_96_code 79 = .ok (.istore_n 3, 1) := by decide +kernel
theorem d_M_reach_80 : decode prog_13_method_96_code 80 = .ok (.iload 6, 2) := by decide +kernel
theorem d_M_reach_82 : decode prog_13_method_96_code 82 = .ok (.istore 4, 2) := by decide +kernel
theorem d_M_reach_84 : decode prog_13_method_96_code 84 = .ok (.iinc 5 1, 3) := by decide +kernel
theorem d_M_reach_87 : decode prog_13_method_96_code 87 = .ok (.goto (-38), 3) := by decide +kernel
theorem d_M_reach_90 : decode prog_13_method_96_code 90 = .ok (.iload_n 3, 1) := by decide +kernel
theorem d_M_reach_91 : decode prog_13_method_96_code 91 = .ok (.ireturn, 1) := by decide +kernel
theorem d_M_checked_0 : decode prog_13_method_97_code 0 = .ok (.sipush 139, 3) := by decide +kernel
theorem d_M_checked_3 : decode prog_13_method_97_code 3 = .ok (.istore_n 2, 1) := by decide +kernel
theorem d_M_checked_4 : decode prog_13_method_97_code 4 = .ok (.iconst 0, 1) := by decide +kernel
theorem d_M_checked_5 : decode prog_13_method_97_code 5 = .ok (.istore_n 3, 1) := by decide +kernel
theorem d_M_checked_6 : decode prog_13_method_97_code 6 = .ok (.iload_n 3, 1) := by decide +kernel
theorem d_M_checked_7 : decode prog_13_method_97_code 7 = .ok (.iload_n 1, 1) := by decide +kernel
theorem d_M_checked_8 : decode prog_13_method_97_code 8 = .ok (.if_icmp .ge 21, 3) := by decide +kernel
theorem d_M_checked_11 : decode prog_13_method_97_code 11 = .ok (.iconst 3, 1) := by decide +kernel
theorem d_M_checked_12 : decode prog_13_method_97_code 12 = .ok (.iload_n 2, 1) := by decide +kernel
theorem d_M_checked_13 : decode prog_13_method_97_code 13 = .ok (.imul, 1) := by decide +kernel
theorem d_M_checked_14 : decode prog_13_method_97_code 14 = .ok (.aload_n 0, 1) := by decide +kernel
theorem d_M_checked_15 : decode prog_13_method_97_code 15 = .ok (.iload_n 3, 1) := by decide +kernel
theorem d_M_checked_16 : decode prog_13_method_97_code 16 = .ok (.iaload, 1) := by decide +kernel
theorem d_M_checked_17 : decode prog_13_method_97_code 17 = .ok (.iadd, 1) := by decide +kernel
theorem d_M_checked_18 : decode prog_13_method_97_code 18 = .ok (.sipush 253, 3) := by decide +kernel
theorem d_M_checked_21 : decode prog_13_method_97_code 21 = .ok (.irem, 1) := by decide +kernel
theorem d_M_checked_22 : decode prog_13_method_97_code 22 = .ok (.istore_n 2, 1) := by decide +kernel
theorem d_M_checked_23 : decode prog_13_method_97_code 23 = .ok (.iinc 3 1, 3) := by decide +kernel
theorem d_M_checked_26 : decode prog_13_method_97_code 26 = .ok (.goto (-20), 3) := by decide +kernel
theorem d_M_checked_29 : decode prog_13_method_97_code 29 = .ok (.iload_n 2, 1) := by decide +kernel
theorem d_M_checked_30 : decode prog_13_method_97_code 30 = .ok (.ireturn, 1) := by decide +kernel
theorem d_M_image_0 : decode prog_13_method_98_code 0 = .ok (.aload_n 0, 1) := by decide +kernel
theorem d_M_image_1 : decode prog_13_method_98_code 1 = .ok (.getfield 152, 3) := by decide +kernel
theorem d_M_image_4 : decode prog_13_method_98_code 4 = .ok (.iconst 0, 1) := by decide +kernel
theorem d_M_image_5 : decode prog_13_method_98_code 5 = .ok (.aload_n 0, 1) := by decide +kernel
theorem d_M_image_6 : decode prog_13_method_98_code 6 = .ok (.getfield 136, 3) := by decide +kernel
theorem d_M_image_9 : decode prog_13_method_98_code 9 = .ok (.iconst 0, 1) := by decide +kernel
theorem d_M_image_10 : decode prog_13_method_98_code 10 = .ok (.iaload, 1) := by decide +kernel
theorem d_M_image_11 : decode prog_13_method_98_code 11 = .ok (.sipush 256, 3) := by decide +kernel
theorem d_M_image_14 : decode prog_13_method_98_code 14 = .ok (.idiv, 1) := by decide +kernel
theorem d_M_image_15 : decode prog_13_method_98_code 15 = .ok (.iastore, 1) := by decide +kernel
theorem d_M_image_16 : decode prog_13_method_98_code 16 = .ok (.aload_n 0, 1) := by decide +kernel
theorem d_M_image_17 : decode prog_13_method_98_code 17 = .ok (.getfield 152, 3) := by decide +kernel
theorem d_M_image_20 : decode prog_13_method_98_code 20 = .ok (.iconst 1, 1) := by decide +kernel
theorem d_M_image_21 : decode prog_13_method_98_code 21 = .ok (.aload_n 0, 1) := by decide +kernel
theorem d_M_image_22 : decode prog_13_method_98_code 22 = .ok (.getfield 136, 3) := by decide +kernel
theorem d_M_image_25 : decode prog_13_method_98_code 25 = .ok (.iconst 0, 1) := by decide +kernel
theorem d_M_image_26 : decode prog_13_method_98_code 26 = .ok (.iaload, 1) := by decide +kernel
theorem d_M_image_27 : decode prog_13_method_98_code 27 = .ok (.sipush 256, 3) := by decide +kernel
theorem d_M_image_30 : decode prog_13_method_98_code 30 = .ok (.irem, 1) := by decide +kernel
theorem d_M_image_31 : decode prog_13_method_98_code 31 = .ok (.iastore, 1) := by decide +kernel
theorem d_M_image_32 : decode prog_13_method_98_code 32 = .ok (.aload_n 0, 1) := by decide +kernel
theorem d_M_image_33 : decode prog_13_method_98_code 33 = .ok (.getfield 152, 3) := by decide +kernel
theorem d_M_image_36 : decode prog_13_method_98_code 36 = .ok (.iconst 2, 1) := by decide +kernel
theorem d_M_image_37 : decode prog_13_method_98_code 37 = .ok (.aload_n 0, 1) := by decide +kernel
theorem d_M_image_38 : decode prog_13_method_98_code 38 = .ok (.getfield 136, 3) := by decide +kernel
theorem d_M_image_41 : decode prog_13_method_98_code 41 = .ok (.iconst 1, 1) := by decide +kernel
theorem d_M_image_42 : decode prog_13_method_98_code 42 = .ok (.iaload, 1) := by decide +kernel
theorem d_M_image_43 : decode prog_13_method_98_code 43 = .ok (.ldc_w 526, 3) := by decide +kernel
theorem d_M_image_46 : decode prog_13_method_98_code 46 = .ok (.idiv, 1) := by decide +kernel
theorem d_M_image_47 : decode prog_13_method_98_code 47 = .ok (.iastore, 1) := by decide +kernel
theorem d_M_image_48 : decode prog_13_method_98_code 48 = .ok (.aload_n 0, 1) := by decide +kernel
theorem d_M_image_49 : decode prog_13_method_98_code 49 = .ok (.getfield 152, 3) := by decide +kernel
theorem d_M_image_52 : decode prog_13_method_98_code 52 = .ok (.iconst 3, 1) := by decide +kernel
theorem d_M_image_53 : decode prog_13_method_98_code 53 = .ok (.aload_n 0, 1) := by decide +kernel
theorem d_M_image_54 : decode prog_13_method_98_code 54 = .ok (.getfield 136, 3) := by decide +kernel
theorem d_M_image_57 : decode prog_13_method_98_code 57 = .ok (.iconst 1, 1) := by decide +kernel
theorem d_M_image_58 : decode prog_13_method_98_code 58 = .ok (.iaload, 1) := by decide +kernel
theorem d_M_image_59 : decode prog_13_method_98_code 59 = .ok (.sipush 256, 3) := by decide +kernel
theorem d_M_image_62 : decode prog_13_method_98_code 62 = .ok (.idiv, 1) := by decide +kernel
theorem d_M_image_63 : decode prog_13_method_98_code 63 = .ok (.sipush 256, 3) := by decide +kernel
theorem d_M_image_66 : decode prog_13_method_98_code 66 = .ok (.irem, 1) := by decide +kernel
theorem d_M_image_67 : decode prog_13_method_98_code 67 = .ok (.iastore, 1) := by decide +kernel
theorem d_M_image_68 : decode prog_13_method_98_code 68 = .ok (.aload_n 0, 1) := by decide +kernel
theorem d_M_image_69 : decode prog_13_method_98_code 69 = .ok (.getfield 152, 3) := by decide +kernel
theorem d_M_image_72 : decode prog_13_method_98_code 72 = .ok (.iconst 4, 1) := by decide +kernel
theorem d_M_image_73 : decode prog_13_method_98_code 73 = .ok (.aload_n 0, 1) := by decide +kernel
theorem d_M_image_74 : decode prog_13_method_98_code 74 = .ok (.getfield 136, 3) := by decide +kernel
theorem d_M_image_77 : decode prog_13_method_98_code 77 = .ok (.iconst 1, 1) := by decide +kernel
theorem d_M_image_78 : decode prog_13_method_98_code 78 = .ok (.iaload, 1) := by decide +kernel
theorem d_M_image_79 : decode prog_13_method_98_code 79 = .ok (.sipush 256, 3) := by decide +kernel
theorem d_M_image_82 : decode prog_13_method_98_code 82 = .ok (.irem, 1) := by decide +kernel
theorem d_M_image_83 : decode prog_13_method_98_code 83 = .ok (.iastore, 1) := by decide +kernel
theorem d_M_image_84 : decode prog_13_method_98_code 84 = .ok (.iconst 0, 1) := by decide +kernel
theorem d_M_image_85 : decode prog_13_method_98_code 85 = .ok (.istore_n 1, 1) := by decide +kernel
theorem d_M_image_86 : decode prog_13_method_98_code 86 = .ok (.iload_n 1, 1) := by decide +kernel
theorem d_M_image_87 : decode prog_13_method_98_code 87 = .ok (.iconst 4, 1) := by decide +kernel
theorem d_M_image_88 : decode prog_13_method_98_code 88 = .ok (.if_icmp .ge 25, 3) := by decide +kernel
theorem d_M_image_91 : decode prog_13_method_98_code 91 = .ok (.aload_n 0, 1) := by decide +kernel
theorem d_M_image_92 : decode prog_13_method_98_code 92 = .ok (.getfield 152, 3) := by decide +kernel
theorem d_M_image_95 : decode prog_13_method_98_code 95 = .ok (.iconst 5, 1) := by decide +kernel
theorem d_M_image_96 : decode prog_13_method_98_code 96 = .ok (.iload_n 1, 1) := by decide +kernel
theorem d_M_image_97 : decode prog_13_method_98_code 97 = .ok (.iadd, 1) := by decide +kernel
theorem d_M_image_98 : decode prog_13_method_98_code 98 = .ok (.aload_n 0, 1) := by decide +kernel
theorem d_M_image_99 : decode prog_13_method_98_code 99 = .ok (.getfield 136, 3) := by decide +kernel
theorem d_M_image_102 : decode prog_13_method_98_code 102 = .ok (.iconst 2, 1) := by decide +kernel
theorem d_M_image_103 : decode prog_13_method_98_code 103 = .ok (.iload_n 1, 1) := by decide +kernel
theorem d_M_image_104 : decode prog_13_method_98_code 104 = .ok (.iadd, 1) := by decide +kernel
theorem d_M_image_105 : decode prog_13_method_98_code 105 = .ok (.iaload, 1) := by decide +kernel
theorem d_M_image_106 : decode prog_13_method_98_code 106 = .ok (.iastore, 1) := by decide +kernel
theorem d_M_image_107 : decode prog_13_method_98_code 107 = .ok (.iinc 1 1, 3) := by decide +kernel
theorem d_M_image_110 : decode prog_13_method_98_code 110 = .ok (.goto (-24), 3) := by decide +kernel
theorem d_M_image_113 : decode prog_13_method_98_code 113 = .ok (.aload_n 0, 1) := by decide +kernel
theorem d_M_image_114 : decode prog_13_method_98_code 114 = .ok (.getfield 152, 3) := by decide +kernel
theorem d_M_image_117 : decode prog_13_method_98_code 117 = .ok (.bipush 9, 2) := by decide +kernel
theorem d_M_image_119 : decode prog_13_method_98_code 119 = .ok (.aload_n 0, 1) := by decide +kernel
theorem d_M_image_120 : decode prog_13_method_98_code 120 = .ok (.getfield 152, 3) := by decide +kernel
theorem d_M_image_123 : decode prog_13_method_98_code 123 = .ok (.bipush 9, 2) := by decide +kernel
theorem d_M_image_125 : decode prog_13_method_98_code 125 = .ok (.invokestatic 527, 3) := by decide +kernel
theorem d_M_image_128 : decode prog_13_method_98_code 128 = .ok (.iastore, 1) := by decide +kernel
theorem d_M_image_129 : decode prog_13_method_98_code 129 = .ok (.aload_n 0, 1) := by decide +kernel
theorem d_M_image_130 : decode prog_13_method_98_code 130 = .ok (.bipush 10, 2) := by decide +kernel
theorem d_M_image_132 : decode prog_13_method_98_code 132 = .ok (.putfield 531, 3) := by decide +kernel
theorem d_M_image_135 : decode prog_13_method_98_code 135 = .ok (.aload_n 0, 1) := by decide +kernel
theorem d_M_image_136 : decode prog_13_method_98_code 136 = .ok (.getfield 531, 3) := by decide +kernel
theorem d_M_image_139 : decode prog_13_method_98_code 139 = .ok (.ireturn, 1) := by decide +kernel
theorem d_M_octet_0 : decode prog_13_method_99_code 0 = .ok (.iload_n 1, 1) := by decide +kernel
theorem d_M_octet_1 : decode prog_13_method_99_code 1 = .ok (.ifCond .lt 20, 3) := by decide +kernel
theorem d_M_octet_4 : decode prog_13_method_99_code 4 = .ok (.iload_n 1, 1) := by decide +kernel
theorem d_M_octet_5 : decode prog_13_method_99_code 5 = .ok (.aload_n 0, 1) := by decide +kernel
theorem d_M_octet_6 : decode prog_13_method_99_code 6 = .ok (.getfield 531, 3) := by decide +kernel
theorem d_M_octet_9 : decode prog_13_method_99_code 9 = .ok (.if_icmp .ge 12, 3) := by decide +kernel
theorem d_M_octet_12 : decode prog_13_method_99_code 12 = .ok (.aload_n 0, 1) := by decide +kernel
theorem d_M_octet_13 : decode prog_13_method_99_code 13 = .ok (.getfield 152, 3) := by decide +kernel
theorem d_M_octet_16 : decode prog_13_method_99_code 16 = .ok (.iload_n 1, 1) := by decide +kernel
theorem d_M_octet_17 : decode prog_13_method_99_code 17 = .ok (.iaload, 1) := by decide +kernel
theorem d_M_octet_18 : decode prog_13_method_99_code 18 = .ok (.goto 4, 3) := by decide +kernel
theorem d_M_octet_21 : decode prog_13_method_99_code 21 = .ok (.iconst (-1), 1) := by decide +kernel
theorem d_M_octet_22 : decode prog_13_method_99_code 22 = .ok (.ireturn, 1) := by decide +kernel
theorem d_M_isTold_0 : decode prog_13_method_100_code 0 = .ok (.iload_n 1, 1) := by decide +kernel
theorem d_M_isTold_1 : decode prog_13_method_100_code 1 = .ok (.bipush 10, 2) := by decide +kernel
theorem d_M_isTold_3 : decode prog_13_method_100_code 3 = .ok (.if_icmp .ne 22, 3) := by decide +kernel
theorem d_M_isTold_6 : decode prog_13_method_100_code 6 = .ok (.aload_n 0, 1) := by decide +kernel
theorem d_M_isTold_7 : decode prog_13_method_100_code 7 = .ok (.getfield 7, 3) := by decide +kernel
theorem d_M_isTold_10 : decode prog_13_method_100_code 10 = .ok (.bipush 9, 2) := by decide +kernel
theorem d_M_isTold_12 : decode prog_13_method_100_code 12 = .ok (.iaload, 1) := by decide +kernel
theorem d_M_isTold_13 : decode prog_13_method_100_code 13 = .ok (.aload_n 0, 1) := by decide +kernel
theorem d_M_isTold_14 : decode prog_13_method_100_code 14 = .ok (.getfield 7, 3) := by decide +kernel
theorem d_M_isTold_17 : decode prog_13_method_100_code 17 = .ok (.bipush 9, 2) := by decide +kernel
theorem d_M_isTold_19 : decode prog_13_method_100_code 19 = .ok (.invokestatic 527, 3) := by decide +kernel
theorem d_M_isTold_22 : decode prog_13_method_100_code 22 = .ok (.if_icmp .eq 5, 3) := by decide +kernel
theorem d_M_isTold_25 : decode prog_13_method_100_code 25 = .ok (.iconst 0, 1) := by decide +kernel
theorem d_M_isTold_26 : decode prog_13_method_100_code 26 = .ok (.ireturn, 1) := by decide +kernel
theorem d_M_isTold_27 : decode prog_13_method_100_code 27 = .ok (.sipush 256, 3) := by decide +kernel
theorem d_M_isTold_30 : decode prog_13_method_100_code 30 = .ok (.aload_n 0, 1) := by decide +kernel
theorem d_M_isTold_31 : decode prog_13_method_100_code 31 = .ok (.getfield 7, 3) := by decide +kernel
theorem d_M_isTold_34 : decode prog_13_method_100_code 34 = .ok (.iconst 0, 1) := by decide +kernel
theorem d_M_isTold_35 : decode prog_13_method_100_code 35 = .ok (.iaload, 1) := by decide +kernel
theorem d_M_isTold_36 : decode prog_13_method_100_code 36 = .ok (.imul, 1) := by decide +kernel
theorem d_M_isTold_37 : decode prog_13_method_100_code 37 = .ok (.aload_n 0, 1) := by decide +kernel
theorem d_M_isTold_38 : decode prog_13_method_100_code 38 = .ok (.getfield 7, 3) := by decide +kernel
theorem d_M_isTold_41 : decode prog_13_method_100_code 41 = .ok (.iconst 1, 1) := by decide +kernel
theorem d_M_isTold_42 : decode prog_13_method_100_code 42 = .ok (.iaload, 1) := by decide +kernel
theorem d_M_isTold_43 : decode prog_13_method_100_code 43 = .ok (.iadd, 1) := by decide +kernel
theorem d_M_isTold_44 : decode prog_13_method_100_code 44 = .ok (.istore_n 2, 1) := by decide +kernel
theorem d_M_isTold_45 : decode prog_13_method_100_code 45 = .ok (.ldc_w 526, 3) := by decide +kernel
theorem d_M_isTold_48 : decode prog_13_method_100_code 48 = .ok (.aload_n 0, 1) := by decide +kernel
theorem d_M_isTold_49 : decode prog_13_method_100_code 49 = .ok (.getfield 7, 3) := by decide +kernel
theorem d_M_isTold_52 : decode prog_13_method_100_code 52 = .ok (.iconst 2, 1) := by decide +kernel
theorem d_M_isTold_53 : decode prog_13_method_100_code 53 = .ok (.iaload, 1) := by decide +kernel
theorem d_M_isTold_54 : decode prog_13_method_100_code 54 = .ok (.imul, 1) := by decide +kernel
theorem d_M_isTold_55 : decode prog_13_method_100_code 55 = .ok (.sipush 256, 3) := by decide +kernel
theorem d_M_isTold_58 : decode prog_13_method_100_code 58 = .ok (.aload_n 0, 1) := by decide +kernel
theorem d_M_isTold_59 : decode prog_13_method_100_code 59 = .ok (.getfield 7, 3) := by decide +kernel
theorem d_M_isTold_62 : decode prog_13_method_100_code 62 = .ok (.iconst 3, 1) := by decide +kernel
theorem d_M_isTold_63 : decode prog_13_method_100_code 63 = .ok (.iaload, 1) := by decide +kernel
theorem d_M_isTold_64 : decode prog_13_method_100_code 64 = .ok (.imul, 1) := by decide +kernel
theorem d_M_isTold_65 : decode prog_13_method_100_code 65 = .ok (.iadd, 1) := by decide +kernel
theorem d_M_isTold_66 : decode prog_13_method_100_code 66 = .ok (.aload_n 0, 1) := by decide +kernel
theorem d_M_isTold_67 : decode prog_13_method_100_code 67 = .ok (.getfield 7, 3) := by decide +kernel
theorem d_M_isTold_70 : decode prog_13_method_100_code 70 = .ok (.iconst 4, 1) := by decide +kernel
theorem d_M_isTold_71 : decode prog_13_method_100_code 71 = .ok (.iaload, 1) := by decide +kernel
theorem d_M_isTold_72 : decode prog_13_method_100_code 72 = .ok (.iadd, 1) := by decide +kernel
theorem d_M_isTold_73 : decode prog_13_method_100_code 73 = .ok (.istore_n 3, 1) := by decide +kernel
theorem d_M_isTold_74 : decode prog_13_method_100_code 74 = .ok (.iload_n 2, 1) := by decide +kernel
theorem d_M_isTold_75 : decode prog_13_method_100_code 75 = .ok (.sipush 999, 3) := by decide +kernel
theorem d_M_isTold_78 : decode prog_13_method_100_code 78 = .ok (.if_icmp .gt 79, 3) := by decide +kernel
theorem d_M_isTold_81 : decode prog_13_method_100_code 81 = .ok (.iload_n 3, 1) := by decide +kernel
theorem d_M_isTold_82 : decode prog_13_method_100_code 82 = .ok (.sipush 288, 3) := by decide +kernel
theorem d_M_isTold_85 : decode prog_13_method_100_code 85 = .ok (.iload_n 2, 1) := by decide +kernel
theorem d_M_isTold_86 : decode prog_13_method_100_code 86 = .ok (.imul, 1) := by decide +kernel
theorem d_M_isTold_87 : decode prog_13_method_100_code 87 = .ok (.if_icmp .gt 70, 3) := by decide +kernel
theorem d_M_isTold_90 : decode prog_13_method_100_code 90 = .ok (.aload_n 0, 1) := by decide +kernel
theorem d_M_isTold_91 : decode prog_13_method_100_code 91 = .ok (.getfield 7, 3) := by decide +kernel
theorem d_M_isTold_94 : decode prog_13_method_100_code 94 = .ok (.iconst 5, 1) := by decide +kernel
theorem d_M_isTold_95 : decode prog_13_method_100_code 95 = .ok (.iaload, 1) := by decide +kernel
theorem d_M_isTold_96 : decode prog_13_method_100_code 96 = .ok (.iconst 1, 1) := by decide +kernel
theorem d_M_isTold_97 : decode prog_13_method_100_code 97 = .ok (.aload_n 0, 1) := by decide +kernel
theorem d_M_isTold_98 : decode prog_13_method_100_code 98 = .ok (.invokevirtual 387, 3) := by decide +kernel
theorem d_M_isTold_101 : decode prog_13_method_100_code 101 = .ok (.ishl, 1) := by decide +kernel
theorem d_M_isTold_102 : decode prog_13_method_100_code 102 = .ok (.if_icmp .ge 55, 3) := by decide +kernel
theorem d_M_isTold_105 : decode prog_13_method_100_code 105 = .ok (.aload_n 0, 1) := by decide +kernel
theorem d_M_isTold_106 : decode prog_13_method_100_code 106 = .ok (.getfield 7, 3) := by decide +kernel
theorem d_M_isTold_109 : decode prog_13_method_100_code 109 = .ok (.bipush 6, 2) := by decide +kernel
theorem d_M_isTold_111 : decode prog_13_method_100_code 111 = .ok (.iaload, 1) := by decide +kernel
theorem d_M_isTold_112 : decode prog_13_method_100_code 112 = .ok (.i2l, 1) := by decide +kernel
theorem d_M_isTold_113 : decode prog_13_method_100_code 113 = .ok (.lconst 1, 1) := by decide +kernel
theorem d_M_isTold_114 : decode prog_13_method_100_code 114 = .ok (.ldc2_w 418, 3) := by decide +kernel
theorem d_M_isTold_117 : decode prog_13_method_100_code 117 = .ok (.invokestatic 198, 3) := by decide +kernel
theorem d_M_isTold_120 : decode prog_13_method_100_code 120 = .ok (.ifCond .eq 37, 3) := by decide +kernel
theorem d_M_isTold_123 : decode prog_13_method_100_code 123 = .ok (.aload_n 0, 1) := by decide +kernel
theorem d_M_isTold_124 : decode prog_13_method_100_code 124 = .ok (.getfield 7, 3) := by decide +kernel
theorem d_M_isTold_127 : decode prog_13_method_100_code 127 = .ok (.bipush 7, 2) := by decide +kernel
theorem d_M_isTold_129 : decode prog_13_method_100_code 129 = .ok (.iaload, 1) := by decide +kernel
theorem d_M_isTold_130 : decode prog_13_method_100_code 130 = .ok (.bipush 90, 2) := by decide +kernel
theorem d_M_isTold_132 : decode prog_13_method_100_code 132 = .ok (.if_icmp .gt 25, 3) := by decide +kernel
theorem d_M_isTold_135 : decode prog_13_method_100_code 135 = .ok (.aload_n 0, 1) := by decide +kernel
theorem d_M_isTold_136 : decode prog_13_method_100_code 136 = .ok (.getfield 7, 3) := by decide +kernel
theorem d_M_isTold_139 : decode prog_13_method_100_code 139 = .ok (.bipush 8, 2) := by decide +kernel
theorem d_M_isTold_141 : decode prog_13_method_100_code 141 = .ok (.iaload, 1) := by decide +kernel
theorem d_M_isTold_142 : decode prog_13_method_100_code 142 = .ok (.i2l, 1) := by decide +kernel
theorem d_M_isTold_143 : decode prog_13_method_100_code 143 = .ok (.lconst 1, 1) := by decide +kernel
theorem d_M_isTold_144 : decode prog_13_method_100_code 144 = .ok (.ldc2_w 422, 3) := by decide +kernel
theorem d_M_isTold_147 : decode prog_13_method_100_code 147 = .ok (.invokestatic 198, 3) := by decide +kernel
theorem d_M_isTold_150 : decode prog_13_method_100_code 150 = .ok (.ifCond .eq 7, 3) := by decide +kernel
theorem d_M_isTold_153 : decode prog_13_method_100_code 153 = .ok (.iconst 1, 1) := by decide +kernel
theorem d_M_isTold_154 : decode prog_13_method_100_code 154 = .ok (.goto 4, 3) := by decide +kernel
theorem d_M_isTold_157 : decode prog_13_method_100_code 157 = .ok (.iconst 0, 1) := by decide +kernel
theorem d_M_isTold_158 : decode prog_13_method_100_code 158 = .ok (.ireturn, 1) := by decide +kernel
theorem d_M_on_0 : decode prog_13_method_101_code 0 = .ok (.aload_n 0, 1) := by decide +kernel
theorem d_M_on_1 : decode prog_13_method_101_code 1 = .ok (.getfield 155, 3) := by decide +kernel
theorem d_M_on_4 : decode prog_13_method_101_code 4 = .ok (.istore_n 1, 1) := by decide +kernel
theorem d_M_on_5 : decode prog_13_method_101_code 5 = .ok (.aload_n 0, 1) := by decide +kernel
theorem d_M_on_6 : decode prog_13_method_101_code 6 = .ok (.iconst 0, 1) := by decide +kernel
theorem d_M_on_7 : decode prog_13_method_101_code 7 = .ok (.putfield 155, 3) := by decide +kernel
theorem d_M_on_10 : decode prog_13_method_101_code 10 = .ok (.aload_n 0, 1) := by decide +kernel
theorem d_M_on_11 : decode prog_13_method_101_code 11 = .ok (.iload_n 1, 1) := by decide +kernel
theorem d_M_on_12 : decode prog_13_method_101_code 12 = .ok (.invokevirtual 534, 3) := by decide +kernel
theorem d_M_on_15 : decode prog_13_method_101_code 15 = .ok (.ifCond .ne 15, 3) := by decide +kernel
theorem d_M_on_18 : decode prog_13_method_101_code 18 = .ok (.aload_n 0, 1) := by decide +kernel
theorem d_M_on_19 : decode prog_13_method_101_code 19 = .ok (.getfield 17, 3) := by decide +kernel
theorem d_M_on_22 : decode prog_13_method_101_code 22 = .ok (.iconst 5, 1) := by decide +kernel
theorem d_M_on_23 : decode prog_13_method_101_code 23 = .ok (.dup2, 1) := by decide +kernel
theorem d_M_on_24 : decode prog_13_method_101_code 24 = .ok (.iaload, 1) := by decide +kernel
theorem d_M_on_25 : decode prog_13_method_101_code 25 = .ok (.iconst 1, 1) := by decide +kernel
theorem d_M_on_26 : decode prog_13_method_101_code 26 = .ok (.iadd, 1) := by decide +kernel
theorem d_M_on_27 : decode prog_13_method_101_code 27 = .ok (.iastore, 1) := by decide +kernel
theorem d_M_on_28 : decode prog_13_method_101_code 28 = .ok (.iconst 0, 1) := by decide +kernel
theorem d_M_on_29 : decode prog_13_method_101_code 29 = .ok (.ireturn, 1) := by decide +kernel
theorem d_M_on_30 : decode prog_13_method_101_code 30 = .ok (.aload_n 0, 1) := by decide +kernel
theorem d_M_on_31 : decode prog_13_method_101_code 31 = .ok (.getfield 136, 3) := by decide +kernel
theorem d_M_on_34 : decode prog_13_method_101_code 34 = .ok (.iconst 0, 1) := by decide +kernel
theorem d_M_on_35 : decode prog_13_method_101_code 35 = .ok (.sipush 256, 3) := by decide +kernel
theorem d_M_on_38 : decode prog_13_method_101_code 38 = .ok (.aload_n 0, 1) := by decide +kernel
theorem d_M_on_39 : decode prog_13_method_101_code 39 = .ok (.getfield 7, 3) := by decide +kernel
theorem d_M_on_42 : decode prog_13_method_101_code 42 = .ok (.iconst 0, 1) := by decide +kernel
theorem d_M_on_43 : decode prog_13_method_101_code 43 = .ok (.iaload, 1) := by decide +kernel
theorem d_M_on_44 : decode prog_13_method_101_code 44 = .ok (.imul, 1) := by decide +kernel
theorem d_M_on_45 : decode prog_13_method_101_code 45 = .ok (.aload_n 0, 1) := by decide +kernel
theorem d_M_on_46 : decode prog_13_method_101_code 46 = .ok (.getfield 7, 3) := by decide +kernel
theorem d_M_on_49 : decode prog_13_method_101_code 49 = .ok (.iconst 1, 1) := by decide +kernel
theorem d_M_on_50 : decode prog_13_method_101_code 50 = .ok (.iaload, 1) := by decide +kernel
theorem d_M_on_51 : decode prog_13_method_101_code 51 = .ok (.iadd, 1) := by decide +kernel
theorem d_M_on_52 : decode prog_13_method_101_code 52 = .ok (.iastore, 1) := by decide +kernel
theorem d_M_on_53 : decode prog_13_method_101_code 53 = .ok (.aload_n 0, 1) := by decide +kernel
theorem d_M_on_54 : decode prog_13_method_101_code 54 = .ok (.getfield 136, 3) := by decide +kernel
theorem d_M_on_57 : decode prog_13_method_101_code 57 = .ok (.iconst 1, 1) := by decide +kernel
theorem d_M_on_58 : decode prog_13_method_101_code 58 = .ok (.ldc_w 526, 3) := by decide +kernel
theorem d_M_on_61 : decode prog_13_method_101_code 61 = .ok (.aload_n 0, 1) := by decide +kernel
theorem d_M_on_62 : decode prog_13_method_101_code 62 = .ok (.getfield 7, 3) := by decide +kernel
theorem d_M_on_65 : decode prog_13_method_101_code 65 = .ok (.iconst 2, 1) := by decide +kernel
theorem d_M_on_66 : decode prog_13_method_101_code 66 = .ok (.iaload, 1) := by decide +kernel
theorem d_M_on_67 : decode prog_13_method_101_code 67 = .ok (.imul, 1) := by decide +kernel
theorem d_M_on_68 : decode prog_13_method_101_code 68 = .ok (.sipush 256, 3) := by decide +kernel
theorem d_M_on_71 : decode prog_13_method_101_code 71 = .ok (.aload_n 0, 1) := by decide +kernel
theorem d_M_on_72 : decode prog_13_method_101_code 72 = .ok (.getfield 7, 3) := by decide +kernel
theorem d_M_on_75 : decode prog_13_method_101_code 75 = .ok (.iconst 3, 1) := by decide +kernel
theorem d_M_on_76 : decode prog_13_method_101_code 76 = .ok (.iaload, 1) := by decide +kernel
theorem d_M_on_77 : decode prog_13_method_101_code 77 = .ok (.imul, 1) := by decide +kernel
theorem d_M_on_78 : decode prog_13_method_101_code 78 = .ok (.iadd, 1) := by decide +kernel
theorem d_M_on_79 : decode prog_13_method_101_code 79 = .ok (.aload_n 0, 1) := by decide +kernel
theorem d_M_on_80 : decode prog_13_method_101_code 80 = .ok (.getfield 7, 3) := by decide +kernel
theorem d_M_on_83 : decode prog_13_method_101_code 83 = .ok (.iconst 4, 1) := by decide +kernel
theorem d_M_on_84 : decode prog_13_method_101_code 84 = .ok (.iaload, 1) := by decide +kernel
theorem d_M_on_85 : decode prog_13_method_101_code 85 = .ok (.iadd, 1) := by decide +kernel
theorem d_M_on_86 : decode prog_13_method_101_code 86 = .ok (.iastore, 1) := by decide +kernel
theorem d_M_on_87 : decode prog_13_method_101_code 87 = .ok (.iconst 0, 1) := by decide +kernel
theorem d_M_on_88 : decode prog_13_method_101_code 88 = .ok (.istore_n 2, 1) := by decide +kernel
theorem d_M_on_89 : decode prog_13_method_101_code 89 = .ok (.iload_n 2, 1) := by decide +kernel
theorem d_M_on_90 : decode prog_13_method_101_code 90 = .ok (.iconst 4, 1) := by decide +kernel
theorem d_M_on_91 : decode prog_13_method_101_code 91 = .ok (.if_icmp .ge 25, 3) := by decide +kernel
theorem d_M_on_94 : decode prog_13_method_101_code 94 = .ok (.aload_n 0, 1) := by decide +kernel
theorem d_M_on_95 : decode prog_13_method_101_code 95 = .ok (.getfield 136, 3) := by decide +kernel
theorem d_M_on_98 : decode prog_13_method_101_code 98 = .ok (.iconst 2, 1) := by decide +kernel
theorem d_M_on_99 : decode prog_13_method_101_code 99 = .ok (.iload_n 2, 1) := by decide +kernel
theorem d_M_on_100 : decode prog_13_method_101_code 100 = .ok (.iadd, 1) := by decide +kernel
theorem d_M_on_101 : decode prog_13_method_101_code 101 = .ok (.aload_n 0, 1) := by decide +kernel
theorem d_M_on_102 : decode prog_13_method_101_code 102 = .ok (.getfield 7, 3) := by decide +kernel
theorem d_M_on_105 : decode prog_13_method_101_code 105 = .ok (.iconst 5, 1) := by decide +kernel
theorem d_M_on_106 : decode prog_13_method_101_code 106 = .ok (.iload_n 2, 1) := by decide +kernel
theorem d_M_on_107 : decode prog_13_method_101_code 107 = .ok (.iadd, 1) := by decide +kernel
theorem d_M_on_108 : decode prog_13_method_101_code 108 = .ok (.iaload, 1) := by decide +kernel
theorem d_M_on_109 : decode prog_13_method_101_code 109 = .ok (.iastore, 1) := by decide +kernel
theorem d_M_on_110 : decode prog_13_method_101_code 110 = .ok (.iinc 2 1, 3) := by decide +kernel
theorem d_M_on_113 : decode prog_13_method_101_code 113 = .ok (.goto (-24), 3) := by decide +kernel
theorem d_M_on_116 : decode prog_13_method_101_code 116 = .ok (.aload_n 0, 1) := by decide +kernel
theorem d_M_on_117 : decode prog_13_method_101_code 117 = .ok (.getfield 136, 3) := by decide +kernel
theorem d_M_on_120 : decode prog_13_method_101_code 120 = .ok (.bipush 6, 2) := by decide +kernel
theorem d_M_on_122 : decode prog_13_method_101_code 122 = .ok (.iconst 0, 1) := by decide +kernel
theorem d_M_on_123 : decode prog_13_method_101_code 123 = .ok (.iastore, 1) := by decide +kernel
theorem d_M_on_124 : decode prog_13_method_101_code 124 = .ok (.aload_n 0, 1) := by decide +kernel
theorem d_M_on_125 : decode prog_13_method_101_code 125 = .ok (.iconst 0, 1) := by decide +kernel
theorem d_M_on_126 : decode prog_13_method_101_code 126 = .ok (.putfield 278, 3) := by decide +kernel
theorem d_M_on_129 : decode prog_13_method_101_code 129 = .ok (.iconst 1, 1) := by decide +kernel
theorem d_M_on_130 : decode prog_13_method_101_code 130 = .ok (.ireturn, 1) := by decide +kernel
theorem d_M_status_0 : decode prog_13_method_102_code 0 = .ok (.iload_n 1, 1) := by decide +kernel
theorem d_M_status_1 : decode prog_13_method_102_code 1 = .ok (.i2l, 1) := by decide +kernel
theorem d_M_status_2 : decode prog_13_method_102_code 2 = .ok (.lconst 0, 1) := by decide +kernel
theorem d_M_status_3 : decode prog_13_method_102_code 3 = .ok (.ldc2_w 413, 3) := by decide +kernel
theorem d_M_status_6 : decode prog_13_method_102_code 6 = .ok (.invokestatic 198, 3) := by decide +kernel
theorem d_M_status_9 : decode prog_13_method_102_code 9 = .ok (.ifCond .eq 12, 3) := by decide +kernel
theorem d_M_status_12 : decode prog_13_method_102_code 12 = .ok (.aload_n 0, 1) := by decide +kernel
theorem d_M_status_13 : decode prog_13_method_102_code 13 = .ok (.getfield 17, 3) := by decide +kernel
theorem d_M_status_16 : decode prog_13_method_102_code 16 = .ok (.iload_n 1, 1) := by decide +kernel
theorem d_M_status_17 : decode prog_13_method_102_code 17 = .ok (.iaload, 1) := by decide +kernel
theorem d_M_status_18 : decode prog_13_method_102_code 18 = .ok (.goto 4, 3) := by decide +kernel
theorem d_M_status_21 : decode prog_13_method_102_code 21 = .ok (.iconst (-1), 1) := by decide +kernel
theorem d_M_status_22 : decode prog_13_method_102_code 22 = .ok (.ireturn, 1) := by decide +kernel
def f_M_reachedBy_37 (k5 : Int32 → Int32 → Int32 → Int32 → St → Option (Int32)) (x1 : Int32) (x2 : Int32) (x3 : Int32) (x4 : Int32) (σ : St) : Option (Int32) :=
  gd (inB ((5 * x4) + 4) 300) <|
  bp (f_M_past (sA σ 12 ((5 * x4) + 4).toNatClampNeg) σ) fun r_3 =>
  if r_3 = x1 then
    lt ((x3 + 1)) fun x_5 =>
    lt ((x4 + 1)) fun x_6 =>
    k5 x1 x2 x_5 x_6 σ
  else
    lt ((x4 + 1)) fun x_4 =>
    k5 x1 x2 x3 x_4 σ
def f_M_reachedBy_5b (k5 : Int32 → Int32 → Int32 → Int32 → St → Option (Int32)) (x1 : Int32) (x2 : Int32) (x3 : Int32) (x4 : Int32) (σ : St) : Option (Int32) :=
  if (sA σ 11 (6 : Int32).toNatClampNeg) ≤ x4 then
    some x3
  else
    if x2 = (-1) then
      f_M_reachedBy_37 k5 x1 x2 x3 x4 σ
    else
      gd (inB ((5 * x4) + 1) 300) <|
      if (sA σ 12 ((5 * x4) + 1).toNatClampNeg) = x2 then
        f_M_reachedBy_37 k5 x1 x2 x3 x4 σ
      else
        lt ((x4 + 1)) fun x_2 =>
        k5 x1 x2 x3 x_2 σ
def f_M_reachedBy_5 : Nat → Int32 → Int32 → Int32 → Int32 → St → Option (Int32)
  | 0 => fun _ _ _ _ _ => none
  | n + 1 => f_M_reachedBy_5b   (f_M_reachedBy_5   n)
def f_M_reachedBy (x1 : Int32) (x2 : Int32) (σ : St) : Option (Int32) :=
  f_M_reachedBy_5 FU x1 x2 0 0 σ
set_option maxHeartbeats 4000000 in
set_option maxRecDepth 20000 in
theorem t_M_reachedBy_37 {r : Int32} {σ : St} (C : Cx g A p s m av meth c prog_13_method_95_code 5 "BellHammerModel" (some .int)) {k5 : Int32 → Int32 → Int32 → Int32 → St → Option (Int32)} (hk5 : ∀ (x1 : Int32) (x2 : Int32) (x3 : Int32) (x4 : Int32) (H : Heap) (locs : List Loc) (ls : Array Slot), k5 x1 x2 x3 x4 σ = some r → Wd g (wM g q) A s σ H locs → lv_has ls 5 [(0, .ref (q 0)), (1, .int x1), (2, .int x2), (3, .int x3), (4, .int x4)] → WK p l e s m av below meth c 2 g (wM g q) A (some (.int r)) σ H locs (F0 m 5 ls []))  {x1 : Int32} {x2 : Int32} {x3 : Int32} {x4 : Int32} {H : Heap} {locs : List Loc} {ls : Array Slot} (hf : f_M_reachedBy_37  k5 x1 x2 x3 x4 σ = some r) (w : Wd g (wM g q) A s σ H locs) (hl : lv_has ls 5 [(0, .ref (q 0)), (1, .int x1), (2, .int x2), (3, .int x3), (4, .int x4)]) : WK p l e s m av below meth c 2 g (wM g q) A (some (.int r)) σ H locs (F0 m 37 ls []) := by
  obtain ⟨hx, hb, hml, hown, hts, hK, hA, hZ, hlocks, hr, hN⟩ := id C
  unfold f_M_reachedBy_37 at hf
  refine lv_aload_n hx hb d_M_reachedBy_37 rfl (lv_at hl 0 rfl) ?_
  refine lv_aload_n hx hb d_M_reachedBy_38 rfl (lv_at hl 0 rfl) ?_
  refine mg_0_blows C w k1150 d_M_reachedBy_39 ?_
  refine lv_iconst (v := 5) hx hb d_M_reachedBy_42 (by decide) ?_
  refine lv_iload hx hb d_M_reachedBy_43 (lv_at hl 4 rfl) ?_
  refine lv_imul hx hb d_M_reachedBy_45 ?_
  refine lv_iconst (v := 4) hx hb d_M_reachedBy_46 (by decide) ?_
  refine lv_iadd hx hb d_M_reachedBy_47 ?_
  obtain ⟨g_1, hf⟩ := gd_e hf
  refine ml_42 C w g_1 d_M_reachedBy_48 ?_
  obtain ⟨r_3, h_2, hf⟩ := bp_e hf
  refine k_callV (As := [.int (sA σ 12 ((5 * x4) + 4).toNatClampNeg)]) (rest := []) C w (c_M_past (q := q) h_2) cv_M_past k1737 (mr_0 C w) (by decide) hl.1 rfl (Nat.le_of_ble_eq_true rfl) d_M_reachedBy_49 (fun H locs w => ?_)
  show WK p l e s m av below meth c 2 g (wM g q) A (some (.int r)) σ H locs (F0 m 52 ls [.int r_3])
  refine lv_iload_n hx hb d_M_reachedBy_52 rfl (lv_at hl 1 rfl) ?_
  refine lv_icmp_ne (tgt := 59) hx hb d_M_reachedBy_53 (by decide) (fun cd => ?_) (fun cd => ?_)
  · have hf := if_e cd hf
    obtain ⟨x_4, ex_4⟩ : ∃ y : Int32, y = (x4 + 1) := ⟨_, rfl⟩
    have hf := lt_e ex_4 hf
    refine lv_iinc (v := x_4) (lv' := [(4, .int x_4), (0, .ref (q 0)), (1, .int x1), (2, .int x2), (3, .int x3)]) hx hb d_M_reachedBy_59 hl (k := 4) rfl (by rw [ex_4]; rfl) (by decide) rfl (fun ls hl => ?_)
    refine lv_goto (tgt := 5) hx hb d_M_reachedBy_62 (by decide) ?_
    exact hk5 x1 x2 x3 x_4  _ _ _ hf w (lv_sub hl [1, 2, 3, 4, 0] rfl)
  · have hf := it_e cd hf
    obtain ⟨x_5, ex_5⟩ : ∃ y : Int32, y = (x3 + 1) := ⟨_, rfl⟩
    have hf := lt_e ex_5 hf
    refine lv_iinc (v := x_5) (lv' := [(3, .int x_5), (0, .ref (q 0)), (1, .int x1), (2, .int x2), (4, .int x4)]) hx hb d_M_reachedBy_56 hl (k := 3) rfl (by rw [ex_5]; rfl) (by decide) rfl (fun ls hl => ?_)
    obtain ⟨x_6, ex_6⟩ : ∃ y : Int32, y = (x4 + 1) := ⟨_, rfl⟩
    have hf := lt_e ex_6 hf
    refine lv_iinc (v := x_6) (lv' := [(4, .int x_6), (3, .int x_5), (0, .ref (q 0)), (1, .int x1), (2, .int x2)]) hx hb d_M_reachedBy_59 hl (k := 4) rfl (by rw [ex_6]; rfl) (by decide) rfl (fun ls hl => ?_)
    refine lv_goto (tgt := 5) hx hb d_M_reachedBy_62 (by decide) ?_
    exact hk5 x1 x2 x_5 x_6  _ _ _ hf w (lv_sub hl [2, 3, 4, 1, 0] rfl)
set_option maxHeartbeats 4000000 in
set_option maxRecDepth 20000 in
theorem t_M_reachedBy_5b {r : Int32} {σ : St} (C : Cx g A p s m av meth c prog_13_method_95_code 5 "BellHammerModel" (some .int)) {k5 : Int32 → Int32 → Int32 → Int32 → St → Option (Int32)} (hk5 : ∀ (x1 : Int32) (x2 : Int32) (x3 : Int32) (x4 : Int32) (H : Heap) (locs : List Loc) (ls : Array Slot), k5 x1 x2 x3 x4 σ = some r → Wd g (wM g q) A s σ H locs → lv_has ls 5 [(0, .ref (q 0)), (1, .int x1), (2, .int x2), (3, .int x3), (4, .int x4)] → WK p l e s m av below meth c 2 g (wM g q) A (some (.int r)) σ H locs (F0 m 5 ls []))  {x1 : Int32} {x2 : Int32} {x3 : Int32} {x4 : Int32} {H : Heap} {locs : List Loc} {ls : Array Slot} (hf : f_M_reachedBy_5b  k5 x1 x2 x3 x4 σ = some r) (w : Wd g (wM g q) A s σ H locs) (hl : lv_has ls 5 [(0, .ref (q 0)), (1, .int x1), (2, .int x2), (3, .int x3), (4, .int x4)]) : WK p l e s m av below meth c 2 g (wM g q) A (some (.int r)) σ H locs (F0 m 5 ls []) := by
  obtain ⟨hx, hb, hml, hown, hts, hK, hA, hZ, hlocks, hr, hN⟩ := id C
  unfold f_M_reachedBy_5b at hf
  refine lv_iload hx hb d_M_reachedBy_5 (lv_at hl 4 rfl) ?_
  refine lv_aload_n hx hb d_M_reachedBy_7 rfl (lv_at hl 0 rfl) ?_
  refine mg_0_now C w k1149 d_M_reachedBy_8 ?_
  refine lv_bipush (v := 6) hx hb d_M_reachedBy_11 (by decide) ?_
  refine ml_41 C w (by decide) d_M_reachedBy_13 ?_
  refine lv_icmp_ge (tgt := 65) hx hb d_M_reachedBy_14 (by decide) (fun cd => ?_) (fun cd => ?_)
  · have hf := it_e cd hf
    refine lv_iload_n hx hb d_M_reachedBy_65 rfl (lv_at hl 3 rfl) ?_
    cases some_e hf
    exact k_iret C w d_M_reachedBy_66
  · have hf := if_e cd hf
    refine lv_iload_n hx hb d_M_reachedBy_17 rfl (lv_at hl 2 rfl) ?_
    refine lv_iconst (v := (-1)) hx hb d_M_reachedBy_18 (by decide) ?_
    refine lv_icmp_eq (tgt := 37) hx hb d_M_reachedBy_19 (by decide) (fun cd => ?_) (fun cd => ?_)
    · have hf := it_e cd hf
      exact t_M_reachedBy_37 C hk5 hf w (lv_sub hl [0, 1, 2, 3, 4] rfl)
    · have hf := if_e cd hf
      refine lv_aload_n hx hb d_M_reachedBy_22 rfl (lv_at hl 0 rfl) ?_
      refine mg_0_blows C w k1150 d_M_reachedBy_23 ?_
      refine lv_iconst (v := 5) hx hb d_M_reachedBy_26 (by decide) ?_
      refine lv_iload hx hb d_M_reachedBy_27 (lv_at hl 4 rfl) ?_
      refine lv_imul hx hb d_M_reachedBy_29 ?_
      refine lv_iconst (v := 1) hx hb d_M_reachedBy_30 (by decide) ?_
      refine lv_iadd hx hb d_M_reachedBy_31 ?_
      obtain ⟨g_1, hf⟩ := gd_e hf
      refine ml_42 C w g_1 d_M_reachedBy_32 ?_
      refine lv_iload_n hx hb d_M_reachedBy_33 rfl (lv_at hl 2 rfl) ?_
      refine lv_icmp_ne (tgt := 59) hx hb d_M_reachedBy_34 (by decide) (fun cd => ?_) (fun cd => ?_)
      · have hf := if_e cd hf
        obtain ⟨x_2, ex_2⟩ : ∃ y : Int32, y = (x4 + 1) := ⟨_, rfl⟩
        have hf := lt_e ex_2 hf
        refine lv_iinc (v := x_2) (lv' := [(4, .int x_2), (0, .ref (q 0)), (1, .int x1), (2, .int x2), (3, .int x3)]) hx hb d_M_reachedBy_59 hl (k := 4) rfl (by rw [ex_2]; rfl) (by decide) rfl (fun ls hl => ?_)
        refine lv_goto (tgt := 5) hx hb d_M_reachedBy_62 (by decide) ?_
        exact hk5 x1 x2 x3 x_2  _ _ _ hf w (lv_sub hl [1, 2, 3, 4, 0] rfl)
      · have hf := it_e cd hf
        exact t_M_reachedBy_37 C hk5 hf w (lv_sub hl [0, 1, 2, 3, 4] rfl)
set_option maxHeartbeats 4000000 in
set_option maxRecDepth 20000 in
theorem t_M_reachedBy_5 {r : Int32} {σ : St} (C : Cx g A p s m av meth c prog_13_method_95_code 5 "BellHammerModel" (some .int))  : ∀ (n : Nat) (x1 : Int32) (x2 : Int32) (x3 : Int32) (x4 : Int32) (H : Heap) (locs : List Loc) (ls : Array Slot), f_M_reachedBy_5   n x1 x2 x3 x4 σ = some r → Wd g (wM g q) A s σ H locs → lv_has ls 5 [(0, .ref (q 0)), (1, .int x1), (2, .int x2), (3, .int x3), (4, .int x4)] → WK p l e s m av below meth c 2 g (wM g q) A (some (.int r)) σ H locs (F0 m 5 ls []) := by
  intro n
  induction n with
  | zero => intro x1 x2 x3 x4 H locs ls hf; exact absurd hf (by intro z; cases z)
  | succ n ih => intro x1 x2 x3 x4 H locs ls hf w hl; exact t_M_reachedBy_5b C  ih hf w hl
set_option maxHeartbeats 4000000 in
set_option maxRecDepth 20000 in
theorem c_M_reachedBy {l : Launch} {g : GX} {q : Nat → Nat} {x1 : Int32} {x2 : Int32}  {σ : St} {r : Int32} (hf : f_M_reachedBy  x1 x2 σ = some r) : KK l y_M_reachedBy prog_13_method_95_code 5 (some .int) 2 g (wM g q) σ [.ref (q 0), .int x1, .int x2] (some (.int r)) (wM g q) σ := by
  refine KK_of (plainFor_of_name (by decide)) (Nat.le_of_ble_eq_true rfl) (fun p e s m below meth c A ls C w hl => ?_)
  have hl : lv_has ls 5 [(0, .ref (q 0)), (1, .int x1), (2, .int x2)] := hl
  obtain ⟨hx, hb, hml, hown, hts, hK, hA, hZ, hlocks, hr, hN⟩ := id C
  unfold f_M_reachedBy at hf
  refine lv_iconst (v := 0) hx hb d_M_reachedBy_0 (by decide) ?_
  refine lv_istore_n (lv' := [(3, .int 0), (0, .ref (q 0)), (1, .int x1), (2, .int x2)]) hx hb d_M_reachedBy_1 rfl hl (by decide) rfl (fun ls hl => ?_)
  refine lv_iconst (v := 0) hx hb d_M_reachedBy_2 (by decide) ?_
  refine lv_istore (lv' := [(4, .int 0), (3, .int 0), (0, .ref (q 0)), (1, .int x1), (2, .int x2)]) hx hb d_M_reachedBy_3 hl (by decide) rfl (fun ls hl => ?_)
  exact t_M_reachedBy_5 C  FU x1 x2 0 0  _ _ _ hf w (lv_sub hl [2, 3, 4, 1, 0] rfl)
def f_M_reach_49b (k49 : Int32 → Int32 → Int32 → Int32 → St → Option (Int32)) (x1 : Int32) (x3 : Int32) (x4 : Int32) (x5 : Int32) (σ : St) : Option (Int32) :=
  bp (f_M_trierMany σ) fun r_2 =>
  if r_2 ≤ x5 then
    some x3
  else
    bp (f_M_reachedBy x1 x5 σ) fun r_4 =>
    if x4 < r_4 then
      lt ((x5 + 1)) fun x_5 =>
      k49 x1 x5 r_4 x_5 σ
    else
      lt ((x5 + 1)) fun x_6 =>
      k49 x1 x3 x4 x_6 σ
def f_M_reach_49 : Nat → Int32 → Int32 → Int32 → Int32 → St → Option (Int32)
  | 0 => fun _ _ _ _ _ => none
  | n + 1 => f_M_reach_49b   (f_M_reach_49   n)
def f_M_reach (x1 : Int32) (x2 : Int32) (σ : St) : Option (Int32) :=
  bp (f_M_isIn ((x1).toInt64) 0 ((((sA σ 2 (3 : Int32).toNatClampNeg) - 1)).toInt64) σ) fun r_2 =>
  if r_2 = 0 then
    some (-1)
  else
    bp (f_M_isIn ((x2).toInt64) 0 1 σ) fun r_4 =>
    if r_4 = 0 then
      some (-1)
    else
      if x2 = 0 then
        bp (f_M_reachedBy x1 (-1) σ) fun r_6 =>
        some r_6
      else
        f_M_reach_49 FU x1 (-1) 0 0 σ
set_option maxHeartbeats 4000000 in
set_option maxRecDepth 20000 in
theorem t_M_reach_49b {r : Int32} {σ : St} (C : Cx g A p s m av meth c prog_13_method_96_code 7 "BellHammerModel" (some .int)) {k49 : Int32 → Int32 → Int32 → Int32 → St → Option (Int32)} (hk49 : ∀ (x1 : Int32) (x3 : Int32) (x4 : Int32) (x5 : Int32) (H : Heap) (locs : List Loc) (ls : Array Slot), k49 x1 x3 x4 x5 σ = some r → Wd g (wM g q) A s σ H locs → lv_has ls 7 [(0, .ref (q 0)), (1, .int x1), (3, .int x3), (4, .int x4), (5, .int x5)] → WK p l e s m av below meth c 3 g (wM g q) A (some (.int r)) σ H locs (F0 m 49 ls []))  {x1 : Int32} {x3 : Int32} {x4 : Int32} {x5 : Int32} {H : Heap} {locs : List Loc} {ls : Array Slot} (hf : f_M_reach_49b  k49 x1 x3 x4 x5 σ = some r) (w : Wd g (wM g q) A s σ H locs) (hl : lv_has ls 7 [(0, .ref (q 0)), (1, .int x1), (3, .int x3), (4, .int x4), (5, .int x5)]) : WK p l e s m av below meth c 3 g (wM g q) A (some (.int r)) σ H locs (F0 m 49 ls []) := by
  obtain ⟨hx, hb, hml, hown, hts, hK, hA, hZ, hlocks, hr, hN⟩ := id C
  unfold f_M_reach_49b at hf
  refine lv_iload hx hb d_M_reach_49 (lv_at hl 4 rfl) ?_
  refine lv_aload_n hx hb d_M_reach_51 rfl (lv_at hl 0 rfl) ?_
  obtain ⟨r_2, h_1, hf⟩ := bp_e hf
  refine k_callV (As := []) (rest := [.int x5]) C w (c_M_trierMany (q := q) h_1) cv_M_trierMany k1509 (mr_0 C w) (by decide) hl.1 rfl (Nat.le_of_ble_eq_true rfl) d_M_reach_52 (fun H locs w => ?_)
  show WK p l e s m av below meth c 3 g (wM g q) A (some (.int r)) σ H locs (F0 m 55 ls [.int r_2, .int x5])
  refine lv_icmp_ge (tgt := 90) hx hb d_M_reach_55 (by decide) (fun cd => ?_) (fun cd => ?_)
  · have hf := it_e cd hf
    refine lv_iload_n hx hb d_M_reach_90 rfl (lv_at hl 2 rfl) ?_
    cases some_e hf
    exact k_iret C w d_M_reach_91
  · have hf := if_e cd hf
    refine lv_aload_n hx hb d_M_reach_58 rfl (lv_at hl 0 rfl) ?_
    refine lv_iload_n hx hb d_M_reach_59 rfl (lv_at hl 1 rfl) ?_
    refine lv_iload hx hb d_M_reach_60 (lv_at hl 4 rfl) ?_
    obtain ⟨r_4, h_3, hf⟩ := bp_e hf
    refine k_callV (As := [.int x1, .int x5]) (rest := []) C w (c_M_reachedBy (q := q) h_3) cv_M_reachedBy k1733 (mr_0 C w) (by decide) hl.1 rfl (Nat.le_of_ble_eq_true rfl) d_M_reach_62 (fun H locs w => ?_)
    show WK p l e s m av below meth c 3 g (wM g q) A (some (.int r)) σ H locs (F0 m 65 ls [.int r_4])
    refine lv_istore (lv' := [(6, .int r_4), (0, .ref (q 0)), (1, .int x1), (3, .int x3), (4, .int x4), (5, .int x5)]) hx hb d_M_reach_65 hl (by decide) rfl (fun ls hl => ?_)
    refine lv_iload hx hb d_M_reach_67 (lv_at hl 0 rfl) ?_
    refine lv_iload hx hb d_M_reach_69 (lv_at hl 4 rfl) ?_
    refine lv_icmp_gt (tgt := 77) hx hb d_M_reach_71 (by decide) (fun cd => ?_) (fun cd => ?_)
    · have hf := it_e cd hf
      refine lv_iload hx hb d_M_reach_77 (lv_at hl 5 rfl) ?_
      refine lv_istore_n (lv' := [(3, .int x5), (6, .int r_4), (0, .ref (q 0)), (1, .int x1), (4, .int x4), (5, .int x5)]) hx hb d_M_reach_79 rfl hl (by decide) rfl (fun ls hl => ?_)
      refine lv_iload hx hb d_M_reach_80 (lv_at hl 1 rfl) ?_
      refine lv_istore (lv' := [(4, .int r_4), (3, .int x5), (6, .int r_4), (0, .ref (q 0)), (1, .int x1), (5, .int x5)]) hx hb d_M_reach_82 hl (by decide) rfl (fun ls hl => ?_)
      obtain ⟨x_5, ex_5⟩ : ∃ y : Int32, y = (x5 + 1) := ⟨_, rfl⟩
      have hf := lt_e ex_5 hf
      refine lv_iinc (v := x_5) (lv' := [(5, .int x_5), (4, .int r_4), (3, .int x5), (6, .int r_4), (0, .ref (q 0)), (1, .int x1)]) hx hb d_M_reach_84 hl (k := 5) rfl (by rw [ex_5]; rfl) (by decide) rfl (fun ls hl => ?_)
      refine lv_goto (tgt := 49) hx hb d_M_reach_87 (by decide) ?_
      exact hk49 x1 x5 r_4 x_5  _ _ _ hf w (lv_sub hl [4, 5, 2, 1, 0] rfl)
    · have hf := if_e cd hf
      refine lv_goto (tgt := 84) hx hb d_M_reach_74 (by decide) ?_
      obtain ⟨x_6, ex_6⟩ : ∃ y : Int32, y = (x5 + 1) := ⟨_, rfl⟩
      have hf := lt_e ex_6 hf
      refine lv_iinc (v := x_6) (lv' := [(5, .int x_6), (6, .int r_4), (0, .ref (q 0)), (1, .int x1), (3, .int x3), (4, .int x4)]) hx hb d_M_reach_84 hl (k := 5) rfl (by rw [ex_6]; rfl) (by decide) rfl (fun ls hl => ?_)
      refine lv_goto (tgt := 49) hx hb d_M_reach_87 (by decide) ?_
      exact hk49 x1 x3 x4 x_6  _ _ _ hf w (lv_sub hl [2, 3, 4, 5, 0] rfl)
set_option maxHeartbeats 4000000 in
set_option maxRecDepth 20000 in
theorem t_M_reach_49 {r : Int32} {σ : St} (C : Cx g A p s m av meth c prog_13_method_96_code 7 "BellHammerModel" (some .int))  : ∀ (n : Nat) (x1 : Int32) (x3 : Int32) (x4 : Int32) (x5 : Int32) (H : Heap) (locs : List Loc) (ls : Array Slot), f_M_reach_49   n x1 x3 x4 x5 σ = some r → Wd g (wM g q) A s σ H locs → lv_has ls 7 [(0, .ref (q 0)), (1, .int x1), (3, .int x3), (4, .int x4), (5, .int x5)] → WK p l e s m av below meth c 3 g (wM g q) A (some (.int r)) σ H locs (F0 m 49 ls []) := by
  intro n
  induction n with
  | zero => intro x1 x3 x4 x5 H locs ls hf; exact absurd hf (by intro z; cases z)
  | succ n ih => intro x1 x3 x4 x5 H locs ls hf w hl; exact t_M_reach_49b C  ih hf w hl
set_option maxHeartbeats 4000000 in
set_option maxRecDepth 20000 in
theorem c_M_reach {l : Launch} {g : GX} {q : Nat → Nat} {x1 : Int32} {x2 : Int32}  {σ : St} {r : Int32} (hf : f_M_reach  x1 x2 σ = some r) : KK l y_M_reach prog_13_method_96_code 7 (some .int) 3 g (wM g q) σ [.ref (q 0), .int x1, .int x2] (some (.int r)) (wM g q) σ := by
  refine KK_of (plainFor_of_name (by decide)) (Nat.le_of_ble_eq_true rfl) (fun p e s m below meth c A ls C w hl => ?_)
  have hl : lv_has ls 7 [(0, .ref (q 0)), (1, .int x1), (2, .int x2)] := hl
  obtain ⟨hx, hb, hml, hown, hts, hK, hA, hZ, hlocks, hr, hN⟩ := id C
  unfold f_M_reach at hf
  refine lv_iload_n hx hb d_M_reach_0 rfl (lv_at hl 1 rfl) ?_
  refine lv_i2l hx hb d_M_reach_1 rfl ?_
  refine lv_lconst (v := 0) hx hb d_M_reach_2 (by decide) ?_
  refine lv_aload_n hx hb d_M_reach_3 rfl (lv_at hl 0 rfl) ?_
  refine mg_0_many C w k1132 d_M_reach_4 ?_
  refine lv_iconst (v := 3) hx hb d_M_reach_7 (by decide) ?_
  refine ml_30 C w (by decide) d_M_reach_8 ?_
  refine lv_iconst (v := 1) hx hb d_M_reach_9 (by decide) ?_
  refine lv_isub hx hb d_M_reach_10 ?_
  refine lv_i2l hx hb d_M_reach_11 rfl ?_
  obtain ⟨r_2, h_1, hf⟩ := bp_e hf
  refine k_callS (As := [.long (x1).toInt64, .long 0, .long (((sA σ 2 (3 : Int32).toNatClampNeg) - 1)).toInt64]) (rest := []) C w (c_M_isIn (q := q) h_1) cv_M_isIn k1410 (by decide) hl.1 rfl (Nat.le_of_ble_eq_true rfl) d_M_reach_12 (fun H locs w => ?_)
  show WK p l e s m _ below meth c 3 g (wM g q) A (some (.int r)) σ H locs (F0 m 15 ls [.int r_2])
  refine lv_if_eq (tgt := 28) hx hb d_M_reach_15 (by decide) (fun cd => ?_) (fun cd => ?_)
  · have hf := it_e cd hf
    refine lv_iconst (v := (-1)) hx hb d_M_reach_28 (by decide) ?_
    cases some_e hf
    exact k_iret C w d_M_reach_29
  · have hf := if_e cd hf
    refine lv_iload_n hx hb d_M_reach_18 rfl (lv_at hl 2 rfl) ?_
    refine lv_i2l hx hb d_M_reach_19 rfl ?_
    refine lv_lconst (v := 0) hx hb d_M_reach_20 (by decide) ?_
    refine lv_lconst (v := 1) hx hb d_M_reach_21 (by decide) ?_
    obtain ⟨r_4, h_3, hf⟩ := bp_e hf
    refine k_callS (As := [.long (x2).toInt64, .long 0, .long 1]) (rest := []) C w (c_M_isIn (q := q) h_3) cv_M_isIn k1410 (by decide) hl.1 rfl (Nat.le_of_ble_eq_true rfl) d_M_reach_22 (fun H locs w => ?_)
    show WK p l e s m _ below meth c 3 g (wM g q) A (some (.int r)) σ H locs (F0 m 25 ls [.int r_4])
    refine lv_if_ne (tgt := 30) hx hb d_M_reach_25 (by decide) (fun cd => ?_) (fun cd => ?_)
    · have hf := if_e cd hf
      refine lv_iload_n hx hb d_M_reach_30 rfl (lv_at hl 2 rfl) ?_
      refine lv_if_ne (tgt := 41) hx hb d_M_reach_31 (by decide) (fun cd => ?_) (fun cd => ?_)
      · have hf := if_e cd hf
        refine lv_iconst (v := (-1)) hx hb d_M_reach_41 (by decide) ?_
        refine lv_istore_n (lv' := [(3, .int (-1)), (0, .ref (q 0)), (1, .int x1), (2, .int x2)]) hx hb d_M_reach_42 rfl hl (by decide) rfl (fun ls hl => ?_)
        refine lv_iconst (v := 0) hx hb d_M_reach_43 (by decide) ?_
        refine lv_istore (lv' := [(4, .int 0), (3, .int (-1)), (0, .ref (q 0)), (1, .int x1), (2, .int x2)]) hx hb d_M_reach_44 hl (by decide) rfl (fun ls hl => ?_)
        refine lv_iconst (v := 0) hx hb d_M_reach_46 (by decide) ?_
        refine lv_istore (lv' := [(5, .int 0), (4, .int 0), (3, .int (-1)), (0, .ref (q 0)), (1, .int x1), (2, .int x2)]) hx hb d_M_reach_47 hl (by decide) rfl (fun ls hl => ?_)
        exact t_M_reach_49 C  FU x1 (-1) 0 0  _ _ _ hf w (lv_sub hl [3, 4, 2, 1, 0] rfl)
      · have hf := it_e cd hf
        refine lv_aload_n hx hb d_M_reach_34 rfl (lv_at hl 0 rfl) ?_
        refine lv_iload_n hx hb d_M_reach_35 rfl (lv_at hl 1 rfl) ?_
        refine lv_iconst (v := (-1)) hx hb d_M_reach_36 (by decide) ?_
        obtain ⟨r_6, h_5, hf⟩ := bp_e hf
        refine k_callV (As := [.int x1, .int (-1)]) (rest := []) C w (c_M_reachedBy (q := q) h_5) cv_M_reachedBy k1733 (mr_0 C w) (by decide) hl.1 rfl (Nat.le_of_ble_eq_true rfl) d_M_reach_37 (fun H locs w => ?_)
        show WK p l e s m _ below meth c 3 g (wM g q) A (some (.int r)) σ H locs (F0 m 40 ls [.int r_6])
        cases some_e hf
        exact k_iret C w d_M_reach_40
    · have hf := it_e cd hf
      refine lv_iconst (v := (-1)) hx hb d_M_reach_28 (by decide) ?_
      cases some_e hf
      exact k_iret C w d_M_reach_29
def f_M_checked_6b (k6 : Int32 → Int32 → Int32 → St → Option (Int32)) (x1 : Int32) (x2 : Int32) (x3 : Int32) (σ : St) : Option (Int32) :=
  if x1 ≤ x3 then
    some x2
  else
    gd (inB x3 10) <|
    lt ((iR ((3 * x2) + (sA σ 15 x3.toNatClampNeg)) 253)) fun x_2 =>
    lt ((x3 + 1)) fun x_3 =>
    k6 x1 x_2 x_3 σ
def f_M_checked_6 : Nat → Int32 → Int32 → Int32 → St → Option (Int32)
  | 0 => fun _ _ _ _ => none
  | n + 1 => f_M_checked_6b   (f_M_checked_6   n)
def f_M_checked (x1 : Int32) (σ : St) : Option (Int32) :=
  f_M_checked_6 FU x1 139 0 σ
set_option maxHeartbeats 4000000 in
set_option maxRecDepth 20000 in
theorem t_M_checked_6b {r : Int32} {σ : St} (C : Cx g A p s m av meth c prog_13_method_97_code 4 "BellHammerModel" (some .int)) {k6 : Int32 → Int32 → Int32 → St → Option (Int32)} (hk6 : ∀ (x1 : Int32) (x2 : Int32) (x3 : Int32) (H : Heap) (locs : List Loc) (ls : Array Slot), k6 x1 x2 x3 σ = some r → Wd g (wM g q) A s σ H locs → lv_has ls 4 [(0, .ref (q 45)), (1, .int x1), (2, .int x2), (3, .int x3)] → WK p l e s m av below meth c 0 g (wM g q) A (some (.int r)) σ H locs (F0 m 6 ls []))  {x1 : Int32} {x2 : Int32} {x3 : Int32} {H : Heap} {locs : List Loc} {ls : Array Slot} (hf : f_M_checked_6b  k6 x1 x2 x3 σ = some r) (w : Wd g (wM g q) A s σ H locs) (hl : lv_has ls 4 [(0, .ref (q 45)), (1, .int x1), (2, .int x2), (3, .int x3)]) : WK p l e s m av below meth c 0 g (wM g q) A (some (.int r)) σ H locs (F0 m 6 ls []) := by
  obtain ⟨hx, hb, hml, hown, hts, hK, hA, hZ, hlocks, hr, hN⟩ := id C
  unfold f_M_checked_6b at hf
  refine lv_iload_n hx hb d_M_checked_6 rfl (lv_at hl 3 rfl) ?_
  refine lv_iload_n hx hb d_M_checked_7 rfl (lv_at hl 1 rfl) ?_
  refine lv_icmp_ge (tgt := 29) hx hb d_M_checked_8 (by decide) (fun cd => ?_) (fun cd => ?_)
  · have hf := it_e cd hf
    refine lv_iload_n hx hb d_M_checked_29 rfl (lv_at hl 2 rfl) ?_
    cases some_e hf
    exact k_iret C w d_M_checked_30
  · have hf := if_e cd hf
    refine lv_iconst (v := 3) hx hb d_M_checked_11 (by decide) ?_
    refine lv_iload_n hx hb d_M_checked_12 rfl (lv_at hl 2 rfl) ?_
    refine lv_imul hx hb d_M_checked_13 ?_
    refine lv_aload_n hx hb d_M_checked_14 rfl (lv_at hl 0 rfl) ?_
    refine lv_iload_n hx hb d_M_checked_15 rfl (lv_at hl 3 rfl) ?_
    obtain ⟨g_1, hf⟩ := gd_e hf
    refine ml_45 C w g_1 d_M_checked_16 ?_
    refine lv_iadd hx hb d_M_checked_17 ?_
    refine lv_sipush (v := 253) hx hb d_M_checked_18 (by decide) ?_
    refine r_irem hx hb d_M_checked_21 (by decide) ?_
    refine lv_topi (fun x_2 ex_2 => ?_)
    have hf := lt_e ex_2 hf
    refine lv_istore_n (lv' := [(2, .int x_2), (0, .ref (q 45)), (1, .int x1), (3, .int x3)]) hx hb d_M_checked_22 rfl hl (by decide) rfl (fun ls hl => ?_)
    obtain ⟨x_3, ex_3⟩ : ∃ y : Int32, y = (x3 + 1) := ⟨_, rfl⟩
    have hf := lt_e ex_3 hf
    refine lv_iinc (v := x_3) (lv' := [(3, .int x_3), (2, .int x_2), (0, .ref (q 45)), (1, .int x1)]) hx hb d_M_checked_23 hl (k := 3) rfl (by rw [ex_3]; rfl) (by decide) rfl (fun ls hl => ?_)
    refine lv_goto (tgt := 6) hx hb d_M_checked_26 (by decide) ?_
    exact hk6 x1 x_2 x_3  _ _ _ hf w (lv_sub hl [2, 3, 1, 0] rfl)
set_option maxHeartbeats 4000000 in
set_option maxRecDepth 20000 in
theorem t_M_checked_6 {r : Int32} {σ : St} (C : Cx g A p s m av meth c prog_13_method_97_code 4 "BellHammerModel" (some .int))  : ∀ (n : Nat) (x1 : Int32) (x2 : Int32) (x3 : Int32) (H : Heap) (locs : List Loc) (ls : Array Slot), f_M_checked_6   n x1 x2 x3 σ = some r → Wd g (wM g q) A s σ H locs → lv_has ls 4 [(0, .ref (q 45)), (1, .int x1), (2, .int x2), (3, .int x3)] → WK p l e s m av below meth c 0 g (wM g q) A (some (.int r)) σ H locs (F0 m 6 ls []) := by
  intro n
  induction n with
  | zero => intro x1 x2 x3 H locs ls hf; exact absurd hf (by intro z; cases z)
  | succ n ih => intro x1 x2 x3 H locs ls hf w hl; exact t_M_checked_6b C  ih hf w hl
set_option maxHeartbeats 4000000 in
set_option maxRecDepth 20000 in
theorem c_M_checked {l : Launch} {g : GX} {q : Nat → Nat} {x1 : Int32}  {σ : St} {r : Int32} (hf : f_M_checked  x1 σ = some r) : KK l y_M_checked prog_13_method_97_code 4 (some .int) 0 g (wM g q) σ [.ref (q 45), .int x1] (some (.int r)) (wM g q) σ := by
  refine KK_of (plainFor_of_name (by decide)) (Nat.le_of_ble_eq_true rfl) (fun p e s m below meth c A ls C w hl => ?_)
  have hl : lv_has ls 4 [(0, .ref (q 45)), (1, .int x1)] := hl
  obtain ⟨hx, hb, hml, hown, hts, hK, hA, hZ, hlocks, hr, hN⟩ := id C
  unfold f_M_checked at hf
  refine lv_sipush (v := 139) hx hb d_M_checked_0 (by decide) ?_
  refine lv_istore_n (lv' := [(2, .int 139), (0, .ref (q 45)), (1, .int x1)]) hx hb d_M_checked_3 rfl hl (by decide) rfl (fun ls hl => ?_)
  refine lv_iconst (v := 0) hx hb d_M_checked_4 (by decide) ?_
  refine lv_istore_n (lv' := [(3, .int 0), (2, .int 139), (0, .ref (q 45)), (1, .int x1)]) hx hb d_M_checked_5 rfl hl (by decide) rfl (fun ls hl => ?_)
  exact t_M_checked_6 C  FU x1 139 0  _ _ _ hf w (lv_sub hl [2, 3, 1, 0] rfl)
def f_M_image_86b (k86 : Int32 → St → Option (Int32 × St)) (x1 : Int32) (σ : St) : Option (Int32 × St) :=
  if 4 ≤ x1 then
    bp (f_M_checked 9 σ) fun r_2 =>
    lt (uA σ 15 (upd (sA σ 15) (9 : Int32).toNatClampNeg r_2)) fun σ_3 =>
    lt (uI σ_3 30 10) fun σ_4 =>
    some ((sI σ_4 30), σ_4)
  else
    gd (inB (2 + x1) 10) <|
    gd (inB (5 + x1) 10) <|
    lt (uA σ 15 (upd (sA σ 15) (5 + x1).toNatClampNeg (sA σ 11 (2 + x1).toNatClampNeg))) fun σ_7 =>
    lt ((x1 + 1)) fun x_8 =>
    k86 x_8 σ_7
def f_M_image_86 : Nat → Int32 → St → Option (Int32 × St)
  | 0 => fun _ _ => none
  | n + 1 => f_M_image_86b   (f_M_image_86   n)
def f_M_image (σ : St) : Option (Int32 × St) :=
  lt (uA σ 15 (upd (sA σ 15) (0 : Int32).toNatClampNeg ((sA σ 11 (0 : Int32).toNatClampNeg) / 256))) fun σ_1 =>
  lt (uA σ_1 15 (upd (sA σ_1 15) (1 : Int32).toNatClampNeg (iR (sA σ_1 11 (0 : Int32).toNatClampNeg) 256))) fun σ_2 =>
  lt (uA σ_2 15 (upd (sA σ_2 15) (2 : Int32).toNatClampNeg ((sA σ_2 11 (1 : Int32).toNatClampNeg) / 65536))) fun σ_3 =>
  lt (uA σ_3 15 (upd (sA σ_3 15) (3 : Int32).toNatClampNeg (iR ((sA σ_3 11 (1 : Int32).toNatClampNeg) / 256) 256))) fun σ_4 =>
  lt (uA σ_4 15 (upd (sA σ_4 15) (4 : Int32).toNatClampNeg (iR (sA σ_4 11 (1 : Int32).toNatClampNeg) 256))) fun σ_5 =>
  f_M_image_86 FU 0 σ_5
set_option maxHeartbeats 4000000 in
set_option maxRecDepth 20000 in
theorem t_M_image_86b {r : Int32} {σ2 : St} (C : Cx g A p s m av meth c prog_13_method_98_code 2 "BellHammerModel" (some .int)) {k86 : Int32 → St → Option (Int32 × St)} (hk86 : ∀ (x1 : Int32) (σ : St) (H : Heap) (locs : List Loc) (ls : Array Slot), k86 x1 σ = some (r, σ2) → Wd g (wM g q) A s σ H locs → lv_has ls 2 [(0, .ref (q 0)), (1, .int x1)] → WK p l e s m av below meth c 1 g (wM g q) A (some (.int r)) σ2 H locs (F0 m 86 ls []))  {x1 : Int32} {σ : St} {H : Heap} {locs : List Loc} {ls : Array Slot} (hf : f_M_image_86b  k86 x1 σ = some (r, σ2)) (w : Wd g (wM g q) A s σ H locs) (hl : lv_has ls 2 [(0, .ref (q 0)), (1, .int x1)]) : WK p l e s m av below meth c 1 g (wM g q) A (some (.int r)) σ2 H locs (F0 m 86 ls []) := by
  obtain ⟨hx, hb, hml, hown, hts, hK, hA, hZ, hlocks, hr, hN⟩ := id C
  unfold f_M_image_86b at hf
  refine lv_iload_n hx hb d_M_image_86 rfl (lv_at hl 1 rfl) ?_
  refine lv_iconst (v := 4) hx hb d_M_image_87 (by decide) ?_
  refine lv_icmp_ge (tgt := 113) hx hb d_M_image_88 (by decide) (fun cd => ?_) (fun cd => ?_)
  · have hf := it_e cd hf
    refine lv_aload_n hx hb d_M_image_113 rfl (lv_at hl 0 rfl) ?_
    refine mg_0_octet C w k1174 d_M_image_114 ?_
    refine lv_bipush (v := 9) hx hb d_M_image_117 (by decide) ?_
    refine lv_aload_n hx hb d_M_image_119 rfl (lv_at hl 0 rfl) ?_
    refine mg_0_octet C w k1174 d_M_image_120 ?_
    refine lv_bipush (v := 9) hx hb d_M_image_123 (by decide) ?_
    obtain ⟨r_2, h_1, hf⟩ := bp_e hf
    refine k_callS (As := [.ref (q 45), .int 9]) (rest := [.int 9, .ref (q 45)]) C w (c_M_checked (q := q) h_1) cv_M_checked k1743 (by decide) hl.1 rfl (Nat.le_of_ble_eq_true rfl) d_M_image_125 (fun H locs w => ?_)
    show WK p l e s m av below meth c 1 g (wM g q) A (some (.int r)) σ2 H locs (F0 m 128 ls [.int r_2, .int 9, .ref (q 45)])
    refine ms_45 C w (by decide) d_M_image_128 (fun σ_3 H locs eσ_3 w => ?_)
    have hf := lt_e eσ_3 hf
    refine lv_aload_n hx hb d_M_image_129 rfl (lv_at hl 0 rfl) ?_
    refine lv_bipush (v := 10) hx hb d_M_image_130 (by decide) ?_
    refine mp_0_octets C w k1175 d_M_image_132 (fun σ_4 H locs eσ_4 w => ?_)
    have hf := lt_e eσ_4 hf
    refine lv_aload_n hx hb d_M_image_135 rfl (lv_at hl 0 rfl) ?_
    refine mg_0_octets C w k1175 d_M_image_136 ?_
    obtain ⟨rfl, rfl⟩ := some2_e hf
    exact k_iret C w d_M_image_139
  · have hf := if_e cd hf
    refine lv_aload_n hx hb d_M_image_91 rfl (lv_at hl 0 rfl) ?_
    refine mg_0_octet C w k1174 d_M_image_92 ?_
    refine lv_iconst (v := 5) hx hb d_M_image_95 (by decide) ?_
    refine lv_iload_n hx hb d_M_image_96 rfl (lv_at hl 1 rfl) ?_
    refine lv_iadd hx hb d_M_image_97 ?_
    refine lv_aload_n hx hb d_M_image_98 rfl (lv_at hl 0 rfl) ?_
    refine mg_0_now C w k1149 d_M_image_99 ?_
    refine lv_iconst (v := 2) hx hb d_M_image_102 (by decide) ?_
    refine lv_iload_n hx hb d_M_image_103 rfl (lv_at hl 1 rfl) ?_
    refine lv_iadd hx hb d_M_image_104 ?_
    obtain ⟨g_5, hf⟩ := gd_e hf
    refine ml_41 C w g_5 d_M_image_105 ?_
    obtain ⟨g_6, hf⟩ := gd_e hf
    refine ms_45 C w g_6 d_M_image_106 (fun σ_7 H locs eσ_7 w => ?_)
    have hf := lt_e eσ_7 hf
    obtain ⟨x_8, ex_8⟩ : ∃ y : Int32, y = (x1 + 1) := ⟨_, rfl⟩
    have hf := lt_e ex_8 hf
    refine lv_iinc (v := x_8) (lv' := [(1, .int x_8), (0, .ref (q 0))]) hx hb d_M_image_107 hl (k := 1) rfl (by rw [ex_8]; rfl) (by decide) rfl (fun ls hl => ?_)
    refine lv_goto (tgt := 86) hx hb d_M_image_110 (by decide) ?_
    exact hk86 x_8 σ_7 _ _ _ hf w (lv_sub hl [1, 0] rfl)
set_option maxHeartbeats 4000000 in
set_option maxRecDepth 20000 in
theorem t_M_image_86 {r : Int32} {σ2 : St} (C : Cx g A p s m av meth c prog_13_method_98_code 2 "BellHammerModel" (some .int))  : ∀ (n : Nat) (x1 : Int32) (σ : St) (H : Heap) (locs : List Loc) (ls : Array Slot), f_M_image_86   n x1 σ = some (r, σ2) → Wd g (wM g q) A s σ H locs → lv_has ls 2 [(0, .ref (q 0)), (1, .int x1)] → WK p l e s m av below meth c 1 g (wM g q) A (some (.int r)) σ2 H locs (F0 m 86 ls []) := by
  intro n
  induction n with
  | zero => intro x1 σ H locs ls hf; exact absurd hf (by intro z; cases z)
  | succ n ih => intro x1 σ H locs ls hf w hl; exact t_M_image_86b C  ih hf w hl
set_option maxHeartbeats 4000000 in
set_option maxRecDepth 20000 in
theorem c_M_image {l : Launch} {g : GX} {q : Nat → Nat}  {σ : St} {r : Int32} {σ2 : St} (hf : f_M_image   σ = some (r, σ2)) : KK l y_M_image prog_13_method_98_code 2 (some .int) 1 g (wM g q) σ [.ref (q 0)] (some (.int r)) (wM g q) σ2 := by
  refine KK_of (plainFor_of_name (by decide)) (Nat.le_of_ble_eq_true rfl) (fun p e s m below meth c A ls C w hl => ?_)
  have hl : lv_has ls 2 [(0, .ref (q 0))] := hl
  obtain ⟨hx, hb, hml, hown, hts, hK, hA, hZ, hlocks, hr, hN⟩ := id C
  unfold f_M_image at hf
  refine lv_aload_n hx hb d_M_image_0 rfl (lv_at hl 0 rfl) ?_
  refine mg_0_octet C w k1174 d_M_image_1 ?_
  refine lv_iconst (v := 0) hx hb d_M_image_4 (by decide) ?_
  refine lv_aload_n hx hb d_M_image_5 rfl (lv_at hl 0 rfl) ?_
  refine mg_0_now C w k1149 d_M_image_6 ?_
  refine lv_iconst (v := 0) hx hb d_M_image_9 (by decide) ?_
  refine ml_41 C w (by decide) d_M_image_10 ?_
  refine lv_sipush (v := 256) hx hb d_M_image_11 (by decide) ?_
  refine lv_idiv hx hb d_M_image_14 (by decide) ?_
  refine ms_45 C w (by decide) d_M_image_15 (fun σ_1 H locs eσ_1 w => ?_)
  have hf := lt_e eσ_1 hf
  refine lv_aload_n hx hb d_M_image_16 rfl (lv_at hl 0 rfl) ?_
  refine mg_0_octet C w k1174 d_M_image_17 ?_
  refine lv_iconst (v := 1) hx hb d_M_image_20 (by decide) ?_
  refine lv_aload_n hx hb d_M_image_21 rfl (lv_at hl 0 rfl) ?_
  refine mg_0_now C w k1149 d_M_image_22 ?_
  refine lv_iconst (v := 0) hx hb d_M_image_25 (by decide) ?_
  refine ml_41 C w (by decide) d_M_image_26 ?_
  refine lv_sipush (v := 256) hx hb d_M_image_27 (by decide) ?_
  refine r_irem hx hb d_M_image_30 (by decide) ?_
  refine ms_45 C w (by decide) d_M_image_31 (fun σ_2 H locs eσ_2 w => ?_)
  have hf := lt_e eσ_2 hf
  refine lv_aload_n hx hb d_M_image_32 rfl (lv_at hl 0 rfl) ?_
  refine mg_0_octet C w k1174 d_M_image_33 ?_
  refine lv_iconst (v := 2) hx hb d_M_image_36 (by decide) ?_
  refine lv_aload_n hx hb d_M_image_37 rfl (lv_at hl 0 rfl) ?_
  refine mg_0_now C w k1149 d_M_image_38 ?_
  refine lv_iconst (v := 1) hx hb d_M_image_41 (by decide) ?_
  refine ml_41 C w (by decide) d_M_image_42 ?_
  refine lv_ldcw (v := 65536) hx hb hown (hts _ k1742) d_M_image_43 ?_
  refine lv_idiv hx hb d_M_image_46 (by decide) ?_
  refine ms_45 C w (by decide) d_M_image_47 (fun σ_3 H locs eσ_3 w => ?_)
  have hf := lt_e eσ_3 hf
  refine lv_aload_n hx hb d_M_image_48 rfl (lv_at hl 0 rfl) ?_
  refine mg_0_octet C w k1174 d_M_image_49 ?_
  refine lv_iconst (v := 3) hx hb d_M_image_52 (by decide) ?_
  refine lv_aload_n hx hb d_M_image_53 rfl (lv_at hl 0 rfl) ?_
  refine mg_0_now C w k1149 d_M_image_54 ?_
  refine lv_iconst (v := 1) hx hb d_M_image_57 (by decide) ?_
  refine ml_41 C w (by decide) d_M_image_58 ?_
  refine lv_sipush (v := 256) hx hb d_M_image_59 (by decide) ?_
  refine lv_idiv hx hb d_M_image_62 (by decide) ?_
  refine lv_sipush (v := 256) hx hb d_M_image_63 (by decide) ?_
  refine r_irem hx hb d_M_image_66 (by decide) ?_
  refine ms_45 C w (by decide) d_M_image_67 (fun σ_4 H locs eσ_4 w => ?_)
  have hf := lt_e eσ_4 hf
  refine lv_aload_n hx hb d_M_image_68 rfl (lv_at hl 0 rfl) ?_
  refine mg_0_octet C w k1174 d_M_image_69 ?_
  refine lv_iconst (v := 4) hx hb d_M_image_72 (by decide) ?_
  refine lv_aload_n hx hb d_M_image_73 rfl (lv_at hl 0 rfl) ?_
  refine mg_0_now C w k1149 d_M_image_74 ?_
  refine lv_iconst (v := 1) hx hb d_M_image_77 (by decide) ?_
  refine ml_41 C w (by decide) d_M_image_78 ?_
  refine lv_sipush (v := 256) hx hb d_M_image_79 (by decide) ?_
  refine r_irem hx hb d_M_image_82 (by decide) ?_
  refine ms_45 C w (by decide) d_M_image_83 (fun σ_5 H locs eσ_5 w => ?_)
  have hf := lt_e eσ_5 hf
  refine lv_iconst (v := 0) hx hb d_M_image_84 (by decide) ?_
  refine lv_istore_n (lv' := [(1, .int 0), (0, .ref (q 0))]) hx hb d_M_image_85 rfl hl (by decide) rfl (fun ls hl => ?_)
  exact t_M_image_86 C  FU 0 σ_5 _ _ _ hf w (lv_sub hl [1, 0] rfl)
def f_M_octet (x1 : Int32) (σ : St) : Option (Int32) :=
  if x1 < 0 then
    some (-1)
  else
    if (sI σ 30) ≤ x1 then
      some (-1)
    else
      gd (inB x1 10) <|
      some (sA σ 15 x1.toNatClampNeg)
set_option maxHeartbeats 4000000 in
set_option maxRecDepth 20000 in
theorem c_M_octet {l : Launch} {g : GX} {q : Nat → Nat} {x1 : Int32}  {σ : St} {r : Int32} (hf : f_M_octet  x1 σ = some r) : KK l y_M_octet prog_13_method_99_code 2 (some .int) 0 g (wM g q) σ [.ref (q 0), .int x1] (some (.int r)) (wM g q) σ := by
  refine KK_of (plainFor_of_name (by decide)) (Nat.le_of_ble_eq_true rfl) (fun p e s m below meth c A ls C w hl => ?_)
  have hl : lv_has ls 2 [(0, .ref (q 0)), (1, .int x1)] := hl
  obtain ⟨hx, hb, hml, hown, hts, hK, hA, hZ, hlocks, hr, hN⟩ := id C
  unfold f_M_octet at hf
  refine lv_iload_n hx hb d_M_octet_0 rfl (lv_at hl 1 rfl) ?_
  refine lv_if_lt (tgt := 21) hx hb d_M_octet_1 (by decide) (fun cd => ?_) (fun cd => ?_)
  · have hf := it_e cd hf
    refine lv_iconst (v := (-1)) hx hb d_M_octet_21 (by decide) ?_
    cases some_e hf
    exact k_iret C w d_M_octet_22
  · have hf := if_e cd hf
    refine lv_iload_n hx hb d_M_octet_4 rfl (lv_at hl 1 rfl) ?_
    refine lv_aload_n hx hb d_M_octet_5 rfl (lv_at hl 0 rfl) ?_
    refine mg_0_octets C w k1175 d_M_octet_6 ?_
    refine lv_icmp_ge (tgt := 21) hx hb d_M_octet_9 (by decide) (fun cd => ?_) (fun cd => ?_)
    · have hf := it_e cd hf
      refine lv_iconst (v := (-1)) hx hb d_M_octet_21 (by decide) ?_
      cases some_e hf
      exact k_iret C w d_M_octet_22
    · have hf := if_e cd hf
      refine lv_aload_n hx hb d_M_octet_12 rfl (lv_at hl 0 rfl) ?_
      refine mg_0_octet C w k1174 d_M_octet_13 ?_
      refine lv_iload_n hx hb d_M_octet_16 rfl (lv_at hl 1 rfl) ?_
      obtain ⟨g_1, hf⟩ := gd_e hf
      refine ml_45 C w g_1 d_M_octet_17 ?_
      refine lv_goto (tgt := 22) hx hb d_M_octet_18 (by decide) ?_
      cases some_e hf
      exact k_iret C w d_M_octet_22
def f_M_checked_2_6b (k6 : Int32 → Int32 → Int32 → St → Option (Int32)) (x1 : Int32) (x2 : Int32) (x3 : Int32) (σ : St) : Option (Int32) :=
  if x1 ≤ x3 then
    some x2
  else
    gd (inB x3 1600) <|
    lt ((iR ((3 * x2) + (sA σ 0 x3.toNatClampNeg)) 253)) fun x_2 =>
    lt ((x3 + 1)) fun x_3 =>
    k6 x1 x_2 x_3 σ
def f_M_checked_2_6 : Nat → Int32 → Int32 → Int32 → St → Option (Int32)
  | 0 => fun _ _ _ _ => none
  | n + 1 => f_M_checked_2_6b   (f_M_checked_2_6   n)
def f_M_checked_2 (x1 : Int32) (σ : St) : Option (Int32) :=
  f_M_checked_2_6 FU x1 139 0 σ
set_option maxHeartbeats 4000000 in
set_option maxRecDepth 20000 in
theorem t_M_checked_2_6b {r : Int32} {σ : St} (C : Cx g A p s m av meth c prog_13_method_97_code 4 "BellHammerModel" (some .int)) {k6 : Int32 → Int32 → Int32 → St → Option (Int32)} (hk6 : ∀ (x1 : Int32) (x2 : Int32) (x3 : Int32) (H : Heap) (locs : List Loc) (ls : Array Slot), k6 x1 x2 x3 σ = some r → Wd g (wM g q) A s σ H locs → lv_has ls 4 [(0, .ref (q 28)), (1, .int x1), (2, .int x2), (3, .int x3)] → WK p l e s m av below meth c 0 g (wM g q) A (some (.int r)) σ H locs (F0 m 6 ls []))  {x1 : Int32} {x2 : Int32} {x3 : Int32} {H : Heap} {locs : List Loc} {ls : Array Slot} (hf : f_M_checked_2_6b  k6 x1 x2 x3 σ = some r) (w : Wd g (wM g q) A s σ H locs) (hl : lv_has ls 4 [(0, .ref (q 28)), (1, .int x1), (2, .int x2), (3, .int x3)]) : WK p l e s m av below meth c 0 g (wM g q) A (some (.int r)) σ H locs (F0 m 6 ls []) := by
  obtain ⟨hx, hb, hml, hown, hts, hK, hA, hZ, hlocks, hr, hN⟩ := id C
  unfold f_M_checked_2_6b at hf
  refine lv_iload_n hx hb d_M_checked_6 rfl (lv_at hl 3 rfl) ?_
  refine lv_iload_n hx hb d_M_checked_7 rfl (lv_at hl 1 rfl) ?_
  refine lv_icmp_ge (tgt := 29) hx hb d_M_checked_8 (by decide) (fun cd => ?_) (fun cd => ?_)
  · have hf := it_e cd hf
    refine lv_iload_n hx hb d_M_checked_29 rfl (lv_at hl 2 rfl) ?_
    cases some_e hf
    exact k_iret C w d_M_checked_30
  · have hf := if_e cd hf
    refine lv_iconst (v := 3) hx hb d_M_checked_11 (by decide) ?_
    refine lv_iload_n hx hb d_M_checked_12 rfl (lv_at hl 2 rfl) ?_
    refine lv_imul hx hb d_M_checked_13 ?_
    refine lv_aload_n hx hb d_M_checked_14 rfl (lv_at hl 0 rfl) ?_
    refine lv_iload_n hx hb d_M_checked_15 rfl (lv_at hl 3 rfl) ?_
    obtain ⟨g_1, hf⟩ := gd_e hf
    refine ml_28 C w g_1 d_M_checked_16 ?_
    refine lv_iadd hx hb d_M_checked_17 ?_
    refine lv_sipush (v := 253) hx hb d_M_checked_18 (by decide) ?_
    refine r_irem hx hb d_M_checked_21 (by decide) ?_
    refine lv_topi (fun x_2 ex_2 => ?_)
    have hf := lt_e ex_2 hf
    refine lv_istore_n (lv' := [(2, .int x_2), (0, .ref (q 28)), (1, .int x1), (3, .int x3)]) hx hb d_M_checked_22 rfl hl (by decide) rfl (fun ls hl => ?_)
    obtain ⟨x_3, ex_3⟩ : ∃ y : Int32, y = (x3 + 1) := ⟨_, rfl⟩
    have hf := lt_e ex_3 hf
    refine lv_iinc (v := x_3) (lv' := [(3, .int x_3), (2, .int x_2), (0, .ref (q 28)), (1, .int x1)]) hx hb d_M_checked_23 hl (k := 3) rfl (by rw [ex_3]; rfl) (by decide) rfl (fun ls hl => ?_)
    refine lv_goto (tgt := 6) hx hb d_M_checked_26 (by decide) ?_
    exact hk6 x1 x_2 x_3  _ _ _ hf w (lv_sub hl [2, 3, 1, 0] rfl)
set_option maxHeartbeats 4000000 in
set_option maxRecDepth 20000 in
theorem t_M_checked_2_6 {r : Int32} {σ : St} (C : Cx g A p s m av meth c prog_13_method_97_code 4 "BellHammerModel" (some .int))  : ∀ (n : Nat) (x1 : Int32) (x2 : Int32) (x3 : Int32) (H : Heap) (locs : List Loc) (ls : Array Slot), f_M_checked_2_6   n x1 x2 x3 σ = some r → Wd g (wM g q) A s σ H locs → lv_has ls 4 [(0, .ref (q 28)), (1, .int x1), (2, .int x2), (3, .int x3)] → WK p l e s m av below meth c 0 g (wM g q) A (some (.int r)) σ H locs (F0 m 6 ls []) := by
  intro n
  induction n with
  | zero => intro x1 x2 x3 H locs ls hf; exact absurd hf (by intro z; cases z)
  | succ n ih => intro x1 x2 x3 H locs ls hf w hl; exact t_M_checked_2_6b C  ih hf w hl
set_option maxHeartbeats 4000000 in
set_option maxRecDepth 20000 in
theorem c_M_checked_2 {l : Launch} {g : GX} {q : Nat → Nat} {x1 : Int32}  {σ : St} {r : Int32} (hf : f_M_checked_2  x1 σ = some r) : KK l y_M_checked prog_13_method_97_code 4 (some .int) 0 g (wM g q) σ [.ref (q 28), .int x1] (some (.int r)) (wM g q) σ := by
  refine KK_of (plainFor_of_name (by decide)) (Nat.le_of_ble_eq_true rfl) (fun p e s m below meth c A ls C w hl => ?_)
  have hl : lv_has ls 4 [(0, .ref (q 28)), (1, .int x1)] := hl
  obtain ⟨hx, hb, hml, hown, hts, hK, hA, hZ, hlocks, hr, hN⟩ := id C
  unfold f_M_checked_2 at hf
  refine lv_sipush (v := 139) hx hb d_M_checked_0 (by decide) ?_
  refine lv_istore_n (lv' := [(2, .int 139), (0, .ref (q 28)), (1, .int x1)]) hx hb d_M_checked_3 rfl hl (by decide) rfl (fun ls hl => ?_)
  refine lv_iconst (v := 0) hx hb d_M_checked_4 (by decide) ?_
  refine lv_istore_n (lv' := [(3, .int 0), (2, .int 139), (0, .ref (q 28)), (1, .int x1)]) hx hb d_M_checked_5 rfl hl (by decide) rfl (fun ls hl => ?_)
  exact t_M_checked_2_6 C  FU x1 139 0  _ _ _ hf w (lv_sub hl [2, 3, 1, 0] rfl)
def f_M_isTold (x1 : Int32) (σ : St) : Option (Int32) :=
  if x1 = 10 then
    bp (f_M_checked_2 9 σ) fun r_2 =>
    if (sA σ 0 (9 : Int32).toNatClampNeg) = r_2 then
      lt (((256 * (sA σ 0 (0 : Int32).toNatClampNeg)) + (sA σ 0 (1 : Int32).toNatClampNeg))) fun x_3 =>
      lt ((((65536 * (sA σ 0 (2 : Int32).toNatClampNeg)) + (256 * (sA σ 0 (3 : Int32).toNatClampNeg))) + (sA σ 0 (4 : Int32).toNatClampNeg))) fun x_4 =>
      if 999 < x_3 then
        some 0
      else
        if (288 * x_3) < x_4 then
          some 0
        else
          bp (f_M_ruleMany σ) fun r_6 =>
          if (1 <<< (r_6 &&& 31)) ≤ (sA σ 0 (5 : Int32).toNatClampNeg) then
            some 0
          else
            bp (f_M_isIn (((sA σ 0 (6 : Int32).toNatClampNeg)).toInt64) 1 99 σ) fun r_8 =>
            if r_8 = 0 then
              some 0
            else
              if 90 < (sA σ 0 (7 : Int32).toNatClampNeg) then
                some 0
              else
                bp (f_M_isIn (((sA σ 0 (8 : Int32).toNatClampNeg)).toInt64) 1 9 σ) fun r_10 =>
                if r_10 = 0 then
                  some 0
                else
                  some 1
    else
      some 0
  else
    some 0
set_option maxHeartbeats 4000000 in
set_option maxRecDepth 20000 in
theorem c_M_isTold {l : Launch} {g : GX} {q : Nat → Nat} {x1 : Int32}  {σ : St} {r : Int32} (hf : f_M_isTold  x1 σ = some r) : KK l y_M_isTold prog_13_method_100_code 4 (some .boolean) 1 g (wM g q) σ [.ref (q 0), .int x1] (some (.int r)) (wM g q) σ := by
  refine KK_of (plainFor_of_name (by decide)) (Nat.le_of_ble_eq_true rfl) (fun p e s m below meth c A ls C w hl => ?_)
  have hl : lv_has ls 4 [(0, .ref (q 0)), (1, .int x1)] := hl
  obtain ⟨hx, hb, hml, hown, hts, hK, hA, hZ, hlocks, hr, hN⟩ := id C
  unfold f_M_isTold at hf
  refine lv_iload_n hx hb d_M_isTold_0 rfl (lv_at hl 1 rfl) ?_
  refine lv_bipush (v := 10) hx hb d_M_isTold_1 (by decide) ?_
  refine lv_icmp_ne (tgt := 25) hx hb d_M_isTold_3 (by decide) (fun cd => ?_) (fun cd => ?_)
  · have hf := if_e cd hf
    refine lv_iconst (v := 0) hx hb d_M_isTold_25 (by decide) ?_
    cases some_e hf
    exact k_zret C w (by decide) d_M_isTold_26
  · have hf := it_e cd hf
    refine lv_aload_n hx hb d_M_isTold_6 rfl (lv_at hl 0 rfl) ?_
    refine mg_0_tape C w k1094 d_M_isTold_7 ?_
    refine lv_bipush (v := 9) hx hb d_M_isTold_10 (by decide) ?_
    refine ml_28 C w (by decide) d_M_isTold_12 ?_
    refine lv_aload_n hx hb d_M_isTold_13 rfl (lv_at hl 0 rfl) ?_
    refine mg_0_tape C w k1094 d_M_isTold_14 ?_
    refine lv_bipush (v := 9) hx hb d_M_isTold_17 (by decide) ?_
    obtain ⟨r_2, h_1, hf⟩ := bp_e hf
    refine k_callS (As := [.ref (q 28), .int 9]) (rest := [.int (sA σ 0 (9 : Int32).toNatClampNeg)]) C w (c_M_checked_2 (q := q) h_1) cv_M_checked k1743 (by decide) hl.1 rfl (Nat.le_of_ble_eq_true rfl) d_M_isTold_19 (fun H locs w => ?_)
    show WK p l e s m _ below meth c 1 g (wM g q) A (some (.int r)) σ H locs (F0 m 22 ls [.int r_2, .int (sA σ 0 (9 : Int32).toNatClampNeg)])
    refine lv_icmp_eq (tgt := 27) hx hb d_M_isTold_22 (by decide) (fun cd => ?_) (fun cd => ?_)
    · have hf := it_e cd hf
      refine lv_sipush (v := 256) hx hb d_M_isTold_27 (by decide) ?_
      refine lv_aload_n hx hb d_M_isTold_30 rfl (lv_at hl 0 rfl) ?_
      refine mg_0_tape C w k1094 d_M_isTold_31 ?_
      refine lv_iconst (v := 0) hx hb d_M_isTold_34 (by decide) ?_
      refine ml_28 C w (by decide) d_M_isTold_35 ?_
      refine lv_imul hx hb d_M_isTold_36 ?_
      refine lv_aload_n hx hb d_M_isTold_37 rfl (lv_at hl 0 rfl) ?_
      refine mg_0_tape C w k1094 d_M_isTold_38 ?_
      refine lv_iconst (v := 1) hx hb d_M_isTold_41 (by decide) ?_
      refine ml_28 C w (by decide) d_M_isTold_42 ?_
      refine lv_iadd hx hb d_M_isTold_43 ?_
      refine lv_topi (fun x_3 ex_3 => ?_)
      have hf := lt_e ex_3 hf
      refine lv_istore_n (lv' := [(2, .int x_3), (0, .ref (q 0)), (1, .int x1)]) hx hb d_M_isTold_44 rfl hl (by decide) rfl (fun ls hl => ?_)
      refine lv_ldcw (v := 65536) hx hb hown (hts _ k1742) d_M_isTold_45 ?_
      refine lv_aload_n hx hb d_M_isTold_48 rfl (lv_at hl 1 rfl) ?_
      refine mg_0_tape C w k1094 d_M_isTold_49 ?_
      refine lv_iconst (v := 2) hx hb d_M_isTold_52 (by decide) ?_
      refine ml_28 C w (by decide) d_M_isTold_53 ?_
      refine lv_imul hx hb d_M_isTold_54 ?_
      refine lv_sipush (v := 256) hx hb d_M_isTold_55 (by decide) ?_
      refine lv_aload_n hx hb d_M_isTold_58 rfl (lv_at hl 1 rfl) ?_
      refine mg_0_tape C w k1094 d_M_isTold_59 ?_
      refine lv_iconst (v := 3) hx hb d_M_isTold_62 (by decide) ?_
      refine ml_28 C w (by decide) d_M_isTold_63 ?_
      refine lv_imul hx hb d_M_isTold_64 ?_
      refine lv_iadd hx hb d_M_isTold_65 ?_
      refine lv_aload_n hx hb d_M_isTold_66 rfl (lv_at hl 1 rfl) ?_
      refine mg_0_tape C w k1094 d_M_isTold_67 ?_
      refine lv_iconst (v := 4) hx hb d_M_isTold_70 (by decide) ?_
      refine ml_28 C w (by decide) d_M_isTold_71 ?_
      refine lv_iadd hx hb d_M_isTold_72 ?_
      refine lv_topi (fun x_4 ex_4 => ?_)
      have hf := lt_e ex_4 hf
      refine lv_istore_n (lv' := [(3, .int x_4), (2, .int x_3), (0, .ref (q 0)), (1, .int x1)]) hx hb d_M_isTold_73 rfl hl (by decide) rfl (fun ls hl => ?_)
      refine lv_iload_n hx hb d_M_isTold_74 rfl (lv_at hl 1 rfl) ?_
      refine lv_sipush (v := 999) hx hb d_M_isTold_75 (by decide) ?_
      refine lv_icmp_gt (tgt := 157) hx hb d_M_isTold_78 (by decide) (fun cd => ?_) (fun cd => ?_)
      · have hf := it_e cd hf
        refine lv_iconst (v := 0) hx hb d_M_isTold_157 (by decide) ?_
        cases some_e hf
        exact k_zret C w (by decide) d_M_isTold_158
      · have hf := if_e cd hf
        refine lv_iload_n hx hb d_M_isTold_81 rfl (lv_at hl 0 rfl) ?_
        refine lv_sipush (v := 288) hx hb d_M_isTold_82 (by decide) ?_
        refine lv_iload_n hx hb d_M_isTold_85 rfl (lv_at hl 1 rfl) ?_
        refine lv_imul hx hb d_M_isTold_86 ?_
        refine lv_icmp_gt (tgt := 157) hx hb d_M_isTold_87 (by decide) (fun cd => ?_) (fun cd => ?_)
        · have hf := it_e cd hf
          refine lv_iconst (v := 0) hx hb d_M_isTold_157 (by decide) ?_
          cases some_e hf
          exact k_zret C w (by decide) d_M_isTold_158
        · have hf := if_e cd hf
          refine lv_aload_n hx hb d_M_isTold_90 rfl (lv_at hl 2 rfl) ?_
          refine mg_0_tape C w k1094 d_M_isTold_91 ?_
          refine lv_iconst (v := 5) hx hb d_M_isTold_94 (by decide) ?_
          refine ml_28 C w (by decide) d_M_isTold_95 ?_
          refine lv_iconst (v := 1) hx hb d_M_isTold_96 (by decide) ?_
          refine lv_aload_n hx hb d_M_isTold_97 rfl (lv_at hl 2 rfl) ?_
          obtain ⟨r_6, h_5, hf⟩ := bp_e hf
          refine k_callV (As := []) (rest := [.int 1, .int (sA σ 0 (5 : Int32).toNatClampNeg)]) C w (c_M_ruleMany (q := q) h_5) cv_M_ruleMany k1513 (mr_0 C w) (by decide) hl.1 rfl (Nat.le_of_ble_eq_true rfl) d_M_isTold_98 (fun H locs w => ?_)
          show WK p l e s m _ below meth c 1 g (wM g q) A (some (.int r)) σ H locs (F0 m 101 ls [.int r_6, .int 1, .int (sA σ 0 (5 : Int32).toNatClampNeg)])
          refine lv_ishl hx hb d_M_isTold_101 ?_
          refine lv_icmp_ge (tgt := 157) hx hb d_M_isTold_102 (by decide) (fun cd => ?_) (fun cd => ?_)
          · have hf := it_e cd hf
            refine lv_iconst (v := 0) hx hb d_M_isTold_157 (by decide) ?_
            cases some_e hf
            exact k_zret C w (by decide) d_M_isTold_158
          · have hf := if_e cd hf
            refine lv_aload_n hx hb d_M_isTold_105 rfl (lv_at hl 2 rfl) ?_
            refine mg_0_tape C w k1094 d_M_isTold_106 ?_
            refine lv_bipush (v := 6) hx hb d_M_isTold_109 (by decide) ?_
            refine ml_28 C w (by decide) d_M_isTold_111 ?_
            refine lv_i2l hx hb d_M_isTold_112 rfl ?_
            refine lv_lconst (v := 1) hx hb d_M_isTold_113 (by decide) ?_
            refine lv_ldc2 (v := 99) hx hb hown (hts _ k1546) d_M_isTold_114 ?_
            obtain ⟨r_8, h_7, hf⟩ := bp_e hf
            refine k_callS (As := [.long ((sA σ 0 (6 : Int32).toNatClampNeg)).toInt64, .long 1, .long 99]) (rest := []) C w (c_M_isIn (q := q) h_7) cv_M_isIn k1410 (by decide) hl.1 rfl (Nat.le_of_ble_eq_true rfl) d_M_isTold_117 (fun H locs w => ?_)
            show WK p l e s m _ below meth c 1 g (wM g q) A (some (.int r)) σ H locs (F0 m 120 ls [.int r_8])
            refine lv_if_eq (tgt := 157) hx hb d_M_isTold_120 (by decide) (fun cd => ?_) (fun cd => ?_)
            · have hf := it_e cd hf
              refine lv_iconst (v := 0) hx hb d_M_isTold_157 (by decide) ?_
              cases some_e hf
              exact k_zret C w (by decide) d_M_isTold_158
            · have hf := if_e cd hf
              refine lv_aload_n hx hb d_M_isTold_123 rfl (lv_at hl 2 rfl) ?_
              refine mg_0_tape C w k1094 d_M_isTold_124 ?_
              refine lv_bipush (v := 7) hx hb d_M_isTold_127 (by decide) ?_
              refine ml_28 C w (by decide) d_M_isTold_129 ?_
              refine lv_bipush (v := 90) hx hb d_M_isTold_130 (by decide) ?_
              refine lv_icmp_gt (tgt := 157) hx hb d_M_isTold_132 (by decide) (fun cd => ?_) (fun cd => ?_)
              · have hf := it_e cd hf
                refine lv_iconst (v := 0) hx hb d_M_isTold_157 (by decide) ?_
                cases some_e hf
                exact k_zret C w (by decide) d_M_isTold_158
              · have hf := if_e cd hf
                refine lv_aload_n hx hb d_M_isTold_135 rfl (lv_at hl 2 rfl) ?_
                refine mg_0_tape C w k1094 d_M_isTold_136 ?_
                refine lv_bipush (v := 8) hx hb d_M_isTold_139 (by decide) ?_
                refine ml_28 C w (by decide) d_M_isTold_141 ?_
                refine lv_i2l hx hb d_M_isTold_142 rfl ?_
                refine lv_lconst (v := 1) hx hb d_M_isTold_143 (by decide) ?_
                refine lv_ldc2 (v := 9) hx hb hown (hts _ k1552) d_M_isTold_144 ?_
                obtain ⟨r_10, h_9, hf⟩ := bp_e hf
                refine k_callS (As := [.long ((sA σ 0 (8 : Int32).toNatClampNeg)).toInt64, .long 1, .long 9]) (rest := []) C w (c_M_isIn (q := q) h_9) cv_M_isIn k1410 (by decide) hl.1 rfl (Nat.le_of_ble_eq_true rfl) d_M_isTold_147 (fun H locs w => ?_)
                show WK p l e s m _ below meth c 1 g (wM g q) A (some (.int r)) σ H locs (F0 m 150 ls [.int r_10])
                refine lv_if_eq (tgt := 157) hx hb d_M_isTold_150 (by decide) (fun cd => ?_) (fun cd => ?_)
                · have hf := it_e cd hf
                  refine lv_iconst (v := 0) hx hb d_M_isTold_157 (by decide) ?_
                  cases some_e hf
                  exact k_zret C w (by decide) d_M_isTold_158
                · have hf := if_e cd hf
                  refine lv_iconst (v := 1) hx hb d_M_isTold_153 (by decide) ?_
                  refine lv_goto (tgt := 158) hx hb d_M_isTold_154 (by decide) ?_
                  cases some_e hf
                  exact k_zret C w (by decide) d_M_isTold_158
    · have hf := if_e cd hf
      refine lv_iconst (v := 0) hx hb d_M_isTold_25 (by decide) ?_
      cases some_e hf
      exact k_zret C w (by decide) d_M_isTold_26
def f_M_on_89b (k89 : Int32 → St → Option (Int32 × St)) (x2 : Int32) (σ : St) : Option (Int32 × St) :=
  if 4 ≤ x2 then
    lt (uA σ 11 (upd (sA σ 11) (6 : Int32).toNatClampNeg 0)) fun σ_1 =>
    lt (uI σ_1 26 0) fun σ_2 =>
    some (1, σ_2)
  else
    gd (inB (5 + x2) 1600) <|
    gd (inB (2 + x2) 10) <|
    lt (uA σ 11 (upd (sA σ 11) (2 + x2).toNatClampNeg (sA σ 0 (5 + x2).toNatClampNeg))) fun σ_5 =>
    lt ((x2 + 1)) fun x_6 =>
    k89 x_6 σ_5
def f_M_on_89 : Nat → Int32 → St → Option (Int32 × St)
  | 0 => fun _ _ => none
  | n + 1 => f_M_on_89b   (f_M_on_89   n)
def f_M_on (σ : St) : Option (Int32 × St) :=
  lt ((sI σ 0)) fun x_1 =>
  lt (uI σ 0 0) fun σ_2 =>
  bp (f_M_isTold x_1 σ_2) fun r_4 =>
  if r_4 = 0 then
    lt (uA σ_2 1 (upd (sA σ_2 1) (5 : Int32).toNatClampNeg ((sA σ_2 1 (5 : Int32).toNatClampNeg) + 1))) fun σ_7 =>
    some (0, σ_7)
  else
    lt (uA σ_2 11 (upd (sA σ_2 11) (0 : Int32).toNatClampNeg ((256 * (sA σ_2 0 (0 : Int32).toNatClampNeg)) + (sA σ_2 0 (1 : Int32).toNatClampNeg)))) fun σ_5 =>
    lt (uA σ_5 11 (upd (sA σ_5 11) (1 : Int32).toNatClampNeg (((65536 * (sA σ_5 0 (2 : Int32).toNatClampNeg)) + (256 * (sA σ_5 0 (3 : Int32).toNatClampNeg))) + (sA σ_5 0 (4 : Int32).toNatClampNeg)))) fun σ_6 =>
    f_M_on_89 FU 0 σ_6
set_option maxHeartbeats 4000000 in
set_option maxRecDepth 20000 in
theorem t_M_on_89b {r : Int32} {σ2 : St} (C : Cx g A p s m av meth c prog_13_method_101_code 3 "BellHammerModel" (some .boolean)) {k89 : Int32 → St → Option (Int32 × St)} (hk89 : ∀ (x2 : Int32) (σ : St) (H : Heap) (locs : List Loc) (ls : Array Slot), k89 x2 σ = some (r, σ2) → Wd g (wM g q) A s σ H locs → lv_has ls 3 [(0, .ref (q 0)), (2, .int x2)] → WK p l e s m av below meth c 2 g (wM g q) A (some (.int r)) σ2 H locs (F0 m 89 ls []))  {x2 : Int32} {σ : St} {H : Heap} {locs : List Loc} {ls : Array Slot} (hf : f_M_on_89b  k89 x2 σ = some (r, σ2)) (w : Wd g (wM g q) A s σ H locs) (hl : lv_has ls 3 [(0, .ref (q 0)), (2, .int x2)]) : WK p l e s m av below meth c 2 g (wM g q) A (some (.int r)) σ2 H locs (F0 m 89 ls []) := by
  obtain ⟨hx, hb, hml, hown, hts, hK, hA, hZ, hlocks, hr, hN⟩ := id C
  unfold f_M_on_89b at hf
  refine lv_iload_n hx hb d_M_on_89 rfl (lv_at hl 1 rfl) ?_
  refine lv_iconst (v := 4) hx hb d_M_on_90 (by decide) ?_
  refine lv_icmp_ge (tgt := 116) hx hb d_M_on_91 (by decide) (fun cd => ?_) (fun cd => ?_)
  · have hf := it_e cd hf
    refine lv_aload_n hx hb d_M_on_116 rfl (lv_at hl 0 rfl) ?_
    refine mg_0_now C w k1149 d_M_on_117 ?_
    refine lv_bipush (v := 6) hx hb d_M_on_120 (by decide) ?_
    refine lv_iconst (v := 0) hx hb d_M_on_122 (by decide) ?_
    refine ms_41 C w (by decide) d_M_on_123 (fun σ_1 H locs eσ_1 w => ?_)
    have hf := lt_e eσ_1 hf
    refine lv_aload_n hx hb d_M_on_124 rfl (lv_at hl 0 rfl) ?_
    refine lv_iconst (v := 0) hx hb d_M_on_125 (by decide) ?_
    refine mp_0_undoable C w k1168 d_M_on_126 (fun σ_2 H locs eσ_2 w => ?_)
    have hf := lt_e eσ_2 hf
    refine lv_iconst (v := 1) hx hb d_M_on_129 (by decide) ?_
    obtain ⟨rfl, rfl⟩ := some2_e hf
    exact k_zret C w (by decide) d_M_on_130
  · have hf := if_e cd hf
    refine lv_aload_n hx hb d_M_on_94 rfl (lv_at hl 0 rfl) ?_
    refine mg_0_now C w k1149 d_M_on_95 ?_
    refine lv_iconst (v := 2) hx hb d_M_on_98 (by decide) ?_
    refine lv_iload_n hx hb d_M_on_99 rfl (lv_at hl 1 rfl) ?_
    refine lv_iadd hx hb d_M_on_100 ?_
    refine lv_aload_n hx hb d_M_on_101 rfl (lv_at hl 0 rfl) ?_
    refine mg_0_tape C w k1094 d_M_on_102 ?_
    refine lv_iconst (v := 5) hx hb d_M_on_105 (by decide) ?_
    refine lv_iload_n hx hb d_M_on_106 rfl (lv_at hl 1 rfl) ?_
    refine lv_iadd hx hb d_M_on_107 ?_
    obtain ⟨g_3, hf⟩ := gd_e hf
    refine ml_28 C w g_3 d_M_on_108 ?_
    obtain ⟨g_4, hf⟩ := gd_e hf
    refine ms_41 C w g_4 d_M_on_109 (fun σ_5 H locs eσ_5 w => ?_)
    have hf := lt_e eσ_5 hf
    obtain ⟨x_6, ex_6⟩ : ∃ y : Int32, y = (x2 + 1) := ⟨_, rfl⟩
    have hf := lt_e ex_6 hf
    refine lv_iinc (v := x_6) (lv' := [(2, .int x_6), (0, .ref (q 0))]) hx hb d_M_on_110 hl (k := 1) rfl (by rw [ex_6]; rfl) (by decide) rfl (fun ls hl => ?_)
    refine lv_goto (tgt := 89) hx hb d_M_on_113 (by decide) ?_
    exact hk89 x_6 σ_5 _ _ _ hf w (lv_sub hl [1, 0] rfl)
set_option maxHeartbeats 4000000 in
set_option maxRecDepth 20000 in
theorem t_M_on_89 {r : Int32} {σ2 : St} (C : Cx g A p s m av meth c prog_13_method_101_code 3 "BellHammerModel" (some .boolean))  : ∀ (n : Nat) (x2 : Int32) (σ : St) (H : Heap) (locs : List Loc) (ls : Array Slot), f_M_on_89   n x2 σ = some (r, σ2) → Wd g (wM g q) A s σ H locs → lv_has ls 3 [(0, .ref (q 0)), (2, .int x2)] → WK p l e s m av below meth c 2 g (wM g q) A (some (.int r)) σ2 H locs (F0 m 89 ls []) := by
  intro n
  induction n with
  | zero => intro x2 σ H locs ls hf; exact absurd hf (by intro z; cases z)
  | succ n ih => intro x2 σ H locs ls hf w hl; exact t_M_on_89b C  ih hf w hl
set_option maxHeartbeats 4000000 in
set_option maxRecDepth 20000 in
theorem c_M_on {l : Launch} {g : GX} {q : Nat → Nat}  {σ : St} {r : Int32} {σ2 : St} (hf : f_M_on   σ = some (r, σ2)) : KK l y_M_on prog_13_method_101_code 3 (some .boolean) 2 g (wM g q) σ [.ref (q 0)] (some (.int r)) (wM g q) σ2 := by
  refine KK_of (plainFor_of_name (by decide)) (Nat.le_of_ble_eq_true rfl) (fun p e s m below meth c A ls C w hl => ?_)
  have hl : lv_has ls 3 [(0, .ref (q 0))] := hl
  obtain ⟨hx, hb, hml, hown, hts, hK, hA, hZ, hlocks, hr, hN⟩ := id C
  unfold f_M_on at hf
  refine lv_aload_n hx hb d_M_on_0 rfl (lv_at hl 0 rfl) ?_
  refine mg_0_taped C w k1095 d_M_on_1 ?_
  refine lv_topi (fun x_1 ex_1 => ?_)
  have hf := lt_e ex_1 hf
  refine lv_istore_n (lv' := [(1, .int x_1), (0, .ref (q 0))]) hx hb d_M_on_4 rfl hl (by decide) rfl (fun ls hl => ?_)
  refine lv_aload_n hx hb d_M_on_5 rfl (lv_at hl 1 rfl) ?_
  refine lv_iconst (v := 0) hx hb d_M_on_6 (by decide) ?_
  refine mp_0_taped C w k1095 d_M_on_7 (fun σ_2 H locs eσ_2 w => ?_)
  have hf := lt_e eσ_2 hf
  refine lv_aload_n hx hb d_M_on_10 rfl (lv_at hl 1 rfl) ?_
  refine lv_iload_n hx hb d_M_on_11 rfl (lv_at hl 0 rfl) ?_
  obtain ⟨r_4, h_3, hf⟩ := bp_e hf
  refine k_callV (As := [.int x_1]) (rest := []) C w (c_M_isTold (q := q) h_3) cv_M_isTold k1754 (mr_0 C w) (by decide) hl.1 rfl (Nat.le_of_ble_eq_true rfl) d_M_on_12 (fun H locs w => ?_)
  show WK p l e s m _ below meth c 2 g (wM g q) A (some (.int r)) σ2 H locs (F0 m 15 ls [.int r_4])
  refine lv_if_ne (tgt := 30) hx hb d_M_on_15 (by decide) (fun cd => ?_) (fun cd => ?_)
  · have hf := if_e cd hf
    refine lv_aload_n hx hb d_M_on_30 rfl (lv_at hl 1 rfl) ?_
    refine mg_0_now C w k1149 d_M_on_31 ?_
    refine lv_iconst (v := 0) hx hb d_M_on_34 (by decide) ?_
    refine lv_sipush (v := 256) hx hb d_M_on_35 (by decide) ?_
    refine lv_aload_n hx hb d_M_on_38 rfl (lv_at hl 1 rfl) ?_
    refine mg_0_tape C w k1094 d_M_on_39 ?_
    refine lv_iconst (v := 0) hx hb d_M_on_42 (by decide) ?_
    refine ml_28 C w (by decide) d_M_on_43 ?_
    refine lv_imul hx hb d_M_on_44 ?_
    refine lv_aload_n hx hb d_M_on_45 rfl (lv_at hl 1 rfl) ?_
    refine mg_0_tape C w k1094 d_M_on_46 ?_
    refine lv_iconst (v := 1) hx hb d_M_on_49 (by decide) ?_
    refine ml_28 C w (by decide) d_M_on_50 ?_
    refine lv_iadd hx hb d_M_on_51 ?_
    refine ms_41 C w (by decide) d_M_on_52 (fun σ_5 H locs eσ_5 w => ?_)
    have hf := lt_e eσ_5 hf
    refine lv_aload_n hx hb d_M_on_53 rfl (lv_at hl 1 rfl) ?_
    refine mg_0_now C w k1149 d_M_on_54 ?_
    refine lv_iconst (v := 1) hx hb d_M_on_57 (by decide) ?_
    refine lv_ldcw (v := 65536) hx hb hown (hts _ k1742) d_M_on_58 ?_
    refine lv_aload_n hx hb d_M_on_61 rfl (lv_at hl 1 rfl) ?_
    refine mg_0_tape C w k1094 d_M_on_62 ?_
    refine lv_iconst (v := 2) hx hb d_M_on_65 (by decide) ?_
    refine ml_28 C w (by decide) d_M_on_66 ?_
    refine lv_imul hx hb d_M_on_67 ?_
    refine lv_sipush (v := 256) hx hb d_M_on_68 (by decide) ?_
    refine lv_aload_n hx hb d_M_on_71 rfl (lv_at hl 1 rfl) ?_
    refine mg_0_tape C w k1094 d_M_on_72 ?_
    refine lv_iconst (v := 3) hx hb d_M_on_75 (by decide) ?_
    refine ml_28 C w (by decide) d_M_on_76 ?_
    refine lv_imul hx hb d_M_on_77 ?_
    refine lv_iadd hx hb d_M_on_78 ?_
    refine lv_aload_n hx hb d_M_on_79 rfl (lv_at hl 1 rfl) ?_
    refine mg_0_tape C w k1094 d_M_on_80 ?_
    refine lv_iconst (v := 4) hx hb d_M_on_83 (by decide) ?_
    refine ml_28 C w (by decide) d_M_on_84 ?_
    refine lv_iadd hx hb d_M_on_85 ?_
    refine ms_41 C w (by decide) d_M_on_86 (fun σ_6 H locs eσ_6 w => ?_)
    have hf := lt_e eσ_6 hf
    refine lv_iconst (v := 0) hx hb d_M_on_87 (by decide) ?_
    refine lv_istore_n (lv' := [(2, .int 0), (1, .int x_1), (0, .ref (q 0))]) hx hb d_M_on_88 rfl hl (by decide) rfl (fun ls hl => ?_)
    exact t_M_on_89 C  FU 0 σ_6 _ _ _ hf w (lv_sub hl [2, 0] rfl)
  · have hf := it_e cd hf
    refine lv_aload_n hx hb d_M_on_18 rfl (lv_at hl 1 rfl) ?_
    refine mg_0_refused C w k1103 d_M_on_19 ?_
    refine lv_iconst (v := 5) hx hb d_M_on_22 (by decide) ?_
    refine lv_dup2_11 hx hb d_M_on_23 rfl rfl ?_
    refine ml_29 C w (by decide) d_M_on_24 ?_
    refine lv_iconst (v := 1) hx hb d_M_on_25 (by decide) ?_
    refine lv_iadd hx hb d_M_on_26 ?_
    refine ms_29 C w (by decide) d_M_on_27 (fun σ_7 H locs eσ_7 w => ?_)
    have hf := lt_e eσ_7 hf
    refine lv_iconst (v := 0) hx hb d_M_on_28 (by decide) ?_
    obtain ⟨rfl, rfl⟩ := some2_e hf
    exact k_zret C w (by decide) d_M_on_29
def f_M_status (x1 : Int32) (σ : St) : Option (Int32) :=
  bp (f_M_isIn ((x1).toInt64) 0 5 σ) fun r_2 =>
  if r_2 = 0 then
    some (-1)
  else
    gd (inB x1 6) <|
    some (sA σ 1 x1.toNatClampNeg)
set_option maxHeartbeats 4000000 in
set_option maxRecDepth 20000 in
theorem c_M_status {l : Launch} {g : GX} {q : Nat → Nat} {x1 : Int32}  {σ : St} {r : Int32} (hf : f_M_status  x1 σ = some r) : KK l y_M_status prog_13_method_102_code 2 (some .int) 1 g (wM g q) σ [.ref (q 0), .int x1] (some (.int r)) (wM g q) σ := by
  refine KK_of (plainFor_of_name (by decide)) (Nat.le_of_ble_eq_true rfl) (fun p e s m below meth c A ls C w hl => ?_)
  have hl : lv_has ls 2 [(0, .ref (q 0)), (1, .int x1)] := hl
  obtain ⟨hx, hb, hml, hown, hts, hK, hA, hZ, hlocks, hr, hN⟩ := id C
  unfold f_M_status at hf
  refine lv_iload_n hx hb d_M_status_0 rfl (lv_at hl 1 rfl) ?_
  refine lv_i2l hx hb d_M_status_1 rfl ?_
  refine lv_lconst (v := 0) hx hb d_M_status_2 (by decide) ?_
  refine lv_ldc2 (v := 5) hx hb hown (hts _ k1525) d_M_status_3 ?_
  obtain ⟨r_2, h_1, hf⟩ := bp_e hf
  refine k_callS (As := [.long (x1).toInt64, .long 0, .long 5]) (rest := []) C w (c_M_isIn (q := q) h_1) cv_M_isIn k1410 (by decide) hl.1 rfl (Nat.le_of_ble_eq_true rfl) d_M_status_6 (fun H locs w => ?_)
  show WK p l e s m _ below meth c 1 g (wM g q) A (some (.int r)) σ H locs (F0 m 9 ls [.int r_2])
  refine lv_if_eq (tgt := 21) hx hb d_M_status_9 (by decide) (fun cd => ?_) (fun cd => ?_)
  · have hf := it_e cd hf
    refine lv_iconst (v := (-1)) hx hb d_M_status_21 (by decide) ?_
    cases some_e hf
    exact k_iret C w d_M_status_22
  · have hf := if_e cd hf
    refine lv_aload_n hx hb d_M_status_12 rfl (lv_at hl 0 rfl) ?_
    refine mg_0_refused C w k1103 d_M_status_13 ?_
    refine lv_iload_n hx hb d_M_status_16 rfl (lv_at hl 1 rfl) ?_
    obtain ⟨g_3, hf⟩ := gd_e hf
    refine ml_29 C w g_3 d_M_status_17 ?_
    refine lv_goto (tgt := 22) hx hb d_M_status_18 (by decide) ?_
    cases some_e hf
    exact k_iret C w d_M_status_22
