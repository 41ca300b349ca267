variable {p : Program} {l : Launch} {e : Env} {s : State} {m : MethodId} {av : Array Value} {below : List Frame} {meth : Method} {c : Code} {g : GX} {q : Nat → Nat} {A : Nat → Prop}
theorem d_Parser_readProduct_0 : decode prog_5_method_20_code 0 = .ok (.aload_n 0, 1) := by decide +kernel
theorem d_Parser_readProduct_1 : decode prog_5_method_20_code 1 = .ok (.iload_n 1, 1) := by decide +kernel
theorem d_Parser_readProduct_2 : decode prog_5_method_20_code 2 = .ok (.invokevirtual 183, 3) := by decide +kernel
theorem d_Parser_readProduct_5 : decode prog_5_method_20_code 5 = .ok (.ifCond .ne 5, 3) := by decide +kernel
theorem d_Parser_readProduct_8 : decode prog_5_method_20_code 8 = .ok (.iconst 0, 1) := by decide +kernel
theorem d_Parser_readProduct_9 : decode prog_5_method_20_code 9 = .ok (.ireturn, 1) := by decide +kernel
theorem d_Parser_readProduct_10 : decode prog_5_method_20_code 10 = .ok (.iconst 0, 1) := by decide +kernel
theorem d_Parser_readProduct_11 : decode prog_5_method_20_code 11 = .ok (.istore_n 2, 1) := by decide +kernel
theorem d_Parser_readProduct_12 : decode prog_5_method_20_code 12 = .ok (.iload_n 2, 1) := by decide +kernel
theorem d_Parser_readProduct_13 : decode prog_5_method_20_code 13 = .ok (.sipush 1600, 3) := by decide +kernel
theorem d_Parser_readProduct_16 : decode prog_5_method_20_code 16 = .ok (.if_icmp .ge 80, 3) := by decide +kernel
theorem d_Parser_readProduct_19 : decode prog_5_method_20_code 19 = .ok (.aload_n 0, 1) := by decide +kernel
theorem d_Parser_readProduct_20 : decode prog_5_method_20_code 20 = .ok (.getfield 12, 3) := by decide +kernel
theorem d_Parser_readProduct_23 : decode prog_5_method_20_code 23 = .ok (.bipush 42, 2) := by decide +kernel
theorem d_Parser_readProduct_25 : decode prog_5_method_20_code 25 = .ok (.invokevirtual 60, 3) := by decide +kernel
theorem d_Parser_readProduct_28 : decode prog_5_method_20_code 28 = .ok (.ifCond .ne 15, 3) := by decide +kernel
theorem d_Parser_readProduct_31 : decode prog_5_method_20_code 31 = .ok (.aload_n 0, 1) := by decide +kernel
theorem d_Parser_readProduct_32 : decode prog_5_method_20_code 32 = .ok (.getfield 12, 3) := by decide +kernel
theorem d_Parser_readProduct_35 : decode prog_5_method_20_code 35 = .ok (.bipush 47, 2) := by decide +kernel
theorem d_Parser_readProduct_37 : decode prog_5_method_20_code 37 = .ok (.invokevirtual 60, 3) := by decide +kernel
theorem d_Parser_readProduct_40 : decode prog_5_method_20_code 40 = .ok (.ifCond .eq 56, 3) := by decide +kernel
theorem d_Parser_readProduct_43 : decode prog_5_method_20_code 43 = .ok (.aload_n 0, 1) := by decide +kernel
theorem d_Parser_readProduct_44 : decode prog_5_method_20_code 44 = .ok (.getfield 12, 3) := by decide +kernel
theorem d_Parser_readProduct_47 : decode prog_5_method_20_code 47 = .ok (.bipush 42, 2) := by decide +kernel
theorem d_Parser_readProduct_49 : decode prog_5_method_20_code 49 = .ok (.invokevirtual 60, 3) := by decide +kernel
theorem d_Parser_readProduct_52 : decode prog_5_method_20_code 52 = .ok (.ifCond .eq 9, 3) := by decide +kernel
theorem d_Parser_readProduct_55 : decode prog_5_method_20_code 55 = .ok (.sipush 10018, 3) := by decide +kernel
theorem d_Parser_readProduct_58 : decode prog_5_method_20_code 58 = .ok (.goto 6, 3) := by decide +kernel
theorem d_Parser_readProduct_61 : decode prog_5_method_20_code 61 = .ok (.sipush 10019, 3) := by decide +kernel
theorem d_Parser_readProduct_64 : decode prog_5_method_20_code 64 = .ok (.istore_n 3, 1) := by decide +kernel
theorem d_Parser_readProduct_65 : decode prog_5_method_20_code 65 = .ok (.aload_n 0, 1) := by decide +kernel
theorem d_Parser_readProduct_66 : decode prog_5_method_20_code 66 = .ok (.getfield 12, 3) := by decide +kernel
theorem d_Parser_readProduct_69 : decode prog_5_method_20_code 69 = .ok (.invokevirtual 66, 3) := by decide +kernel
theorem d_Parser_readProduct_72 : decode prog_5_method_20_code 72 = .ok (.aload_n 0, 1) := by decide +kernel
theorem d_Parser_readProduct_73 : decode prog_5_method_20_code 73 = .ok (.iload_n 1, 1) := by decide +kernel
theorem d_Parser_readProduct_74 : decode prog_5_method_20_code 74 = .ok (.invokevirtual 183, 3) := by decide +kernel
theorem d_Parser_readProduct_77 : decode prog_5_method_20_code 77 = .ok (.ifCond .ne 5, 3) := by decide +kernel
theorem d_Parser_readProduct_80 : decode prog_5_method_20_code 80 = .ok (.iconst 0, 1) := by decide +kernel
theorem d_Parser_readProduct_81 : decode prog_5_method_20_code 81 = .ok (.ireturn, 1) := by decide +kernel
theorem d_Parser_readProduct_82 : decode prog_5_method_20_code 82 = .ok (.aload_n 0, 1) := by decide +kernel
theorem d_Parser_readProduct_83 : decode prog_5_method_20_code 83 = .ok (.getfield 21, 3) := by decide +kernel
theorem d_Parser_readProduct_86 : decode prog_5_method_20_code 86 = .ok (.iload_n 3, 1) := by decide +kernel
theorem d_Parser_readProduct_87 : decode prog_5_method_20_code 87 = .ok (.invokevirtual 164, 3) := by decide +kernel
theorem d_Parser_readProduct_90 : decode prog_5_method_20_code 90 = .ok (.iinc 2 1, 3) := by decide +kernel
theorem d_Parser_readProduct_93 : decode prog_5_method_20_code 93 = .ok (.goto (-81), 3) := by decide +kernel
theorem d_Parser_readProduct_96 : decode prog_5_method_20_code 96 = .ok (.iconst 1, 1) := by decide +kernel
theorem d_Parser_readProduct_97 : decode prog_5_method_20_code 97 = .ok (.ireturn, 1) := by decide +kernel
theorem d_Parser_readSum_0 : decode prog_5_method_19_code 0 = .ok (.aload_n 0, 1) := by decide +kernel
theorem d_Parser_readSum_1 : decode prog_5_method_19_code 1 = .ok (.iload_n 1, 1) := by decide +kernel
theorem d_Parser_readSum_2 : decode prog_5_method_19_code 2 = .ok (.invokevirtual 180, 3) := by decide +kernel
theorem d_Parser_readSum_5 : decode prog_5_method_19_code 5 = .ok (.ifCond .ne 5, 3) := by decide +kernel
theorem d_Parser_readSum_8 : decode prog_5_method_19_code 8 = .ok (.iconst 0, 1) := by decide +kernel
theorem d_Parser_readSum_9 : decode prog_5_method_19_code 9 = .ok (.ireturn, 1) := by decide +kernel
theorem d_Parser_readSum_10 : decode prog_5_method_19_code 10 = .ok (.iconst 0, 1) := by decide +kernel
theorem d_Parser_readSum_11 : decode prog_5_method_19_code 11 = .ok (.istore_n 2, 1) := by decide +kernel
theorem d_Parser_readSum_12 : decode prog_5_method_19_code 12 = .ok (.iload_n 2, 1) := by decide +kernel
theorem d_Parser_readSum_13 : decode prog_5_method_19_code 13 = .ok (.sipush 1600, 3) := by decide +kernel
theorem d_Parser_readSum_16 : decode prog_5_method_19_code 16 = .ok (.if_icmp .ge 80, 3) := by decide +kernel
theorem d_Parser_readSum_19 : decode prog_5_method_19_code 19 = .ok (.aload_n 0, 1) := by decide +kernel
theorem d_Parser_readSum_20 : decode prog_5_method_19_code 20 = .ok (.getfield 12, 3) := by decide +kernel
theorem d_Parser_readSum_23 : decode prog_5_method_19_code 23 = .ok (.bipush 43, 2) := by decide +kernel
theorem d_Parser_readSum_25 : decode prog_5_method_19_code 25 = .ok (.invokevirtual 60, 3) := by decide +kernel
theorem d_Parser_readSum_28 : decode prog_5_method_19_code 28 = .ok (.ifCond .ne 15, 3) := by decide +kernel
theorem d_Parser_readSum_31 : decode prog_5_method_19_code 31 = .ok (.aload_n 0, 1) := by decide +kernel
theorem d_Parser_readSum_32 : decode prog_5_method_19_code 32 = .ok (.getfield 12, 3) := by decide +kernel
theorem d_Parser_readSum_35 : decode prog_5_method_19_code 35 = .ok (.bipush 45, 2) := by decide +kernel
theorem d_Parser_readSum_37 : decode prog_5_method_19_code 37 = .ok (.invokevirtual 60, 3) := by decide +kernel
theorem d_Parser_readSum_40 : decode prog_5_method_19_code 40 = .ok (.ifCond .eq 56, 3) := by decide +kernel
theorem d_Parser_readSum_43 : decode prog_5_method_19_code 43 = .ok (.aload_n 0, 1) := by decide +kernel
theorem d_Parser_readSum_44 : decode prog_5_method_19_code 44 = .ok (.getfield 12, 3) := by decide +kernel
theorem d_Parser_readSum_47 : decode prog_5_method_19_code 47 = .ok (.bipush 43, 2) := by decide +kernel
theorem d_Parser_readSum_49 : decode prog_5_method_19_code 49 = .ok (.invokevirtual 60, 3) := by decide +kernel
theorem d_Parser_readSum_52 : decode prog_5_method_19_code 52 = .ok (.ifCond .eq 9, 3) := by decide +kernel
theorem d_Parser_readSum_55 : decode prog_5_method_19_code 55 = .ok (.sipush 10016, 3) := by decide +kernel
theorem d_Parser_readSum_58 : decode prog_5_method_19_code 58 = .ok (.goto 6, 3) := by decide +kernel
theorem d_Parser_readSum_61 : decode prog_5_method_19_code 61 = .ok (.sipush 10017, 3) := by decide +kernel
theorem d_Parser_readSum_64 : decode prog_5_method_19_code 64 = .ok (.istore_n 3, 1) := by decide +kernel
theorem d_Parser_readSum_65 : decode prog_5_method_19_code 65 = .ok (.aload_n 0, 1) := by decide +kernel
theorem d_Parser_readSum_66 : decode prog_5_method_19_code 66 = .ok (.getfield 12, 3) := by decide +kernel
theorem d_Parser_readSum_69 : decode prog_5_method_19_code 69 = .ok (.invokevirtual 66, 3) := by decide +kernel
theorem d_Parser_readSum_72 : decode prog_5_method_19_code 72 = .ok (.aload_n 0, 1) := by decide +kernel
theorem d_Parser_readSum_73 : decode prog_5_method_19_code 73 = .ok (.iload_n 1, 1) := by decide +kernel
theorem d_Parser_readSum_74 : decode prog_5_method_19_code 74 = .ok (.invokevirtual 180, 3) := by decide +kernel
theorem d_Parser_readSum_77 : decode prog_5_method_19_code 77 = .ok (.ifCond .ne 5, 3) := by decide +kernel
theorem d_Parser_readSum_80 : decode prog_5_method_19_code 80 = .ok (.iconst 0, 1) := by decide +kernel
theorem d_Parser_readSum_81 : decode prog_5_method_19_code 81 = .ok (.ireturn, 1) := by decide +kernel
theorem d_Parser_readSum_82 : decode prog_5_method_19_code 82 = .ok (.aload_n 0, 1) := by decide +kernel
theorem d_Parser_readSum_83 : decode prog_5_method_19_code 83 = .ok (.getfield 21, 3) := by decide +kernel
theorem d_Parser_readSum_86 : decode prog_5_method_19_code 86 = .ok (.iload_n 3, 1) := by decide +kernel
theorem d_Parser_readSum_87 : decode prog_5_method_19_code 87 = .ok (.invokevirtual 164, 3) := by decide +kernel
theorem d_Parser_readSum_90 : decode prog_5_method_19_code 90 = .ok (.iinc 2 1, 3) := by decide +kernel
theorem d_Parser_readSum_93 : decode prog_5_method_19_code 93 = .ok (.goto (-81), 3) := by decide +kernel
theorem d_Parser_readSum_96 : decode prog_5_method_19_code 96 = .ok (.iconst 1, 1) := by decide +kernel
theorem d_Parser_readSum_97 : decode prog_5_method_19_code 97 = .ok (.ireturn, 1) := by decide +kernel
theorem d_Parser_readComparison_0 : decode prog_5_method_18_code 0 = .ok (.aload_n 0, 1) := by decide +kernel
theorem d_Parser_readComparison_1 : decode prog_5_method_18_code 1 = .ok (.iload_n 1, 1) := by decide +kernel
theorem d_Parser_readComparison_2 : decode prog_5_method_18_code 2 = .ok (.invokevirtual 177, 3) := by decide +kernel
theorem d_Parser_readComparison_5 : decode prog_5_method_18_code 5 = .ok (.ifCond .ne 5, 3) := by decide +kernel
theorem d_Parser_readComparison_8 : decode prog_5_method_18_code 8 = .ok (.iconst 0, 1) := by decide +kernel
theorem d_Parser_readComparison_9 : decode prog_5_method_18_code 9 = .ok (.ireturn, 1) := by decide +kernel
theorem d_Parser_readComparison_10 : decode prog_5_method_18_code 10 = .ok (.aload_n 0, 1) := by decide +kernel
theorem d_Parser_readComparison_11 : decode prog_5_method_18_code 11 = .ok (.getfield 12, 3) := by decide +kernel
theorem d_Parser_readComparison_14 : decode prog_5_method_18_code 14 = .ok (.bipush 60, 2) := by decide +kernel
theorem d_Parser_readComparison_16 : decode prog_5_method_18_code 16 = .ok (.invokevirtual 60, 3) := by decide +kernel
theorem d_Parser_readComparison_19 : decode prog_5_method_18_code 19 = .ok (.ifCond .eq 9, 3) := by decide +kernel
theorem d_Parser_readComparison_22 : decode prog_5_method_18_code 22 = .ok (.sipush 10013, 3) := by decide +kernel
theorem d_Parser_readComparison_25 : decode prog_5_method_18_code 25 = .ok (.goto 24, 3) := by decide +kernel
theorem d_Parser_readComparison_28 : decode prog_5_method_18_code 28 = .ok (.aload_n 0, 1) := by decide +kernel
theorem d_Parser_readComparison_29 : decode prog_5_method_18_code 29 = .ok (.getfield 12, 3) := by decide +kernel
theorem d_Parser_readComparison_32 : decode prog_5_method_18_code 32 = .ok (.bipush 62, 2) := by decide +kernel
theorem d_Parser_readComparison_34 : decode prog_5_method_18_code 34 = .ok (.invokevirtual 60, 3) := by decide +kernel
theorem d_Parser_readComparison_37 : decode prog_5_method_18_code 37 = .ok (.ifCond .eq 9, 3) := by decide +kernel
theorem d_Parser_readComparison_40 : decode prog_5_method_18_code 40 = .ok (.sipush 10014, 3) := by decide +kernel
theorem d_Parser_readComparison_43 : decode prog_5_method_18_code 43 = .ok (.goto 6, 3) := by decide +kernel
theorem d_Parser_readComparison_46 : decode prog_5_method_18_code 46 = .ok (.sipush 10015, 3) := by decide +kernel
theorem d_Parser_readComparison_49 : decode prog_5_method_18_code 49 = .ok (.istore_n 2, 1) := by decide +kernel
theorem d_Parser_readComparison_50 : decode prog_5_method_18_code 50 = .ok (.iload_n 2, 1) := by decide +kernel
theorem d_Parser_readComparison_51 : decode prog_5_method_18_code 51 = .ok (.sipush 10015, 3) := by decide +kernel
theorem d_Parser_readComparison_54 : decode prog_5_method_18_code 54 = .ok (.if_icmp .ne 20, 3) := by decide +kernel
theorem d_Parser_readComparison_57 : decode prog_5_method_18_code 57 = .ok (.aload_n 0, 1) := by decide +kernel
theorem d_Parser_readComparison_58 : decode prog_5_method_18_code 58 = .ok (.getfield 12, 3) := by decide +kernel
theorem d_Parser_readComparison_61 : decode prog_5_method_18_code 61 = .ok (.bipush 61, 2) := by decide +kernel
theorem d_Parser_readComparison_63 : decode prog_5_method_18_code 63 = .ok (.invokevirtual 60, 3) := by decide +kernel
theorem d_Parser_readComparison_66 : decode prog_5_method_18_code 66 = .ok (.ifCond .ne 8, 3) := by decide +kernel
theorem d_Parser_readComparison_69 : decode prog_5_method_18_code 69 = .ok (.aload_n 0, 1) := by decide +kernel
theorem d_Parser_readComparison_70 : decode prog_5_method_18_code 70 = .ok (.invokevirtual 63, 3) := by decide +kernel
theorem d_Parser_readComparison_73 : decode prog_5_method_18_code 73 = .ok (.ireturn, 1) := by decide +kernel
theorem d_Parser_readComparison_74 : decode prog_5_method_18_code 74 = .ok (.aload_n 0, 1) := by decide +kernel
theorem d_Parser_readComparison_75 : decode prog_5_method_18_code 75 = .ok (.getfield 12, 3) := by decide +kernel
theorem d_Parser_readComparison_78 : decode prog_5_method_18_code 78 = .ok (.invokevirtual 66, 3) := by decide +kernel
theorem d_Parser_readComparison_81 : decode prog_5_method_18_code 81 = .ok (.aload_n 0, 1) := by decide +kernel
theorem d_Parser_readComparison_82 : decode prog_5_method_18_code 82 = .ok (.iload_n 1, 1) := by decide +kernel
theorem d_Parser_readComparison_83 : decode prog_5_method_18_code 83 = .ok (.invokevirtual 177, 3) := by decide +kernel
theorem d_Parser_readComparison_86 : decode prog_5_method_18_code 86 = .ok (.ifCond .ne 5, 3) := by decide +kernel
theorem d_Parser_readComparison_89 : decode prog_5_method_18_code 89 = .ok (.iconst 0, 1) := by decide +kernel
theorem d_Parser_readComparison_90 : decode prog_5_method_18_code 90 = .ok (.ireturn, 1) := by decide +kernel
theorem d_Parser_readComparison_91 : decode prog_5_method_18_code 91 = .ok (.aload_n 0, 1) := by decide +kernel
theorem d_Parser_readComparison_92 : decode prog_5_method_18_code 92 = .ok (.getfield 21, 3) := by decide +kernel
theorem d_Parser_readComparison_95 : decode prog_5_method_18_code 95 = .ok (.iload_n 2, 1) := by decide +kernel
theorem d_Parser_readComparison_96 : decode prog_5_method_18_code 96 = .ok (.invokevirtual 164, 3) := by decide +kernel
theorem d_Parser_readComparison_99 : decode prog_5_method_18_code 99 = .ok (.iconst 1, 1) := by decide +kernel
theorem d_Parser_readComparison_100 : decode prog_5_method_18_code 100 = .ok (.ireturn, 1) := by decide +kernel
theorem d_Parser_readFact_0 : decode prog_5_method_16_code 0 = .ok (.aload_n 0, 1) := by decide +kernel
theorem d_Parser_readFact_1 : decode prog_5_method_16_code 1 = .ok (.getfield 12, 3) := by decide +kernel
theorem d_Parser_readFact_4 : decode prog_5_method_16_code 4 = .ok (.bipush 23, 2) := by decide +kernel
theorem d_Parser_readFact_6 : decode prog_5_method_16_code 6 = .ok (.invokevirtual 69, 3) := by decide +kernel
theorem d_Parser_readFact_9 : decode prog_5_method_16_code 9 = .ok (.ifCond .eq 35, 3) := by decide +kernel
theorem d_Parser_readFact_12 : decode prog_5_method_16_code 12 = .ok (.aload_n 0, 1) := by decide +kernel
theorem d_Parser_readFact_13 : decode prog_5_method_16_code 13 = .ok (.iload_n 1, 1) := by decide +kernel
theorem d_Parser_readFact_14 : decode prog_5_method_16_code 14 = .ok (.invokevirtual 171, 3) := by decide +kernel
theorem d_Parser_readFact_17 : decode prog_5_method_16_code 17 = .ok (.ifCond .eq 13, 3) := by decide +kernel
theorem d_Parser_readFact_20 : decode prog_5_method_16_code 20 = .ok (.aload_n 0, 1) := by decide +kernel
theorem d_Parser_readFact_21 : decode prog_5_method_16_code 21 = .ok (.iload_n 1, 1) := by decide +kernel
theorem d_Parser_readFact_22 : decode prog_5_method_16_code 22 = .ok (.iconst 1, 1) := by decide +kernel
theorem d_Parser_readFact_23 : decode prog_5_method_16_code 23 = .ok (.iadd, 1) := by decide +kernel
theorem d_Parser_readFact_24 : decode prog_5_method_16_code 24 = .ok (.invokevirtual 168, 3) := by decide +kernel
theorem d_Parser_readFact_27 : decode prog_5_method_16_code 27 = .ok (.ifCond .ne 5, 3) := by decide +kernel
theorem d_Parser_readFact_30 : decode prog_5_method_16_code 30 = .ok (.iconst 0, 1) := by decide +kernel
theorem d_Parser_readFact_31 : decode prog_5_method_16_code 31 = .ok (.ireturn, 1) := by decide +kernel
theorem d_Parser_readFact_32 : decode prog_5_method_16_code 32 = .ok (.aload_n 0, 1) := by decide +kernel
theorem d_Parser_readFact_33 : decode prog_5_method_16_code 33 = .ok (.getfield 21, 3) := by decide +kernel
theorem d_Parser_readFact_36 : decode prog_5_method_16_code 36 = .ok (.sipush 10010, 3) := by decide +kernel
theorem d_Parser_readFact_39 : decode prog_5_method_16_code 39 = .ok (.invokevirtual 164, 3) := by decide +kernel
theorem d_Parser_readFact_42 : decode prog_5_method_16_code 42 = .ok (.iconst 1, 1) := by decide +kernel
theorem d_Parser_readFact_43 : decode prog_5_method_16_code 43 = .ok (.ireturn, 1) := by decide +kernel
theorem d_Parser_readFact_44 : decode prog_5_method_16_code 44 = .ok (.aload_n 0, 1) := by decide +kernel
theorem d_Parser_readFact_45 : decode prog_5_method_16_code 45 = .ok (.getfield 12, 3) := by decide +kernel
theorem d_Parser_readFact_48 : decode prog_5_method_16_code 48 = .ok (.bipush 91, 2) := by decide +kernel
theorem d_Parser_readFact_50 : decode prog_5_method_16_code 50 = .ok (.invokevirtual 60, 3) := by decide +kernel
theorem d_Parser_readFact_53 : decode prog_5_method_16_code 53 = .ok (.ifCond .eq 36, 3) := by decide +kernel
theorem d_Parser_readFact_56 : decode prog_5_method_16_code 56 = .ok (.aload_n 0, 1) := by decide +kernel
theorem d_Parser_readFact_57 : decode prog_5_method_16_code 57 = .ok (.iload_n 1, 1) := by decide +kernel
theorem d_Parser_readFact_58 : decode prog_5_method_16_code 58 = .ok (.invokevirtual 171, 3) := by decide +kernel
theorem d_Parser_readFact_61 : decode prog_5_method_16_code 61 = .ok (.ifCond .eq 26, 3) := by decide +kernel
theorem d_Parser_readFact_64 : decode prog_5_method_16_code 64 = .ok (.aload_n 0, 1) := by decide +kernel
theorem d_Parser_readFact_65 : decode prog_5_method_16_code 65 = .ok (.iload_n 1, 1) := by decide +kernel
theorem d_Parser_readFact_66 : decode prog_5_method_16_code 66 = .ok (.iconst 1, 1) := by decide +kernel
theorem d_Parser_readFact_67 : decode prog_5_method_16_code 67 = .ok (.iadd, 1) := by decide +kernel
theorem d_Parser_readFact_68 : decode prog_5_method_16_code 68 = .ok (.invokevirtual 150, 3) := by decide +kernel
theorem d_Parser_readFact_71 : decode prog_5_method_16_code 71 = .ok (.ifCond .eq 16, 3) := by decide +kernel
theorem d_Parser_readFact_74 : decode prog_5_method_16_code 74 = .ok (.aload_n 0, 1) := by decide +kernel
theorem d_Parser_readFact_75 : decode prog_5_method_16_code 75 = .ok (.bipush 93, 2) := by decide +kernel
theorem d_Parser_readFact_77 : decode prog_5_method_16_code 77 = .ok (.invokevirtual 56, 3) := by decide +kernel
theorem d_Parser_readFact_80 : decode prog_5_method_16_code 80 = .ok (.ifCond .eq 7, 3) := by decide +kernel
theorem d_Parser_readFact_83 : decode prog_5_method_16_code 83 = .ok (.iconst 1, 1) := by decide +kernel
theorem d_Parser_readFact_84 : decode prog_5_method_16_code 84 = .ok (.goto 4, 3) := by decide +kernel
theorem d_Parser_readFact_87 : decode prog_5_method_16_code 87 = .ok (.iconst 0, 1) := by decide +kernel
theorem d_Parser_readFact_88 : decode prog_5_method_16_code 88 = .ok (.ireturn, 1) := by decide +kernel
theorem d_Parser_readFact_89 : decode prog_5_method_16_code 89 = .ok (.aload_n 0, 1) := by decide +kernel
theorem d_Parser_readFact_90 : decode prog_5_method_16_code 90 = .ok (.getfield 12, 3) := by decide +kernel
theorem d_Parser_readFact_93 : decode prog_5_method_16_code 93 = .ok (.bipush 24, 2) := by decide +kernel
theorem d_Parser_readFact_95 : decode prog_5_method_16_code 95 = .ok (.invokevirtual 69, 3) := by decide +kernel
theorem d_Parser_readFact_98 : decode prog_5_method_16_code 98 = .ok (.ifCond .eq 20, 3) := by decide +kernel
theorem d_Parser_readFact_101 : decode prog_5_method_16_code 101 = .ok (.aload_n 0, 1) := by decide +kernel
theorem d_Parser_readFact_102 : decode prog_5_method_16_code 102 = .ok (.getfield 12, 3) := by decide +kernel
theorem d_Parser_readFact_105 : decode prog_5_method_16_code 105 = .ok (.invokevirtual 66, 3) := by decide +kernel
theorem d_Parser_readFact_108 : decode prog_5_method_16_code 108 = .ok (.aload_n 0, 1) := by decide +kernel
theorem d_Parser_readFact_109 : decode prog_5_method_16_code 109 = .ok (.getfield 21, 3) := by decide +kernel
theorem d_Parser_readFact_112 : decode prog_5_method_16_code 112 = .ok (.iconst 1, 1) := by decide +kernel
theorem d_Parser_readFact_113 : decode prog_5_method_16_code 113 = .ok (.invokevirtual 164, 3) := by decide +kernel
theorem d_Parser_readFact_116 : decode prog_5_method_16_code 116 = .ok (.iconst 1, 1) := by decide +kernel
theorem d_Parser_readFact_117 : decode prog_5_method_16_code 117 = .ok (.ireturn, 1) := by decide +kernel
theorem d_Parser_readFact_118 : decode prog_5_method_16_code 118 = .ok (.aload_n 0, 1) := by decide +kernel
theorem d_Parser_readFact_119 : decode prog_5_method_16_code 119 = .ok (.iload_n 1, 1) := by decide +kernel
theorem d_Parser_readFact_120 : decode prog_5_method_16_code 120 = .ok (.invokevirtual 174, 3) := by decide +kernel
theorem d_Parser_readFact_123 : decode prog_5_method_16_code 123 = .ok (.ireturn, 1) := by decide +kernel
theorem d_Parser_readLean_0 : decode prog_5_method_13_code 0 = .ok (.aload_n 0, 1) := by decide +kernel
theorem d_Parser_readLean_1 : decode prog_5_method_13_code 1 = .ok (.getfield 21, 3) := by decide +kernel
theorem d_Parser_readLean_4 : decode prog_5_method_13_code 4 = .ok (.getfield 147, 3) := by decide +kernel
theorem d_Parser_readLean_7 : decode prog_5_method_13_code 7 = .ok (.istore_n 1, 1) := by decide +kernel
theorem d_Parser_readLean_8 : decode prog_5_method_13_code 8 = .ok (.iload_n 1, 1) := by decide +kernel
theorem d_Parser_readLean_9 : decode prog_5_method_13_code 9 = .ok (.bipush 6, 2) := by decide +kernel
theorem d_Parser_readLean_11 : decode prog_5_method_13_code 11 = .ok (.if_icmp .lt 16, 3) := by decide +kernel
theorem d_Parser_readLean_14 : decode prog_5_method_13_code 14 = .ok (.aload_n 0, 1) := by decide +kernel
theorem d_Parser_readLean_15 : decode prog_5_method_13_code 15 = .ok (.iconst 5, 1) := by decide +kernel
theorem d_Parser_readLean_16 : decode prog_5_method_13_code 16 = .ok (.aload_n 0, 1) := by decide +kernel
theorem d_Parser_readLean_17 : decode prog_5_method_13_code 17 = .ok (.getfield 12, 3) := by decide +kernel
theorem d_Parser_readLean_20 : decode prog_5_method_13_code 20 = .ok (.getfield 45, 3) := by decide +kernel
theorem d_Parser_readLean_23 : decode prog_5_method_13_code 23 = .ok (.invokevirtual 48, 3) := by decide +kernel
theorem d_Parser_readLean_26 : decode prog_5_method_13_code 26 = .ok (.ireturn, 1) := by decide +kernel
theorem d_Parser_readLean_27 : decode prog_5_method_13_code 27 = .ok (.aload_n 0, 1) := by decide +kernel
theorem d_Parser_readLean_28 : decode prog_5_method_13_code 28 = .ok (.getfield 12, 3) := by decide +kernel
theorem d_Parser_readLean_31 : decode prog_5_method_13_code 31 = .ok (.invokevirtual 66, 3) := by decide +kernel
theorem d_Parser_readLean_34 : decode prog_5_method_13_code 34 = .ok (.aload_n 0, 1) := by decide +kernel
theorem d_Parser_readLean_35 : decode prog_5_method_13_code 35 = .ok (.bipush 10, 2) := by decide +kernel
theorem d_Parser_readLean_37 : decode prog_5_method_13_code 37 = .ok (.invokevirtual 123, 3) := by decide +kernel
theorem d_Parser_readLean_40 : decode prog_5_method_13_code 40 = .ok (.ifCond .eq 11, 3) := by decide +kernel
theorem d_Parser_readLean_43 : decode prog_5_method_13_code 43 = .ok (.aload_n 0, 1) := by decide +kernel
theorem d_Parser_readLean_44 : decode prog_5_method_13_code 44 = .ok (.iconst 0, 1) := by decide +kernel
theorem d_Parser_readLean_45 : decode prog_5_method_13_code 45 = .ok (.invokevirtual 150, 3) := by decide +kernel
theorem d_Parser_readLean_48 : decode prog_5_method_13_code 48 = .ok (.ifCond .ne 5, 3) := by decide +kernel
theorem d_Parser_readLean_51 : decode prog_5_method_13_code 51 = .ok (.iconst 0, 1) := by decide +kernel
theorem d_Parser_readLean_52 : decode prog_5_method_13_code 52 = .ok (.ireturn, 1) := by decide +kernel
theorem d_Parser_readLean_53 : decode prog_5_method_13_code 53 = .ok (.aload_n 0, 1) := by decide +kernel
theorem d_Parser_readLean_54 : decode prog_5_method_13_code 54 = .ok (.getfield 21, 3) := by decide +kernel
theorem d_Parser_readLean_57 : decode prog_5_method_13_code 57 = .ok (.getfield 153, 3) := by decide +kernel
theorem d_Parser_readLean_60 : decode prog_5_method_13_code 60 = .ok (.iload_n 1, 1) := by decide +kernel
theorem d_Parser_readLean_61 : decode prog_5_method_13_code 61 = .ok (.aload_n 0, 1) := by decide +kernel
theorem d_Parser_readLean_62 : decode prog_5_method_13_code 62 = .ok (.getfield 21, 3) := by decide +kernel
theorem d_Parser_readLean_65 : decode prog_5_method_13_code 65 = .ok (.getfield 156, 3) := by decide +kernel
theorem d_Parser_readLean_68 : decode prog_5_method_13_code 68 = .ok (.iastore, 1) := by decide +kernel
theorem d_Parser_readLean_69 : decode prog_5_method_13_code 69 = .ok (.aload_n 0, 1) := by decide +kernel
theorem d_Parser_readLean_70 : decode prog_5_method_13_code 70 = .ok (.getfield 21, 3) := by decide +kernel
theorem d_Parser_readLean_73 : decode prog_5_method_13_code 73 = .ok (.dup, 1) := by decide +kernel
theorem d_Parser_readLean_74 : decode prog_5_method_13_code 74 = .ok (.getfield 147, 3) := by decide +kernel
theorem d_Parser_readLean_77 : decode prog_5_method_13_code 77 = .ok (.iconst 1, 1) := by decide +kernel
theorem d_Parser_readLean_78 : decode prog_5_method_13_code 78 = .ok (.iadd, 1) := by decide +kernel
theorem d_Parser_readLean_79 : decode prog_5_method_13_code 79 = .ok (.putfield 147, 3) := by decide +kernel
theorem d_Parser_readLean_82 : decode prog_5_method_13_code 82 = .ok (.iconst 1, 1) := by decide +kernel
theorem d_Parser_readLean_83 : decode prog_5_method_13_code 83 = .ok (.ireturn, 1) := by decide +kernel
theorem d_Reader_isOwnWord_0 : decode prog_6_method_8_code 0 = .ok (.iconst 0, 1) := by decide +kernel
theorem d_Reader_isOwnWord_1 : decode prog_6_method_8_code 1 = .ok (.istore_n 1, 1) := by decide +kernel
theorem d_Reader_isOwnWord_2 : decode prog_6_method_8_code 2 = .ok (.iload_n 1, 1) := by decide +kernel
theorem d_Reader_isOwnWord_3 : decode prog_6_method_8_code 3 = .ok (.aload_n 0, 1) := by decide +kernel
theorem d_Reader_isOwnWord_4 : decode prog_6_method_8_code 4 = .ok (.getfield 11, 3) := by decide +kernel
theorem d_Reader_isOwnWord_7 : decode prog_6_method_8_code 7 = .ok (.arraylength, 1) := by decide +kernel
theorem d_Reader_isOwnWord_8 : decode prog_6_method_8_code 8 = .ok (.if_icmp .ge 19, 3) := by decide +kernel
theorem d_Reader_isOwnWord_11 : decode prog_6_method_8_code 11 = .ok (.aload_n 0, 1) := by decide +kernel
theorem d_Reader_isOwnWord_12 : decode prog_6_method_8_code 12 = .ok (.iload_n 1, 1) := by decide +kernel
theorem d_Reader_isOwnWord_13 : decode prog_6_method_8_code 13 = .ok (.invokevirtual 66, 3) := by decide +kernel
theorem d_Reader_isOwnWord_16 : decode prog_6_method_8_code 16 = .ok (.ifCond .eq 5, 3) := by decide +kernel
theorem d_Reader_isOwnWord_19 : decode prog_6_method_8_code 19 = .ok (.iconst 1, 1) := by decide +kernel
theorem d_Reader_isOwnWord_20 : decode prog_6_method_8_code 20 = .ok (.ireturn, 1) := by decide +kernel
theorem d_Reader_isOwnWord_21 : decode prog_6_method_8_code 21 = .ok (.iinc 1 1, 3) := by decide +kernel
theorem d_Reader_isOwnWord_24 : decode prog_6_method_8_code 24 = .ok (.goto (-22), 3) := by decide +kernel
theorem d_Reader_isOwnWord_27 : decode prog_6_method_8_code 27 = .ok (.iconst 0, 1) := by decide +kernel
theorem d_Reader_isOwnWord_28 : decode prog_6_method_8_code 28 = .ok (.ireturn, 1) := by decide +kernel
theorem d_Fair_hasName_0 : decode prog_3_method_4_code 0 = .ok (.iconst 0, 1) := by decide +kernel
theorem d_Fair_hasName_1 : decode prog_3_method_4_code 1 = .ok (.istore_n 2, 1) := by decide +kernel
theorem d_Fair_hasName_2 : decode prog_3_method_4_code 2 = .ok (.iload_n 2, 1) := by decide +kernel
theorem d_Fair_hasName_3 : decode prog_3_method_4_code 3 = .ok (.aload_n 0, 1) := by decide +kernel
theorem d_Fair_hasName_4 : decode prog_3_method_4_code 4 = .ok (.getfield 49, 3) := by decide +kernel
theorem d_Fair_hasName_7 : decode prog_3_method_4_code 7 = .ok (.if_icmp .ge 21, 3) := by decide +kernel
theorem d_Fair_hasName_10 : decode prog_3_method_4_code 10 = .ok (.aload_n 0, 1) := by decide +kernel
theorem d_Fair_hasName_11 : decode prog_3_method_4_code 11 = .ok (.getfield 9, 3) := by decide +kernel
theorem d_Fair_hasName_14 : decode prog_3_method_4_code 14 = .ok (.iload_n 2, 1) := by decide +kernel
theorem d_Fair_hasName_15 : decode prog_3_method_4_code 15 = .ok (.iaload, 1) := by decide +kernel
theorem d_Fair_hasName_16 : decode prog_3_method_4_code 16 = .ok (.iload_n 1, 1) := by decide +kernel
theorem d_Fair_hasName_17 : decode prog_3_method_4_code 17 = .ok (.if_icmp .ne 5, 3) := by decide +kernel
theorem d_Fair_hasName_20 : decode prog_3_method_4_code 20 = .ok (.iconst 1, 1) := by decide +kernel
theorem d_Fair_hasName_21 : decode prog_3_method_4_code 21 = .ok (.ireturn, 1) := by decide +kernel
theorem d_Fair_hasName_22 : decode prog_3_method_4_code 22 = .ok (.iinc 2 1, 3) := by decide +kernel
theorem d_Fair_hasName_25 : decode prog_3_method_4_code 25 = .ok (.goto (-23), 3) := by decide +kernel
theorem d_Fair_hasName_28 : decode prog_3_method_4_code 28 = .ok (.iconst 0, 1) := by decide +kernel
theorem d_Fair_hasName_29 : decode prog_3_method_4_code 29 = .ok (.istore_n 2, 1) := by decide +kernel
theorem d_Fair_hasName_30 : decode prog_3_method_4_code 30 = .ok (.iload_n 2, 1) := by decide +kernel
theorem d_Fair_hasName_31 : decode prog_3_method_4_code 31 = .ok (.aload_n 0, 1) := by decide +kernel
theorem d_Fair_hasName_32 : decode prog_3_method_4_code 32 = .ok (.getfield 52, 3) := by decide +kernel
theorem d_Fair_hasName_35 : decode prog_3_method_4_code 35 = .ok (.if_icmp .ge 21, 3) := by decide +kernel
theorem d_Fair_hasName_38 : decode prog_3_method_4_code 38 = .ok (.aload_n 0, 1) := by decide +kernel
theorem d_Fair_hasName_39 : decode prog_3_method_4_code 39 = .ok (.getfield 18, 3) := by decide +kernel
theorem d_Fair_hasName_42 : decode prog_3_method_4_code 42 = .ok (.iload_n 2, 1) := by decide +kernel
theorem d_Fair_hasName_43 : decode prog_3_method_4_code 43 = .ok (.iaload, 1) := by decide +kernel
theorem d_Fair_hasName_44 : decode prog_3_method_4_code 44 = .ok (.iload_n 1, 1) := by decide +kernel
theorem d_Fair_hasName_45 : decode prog_3_method_4_code 45 = .ok (.if_icmp .ne 5, 3) := by decide +kernel
theorem d_Fair_hasName_48 : decode prog_3_method_4_code 48 = .ok (.iconst 1, 1) := by decide +kernel
theorem d_Fair_hasName_49 : decode prog_3_method_4_code 49 = .ok (.ireturn, 1) := by decide +kernel
theorem d_Fair_hasName_50 : decode prog_3_method_4_code 50 = .ok (.iinc 2 1, 3) := by decide +kernel
theorem d_Fair_hasName_53 : decode prog_3_method_4_code 53 = .ok (.goto (-23), 3) := by decide +kernel
theorem d_Fair_hasName_56 : decode prog_3_method_4_code 56 = .ok (.iconst 0, 1) := by decide +kernel
theorem d_Fair_hasName_57 : decode prog_3_method_4_code 57 = .ok (.ireturn, 1) := by decide +kernel
theorem d_Parser_passName_0 : decode prog_5_method_7_code 0 = .ok (.aload_n 0, 1) := by decide +kernel
theorem d_Parser_passName_1 : decode prog_5_method_7_code 1 = .ok (.getfield 12, 3) := by decide +kernel
theorem d_Parser_passName_4 : decode prog_5_method_7_code 4 = .ok (.getfield 39, 3) := by decide +kernel
theorem d_Parser_passName_7 : decode prog_5_method_7_code 7 = .ok (.iconst 1, 1) := by decide +kernel
theorem d_Parser_passName_8 : decode prog_5_method_7_code 8 = .ok (.if_icmp .ne 19, 3) := by decide +kernel
theorem d_Parser_passName_11 : decode prog_5_method_7_code 11 = .ok (.aload_n 0, 1) := by decide +kernel
theorem d_Parser_passName_12 : decode prog_5_method_7_code 12 = .ok (.getfield 12, 3) := by decide +kernel
theorem d_Parser_passName_15 : decode prog_5_method_7_code 15 = .ok (.getfield 73, 3) := by decide +kernel
theorem d_Parser_passName_18 : decode prog_5_method_7_code 18 = .ok (.bipush 6, 2) := by decide +kernel
theorem d_Parser_passName_20 : decode prog_5_method_7_code 20 = .ok (.if_icmp .gt 7, 3) := by decide +kernel
theorem d_Parser_passName_23 : decode prog_5_method_7_code 23 = .ok (.iconst 1, 1) := by decide +kernel
theorem d_Parser_passName_24 : decode prog_5_method_7_code 24 = .ok (.goto 4, 3) := by decide +kernel
theorem d_Parser_passName_27 : decode prog_5_method_7_code 27 = .ok (.iconst 0, 1) := by decide +kernel
theorem d_Parser_passName_28 : decode prog_5_method_7_code 28 = .ok (.istore_n 1, 1) := by decide +kernel
theorem d_Parser_passName_29 : decode prog_5_method_7_code 29 = .ok (.aload_n 0, 1) := by decide +kernel
theorem d_Parser_passName_30 : decode prog_5_method_7_code 30 = .ok (.getfield 12, 3) := by decide +kernel
theorem d_Parser_passName_33 : decode prog_5_method_7_code 33 = .ok (.getfield 39, 3) := by decide +kernel
theorem d_Parser_passName_36 : decode prog_5_method_7_code 36 = .ok (.iconst 1, 1) := by decide +kernel
theorem d_Parser_passName_37 : decode prog_5_method_7_code 37 = .ok (.if_icmp .ne 25, 3) := by decide +kernel
theorem d_Parser_passName_40 : decode prog_5_method_7_code 40 = .ok (.iload_n 1, 1) := by decide +kernel
theorem d_Parser_passName_41 : decode prog_5_method_7_code 41 = .ok (.ifCond .ne 21, 3) := by decide +kernel
theorem d_Parser_passName_44 : decode prog_5_method_7_code 44 = .ok (.aload_n 0, 1) := by decide +kernel
theorem d_Parser_passName_45 : decode prog_5_method_7_code 45 = .ok (.iconst 1, 1) := by decide +kernel
theorem d_Parser_passName_46 : decode prog_5_method_7_code 46 = .ok (.aload_n 0, 1) := by decide +kernel
theorem d_Parser_passName_47 : decode prog_5_method_7_code 47 = .ok (.getfield 12, 3) := by decide +kernel
theorem d_Parser_passName_50 : decode prog_5_method_7_code 50 = .ok (.getfield 45, 3) := by decide +kernel
theorem d_Parser_passName_53 : decode prog_5_method_7_code 53 = .ok (.bipush 6, 2) := by decide +kernel
theorem d_Parser_passName_55 : decode prog_5_method_7_code 55 = .ok (.iadd, 1) := by decide +kernel
theorem d_Parser_passName_56 : decode prog_5_method_7_code 56 = .ok (.invokevirtual 48, 3) := by decide +kernel
theorem d_Parser_passName_59 : decode prog_5_method_7_code 59 = .ok (.pop, 1) := by decide +kernel
theorem d_Parser_passName_60 : decode prog_5_method_7_code 60 = .ok (.iconst (-1), 1) := by decide +kernel
theorem d_Parser_passName_61 : decode prog_5_method_7_code 61 = .ok (.ireturn, 1) := by decide +kernel
theorem d_Parser_passName_62 : decode prog_5_method_7_code 62 = .ok (.iload_n 1, 1) := by decide +kernel
theorem d_Parser_passName_63 : decode prog_5_method_7_code 63 = .ok (.ifCond .eq 13, 3) := by decide +kernel
theorem d_Parser_passName_66 : decode prog_5_method_7_code 66 = .ok (.aload_n 0, 1) := by decide +kernel
theorem d_Parser_passName_67 : decode prog_5_method_7_code 67 = .ok (.getfield 12, 3) := by decide +kernel
theorem d_Parser_passName_70 : decode prog_5_method_7_code 70 = .ok (.invokevirtual 76, 3) := by decide +kernel
theorem d_Parser_passName_73 : decode prog_5_method_7_code 73 = .ok (.ifCond .eq 10, 3) := by decide +kernel
theorem d_Parser_passName_76 : decode prog_5_method_7_code 76 = .ok (.aload_n 0, 1) := by decide +kernel
theorem d_Parser_passName_77 : decode prog_5_method_7_code 77 = .ok (.invokevirtual 63, 3) := by decide +kernel
theorem d_Parser_passName_80 : decode prog_5_method_7_code 80 = .ok (.pop, 1) := by decide +kernel
theorem d_Parser_passName_81 : decode prog_5_method_7_code 81 = .ok (.iconst (-1), 1) := by decide +kernel
theorem d_Parser_passName_82 : decode prog_5_method_7_code 82 = .ok (.ireturn, 1) := by decide +kernel
theorem d_Parser_passName_83 : decode prog_5_method_7_code 83 = .ok (.aload_n 0, 1) := by decide +kernel
theorem d_Parser_passName_84 : decode prog_5_method_7_code 84 = .ok (.getfield 12, 3) := by decide +kernel
theorem d_Parser_passName_87 : decode prog_5_method_7_code 87 = .ok (.getfield 79, 3) := by decide +kernel
theorem d_Parser_passName_90 : decode prog_5_method_7_code 90 = .ok (.istore_n 2, 1) := by decide +kernel
theorem d_Parser_passName_91 : decode prog_5_method_7_code 91 = .ok (.aload_n 0, 1) := by decide +kernel
theorem d_Parser_passName_92 : decode prog_5_method_7_code 92 = .ok (.getfield 21, 3) := by decide +kernel
theorem d_Parser_passName_95 : decode prog_5_method_7_code 95 = .ok (.iload_n 2, 1) := by decide +kernel
theorem d_Parser_passName_96 : decode prog_5_method_7_code 96 = .ok (.invokevirtual 82, 3) := by decide +kernel
theorem d_Parser_passName_99 : decode prog_5_method_7_code 99 = .ok (.ifCond .eq 18, 3) := by decide +kernel
theorem d_Parser_passName_102 : decode prog_5_method_7_code 102 = .ok (.aload_n 0, 1) := by decide +kernel
theorem d_Parser_passName_103 : decode prog_5_method_7_code 103 = .ok (.iconst 3, 1) := by decide +kernel
theorem d_Parser_passName_104 : decode prog_5_method_7_code 104 = .ok (.aload_n 0, 1) := by decide +kernel
theorem d_Parser_passName_105 : decode prog_5_method_7_code 105 = .ok (.getfield 12, 3) := by decide +kernel
theorem d_Parser_passName_108 : decode prog_5_method_7_code 108 = .ok (.getfield 45, 3) := by decide +kernel
theorem d_Parser_passName_111 : decode prog_5_method_7_code 111 = .ok (.invokevirtual 48, 3) := by decide +kernel
theorem d_Parser_passName_114 : decode prog_5_method_7_code 114 = .ok (.pop, 1) := by decide +kernel
theorem d_Parser_passName_115 : decode prog_5_method_7_code 115 = .ok (.iconst (-1), 1) := by decide +kernel
theorem d_Parser_passName_116 : decode prog_5_method_7_code 116 = .ok (.ireturn, 1) := by decide +kernel
theorem d_Parser_passName_117 : decode prog_5_method_7_code 117 = .ok (.aload_n 0, 1) := by decide +kernel
theorem d_Parser_passName_118 : decode prog_5_method_7_code 118 = .ok (.getfield 12, 3) := by decide +kernel
theorem d_Parser_passName_121 : decode prog_5_method_7_code 121 = .ok (.invokevirtual 66, 3) := by decide +kernel
theorem d_Parser_passName_124 : decode prog_5_method_7_code 124 = .ok (.iload_n 2, 1) := by decide +kernel
theorem d_Parser_passName_125 : decode prog_5_method_7_code 125 = .ok (.ireturn, 1) := by decide +kernel
theorem d_Parser_readTrier_0 : decode prog_5_method_12_code 0 = .ok (.aload_n 0, 1) := by decide +kernel
theorem d_Parser_readTrier_1 : decode prog_5_method_12_code 1 = .ok (.getfield 21, 3) := by decide +kernel
theorem d_Parser_readTrier_4 : decode prog_5_method_12_code 4 = .ok (.getfield 132, 3) := by decide +kernel
theorem d_Parser_readTrier_7 : decode prog_5_method_12_code 7 = .ok (.istore_n 1, 1) := by decide +kernel
theorem d_Parser_readTrier_8 : decode prog_5_method_12_code 8 = .ok (.iload_n 1, 1) := by decide +kernel
theorem d_Parser_readTrier_9 : decode prog_5_method_12_code 9 = .ok (.bipush 8, 2) := by decide +kernel
theorem d_Parser_readTrier_11 : decode prog_5_method_12_code 11 = .ok (.if_icmp .lt 16, 3) := by decide +kernel
theorem d_Parser_readTrier_14 : decode prog_5_method_12_code 14 = .ok (.aload_n 0, 1) := by decide +kernel
theorem d_Parser_readTrier_15 : decode prog_5_method_12_code 15 = .ok (.iconst 5, 1) := by decide +kernel
theorem d_Parser_readTrier_16 : decode prog_5_method_12_code 16 = .ok (.aload_n 0, 1) := by decide +kernel
theorem d_Parser_readTrier_17 : decode prog_5_method_12_code 17 = .ok (.getfield 12, 3) := by decide +kernel
theorem d_Parser_readTrier_20 : decode prog_5_method_12_code 20 = .ok (.getfield 45, 3) := by decide +kernel
theorem d_Parser_readTrier_23 : decode prog_5_method_12_code 23 = .ok (.invokevirtual 48, 3) := by decide +kernel
theorem d_Parser_readTrier_26 : decode prog_5_method_12_code 26 = .ok (.ireturn, 1) := by decide +kernel
theorem d_Parser_readTrier_27 : decode prog_5_method_12_code 27 = .ok (.aload_n 0, 1) := by decide +kernel
theorem d_Parser_readTrier_28 : decode prog_5_method_12_code 28 = .ok (.getfield 12, 3) := by decide +kernel
theorem d_Parser_readTrier_31 : decode prog_5_method_12_code 31 = .ok (.invokevirtual 66, 3) := by decide +kernel
theorem d_Parser_readTrier_34 : decode prog_5_method_12_code 34 = .ok (.aload_n 0, 1) := by decide +kernel
theorem d_Parser_readTrier_35 : decode prog_5_method_12_code 35 = .ok (.invokevirtual 119, 3) := by decide +kernel
theorem d_Parser_readTrier_38 : decode prog_5_method_12_code 38 = .ok (.istore_n 2, 1) := by decide +kernel
theorem d_Parser_readTrier_39 : decode prog_5_method_12_code 39 = .ok (.iload_n 2, 1) := by decide +kernel
theorem d_Parser_readTrier_40 : decode prog_5_method_12_code 40 = .ok (.iconst (-1), 1) := by decide +kernel
theorem d_Parser_readTrier_41 : decode prog_5_method_12_code 41 = .ok (.if_icmp .ne 5, 3) := by decide +kernel
theorem d_Parser_readTrier_44 : decode prog_5_method_12_code 44 = .ok (.iconst 0, 1) := by decide +kernel
theorem d_Parser_readTrier_45 : decode prog_5_method_12_code 45 = .ok (.ireturn, 1) := by decide +kernel
theorem d_Parser_readTrier_46 : decode prog_5_method_12_code 46 = .ok (.iconst 0, 1) := by decide +kernel
theorem d_Parser_readTrier_47 : decode prog_5_method_12_code 47 = .ok (.istore_n 3, 1) := by decide +kernel
theorem d_Parser_readTrier_48 : decode prog_5_method_12_code 48 = .ok (.iload_n 3, 1) := by decide +kernel
theorem d_Parser_readTrier_49 : decode prog_5_method_12_code 49 = .ok (.iconst 5, 1) := by decide +kernel
theorem d_Parser_readTrier_50 : decode prog_5_method_12_code 50 = .ok (.if_icmp .ge 61, 3) := by decide +kernel
theorem d_Parser_readTrier_53 : decode prog_5_method_12_code 53 = .ok (.aload_n 0, 1) := by decide +kernel
theorem d_Parser_readTrier_54 : decode prog_5_method_12_code 54 = .ok (.iconst 3, 1) := by decide +kernel
theorem d_Parser_readTrier_55 : decode prog_5_method_12_code 55 = .ok (.iload_n 3, 1) := by decide +kernel
theorem d_Parser_readTrier_56 : decode prog_5_method_12_code 56 = .ok (.iadd, 1) := by decide +kernel
theorem d_Parser_readTrier_57 : decode prog_5_method_12_code 57 = .ok (.invokevirtual 123, 3) := by decide +kernel
theorem d_Parser_readTrier_60 : decode prog_5_method_12_code 60 = .ok (.ifCond .ne 5, 3) := by decide +kernel
theorem d_Parser_readTrier_63 : decode prog_5_method_12_code 63 = .ok (.iconst 0, 1) := by decide +kernel
theorem d_Parser_readTrier_64 : decode prog_5_method_12_code 64 = .ok (.ireturn, 1) := by decide +kernel
theorem d_Parser_readTrier_65 : decode prog_5_method_12_code 65 = .ok (.aload_n 0, 1) := by decide +kernel
theorem d_Parser_readTrier_66 : decode prog_5_method_12_code 66 = .ok (.getstatic 135, 3) := by decide +kernel
theorem d_Parser_readTrier_69 : decode prog_5_method_12_code 69 = .ok (.iload_n 3, 1) := by decide +kernel
theorem d_Parser_readTrier_70 : decode prog_5_method_12_code 70 = .ok (.iaload, 1) := by decide +kernel
theorem d_Parser_readTrier_71 : decode prog_5_method_12_code 71 = .ok (.getstatic 138, 3) := by decide +kernel
theorem d_Parser_readTrier_74 : decode prog_5_method_12_code 74 = .ok (.iload_n 3, 1) := by decide +kernel
theorem d_Parser_readTrier_75 : decode prog_5_method_12_code 75 = .ok (.iaload, 1) := by decide +kernel
theorem d_Parser_readTrier_76 : decode prog_5_method_12_code 76 = .ok (.invokevirtual 109, 3) := by decide +kernel
theorem d_Parser_readTrier_79 : decode prog_5_method_12_code 79 = .ok (.istore 4, 2) := by decide +kernel
theorem d_Parser_readTrier_81 : decode prog_5_method_12_code 81 = .ok (.iload 4, 2) := by decide +kernel
theorem d_Parser_readTrier_83 : decode prog_5_method_12_code 83 = .ok (.iconst (-1), 1) := by decide +kernel
theorem d_Parser_readTrier_84 : decode prog_5_method_12_code 84 = .ok (.if_icmp .ne 5, 3) := by decide +kernel
theorem d_Parser_readTrier_87 : decode prog_5_method_12_code 87 = .ok (.iconst 0, 1) := by decide +kernel
theorem d_Parser_readTrier_88 : decode prog_5_method_12_code 88 = .ok (.ireturn, 1) := by decide +kernel
theorem d_Parser_readTrier_89 : decode prog_5_method_12_code 89 = .ok (.aload_n 0, 1) := by decide +kernel
theorem d_Parser_readTrier_90 : decode prog_5_method_12_code 90 = .ok (.getfield 21, 3) := by decide +kernel
theorem d_Parser_readTrier_93 : decode prog_5_method_12_code 93 = .ok (.getfield 141, 3) := by decide +kernel
theorem d_Parser_readTrier_96 : decode prog_5_method_12_code 96 = .ok (.iload_n 1, 1) := by decide +kernel
theorem d_Parser_readTrier_97 : decode prog_5_method_12_code 97 = .ok (.bipush 6, 2) := by decide +kernel
theorem d_Parser_readTrier_99 : decode prog_5_method_12_code 99 = .ok (.imul, 1) := by decide +kernel
theorem d_Parser_readTrier_100 : decode prog_5_method_12_code 100 = .ok (.iload_n 3, 1) := by decide +kernel
theorem d_Parser_readTrier_101 : decode prog_5_method_12_code 101 = .ok (.iadd, 1) := by decide +kernel
theorem d_Parser_readTrier_102 : decode prog_5_method_12_code 102 = .ok (.iload 4, 2) := by decide +kernel
theorem d_Parser_readTrier_104 : decode prog_5_method_12_code 104 = .ok (.iastore, 1) := by decide +kernel
theorem d_Parser_readTrier_105 : decode prog_5_method_12_code 105 = .ok (.iinc 3 1, 3) := by decide +kernel
theorem d_Parser_readTrier_108 : decode prog_5_method_12_code 108 = .ok (.goto (-60), 3) := by decide +kernel
theorem d_Parser_readTrier_111 : decode prog_5_method_12_code 111 = .ok (.aload_n 0, 1) := by decide +kernel
theorem d_Parser_readTrier_112 : decode prog_5_method_12_code 112 = .ok (.getfield 12, 3) := by decide +kernel
theorem d_Parser_readTrier_115 : decode prog_5_method_12_code 115 = .ok (.bipush 8, 2) := by decide +kernel
theorem d_Parser_readTrier_117 : decode prog_5_method_12_code 117 = .ok (.invokevirtual 69, 3) := by decide +kernel
theorem d_Parser_readTrier_120 : decode prog_5_method_12_code 120 = .ok (.istore_n 3, 1) := by decide +kernel
theorem d_Parser_readTrier_121 : decode prog_5_method_12_code 121 = .ok (.iload_n 3, 1) := by decide +kernel
theorem d_Parser_readTrier_122 : decode prog_5_method_12_code 122 = .ok (.ifCond .eq 10, 3) := by decide +kernel
theorem d_Parser_readTrier_125 : decode prog_5_method_12_code 125 = .ok (.aload_n 0, 1) := by decide +kernel
theorem d_Parser_readTrier_126 : decode prog_5_method_12_code 126 = .ok (.getfield 12, 3) := by decide +kernel
theorem d_Parser_readTrier_129 : decode prog_5_method_12_code 129 = .ok (.invokevirtual 66, 3) := by decide +kernel
theorem d_Parser_readTrier_132 : decode prog_5_method_12_code 132 = .ok (.aload_n 0, 1) := by decide +kernel
theorem d_Parser_readTrier_133 : decode prog_5_method_12_code 133 = .ok (.getfield 21, 3) := by decide +kernel
theorem d_Parser_readTrier_136 : decode prog_5_method_12_code 136 = .ok (.getfield 141, 3) := by decide +kernel
theorem d_Parser_readTrier_139 : decode prog_5_method_12_code 139 = .ok (.iload_n 1, 1) := by decide +kernel
theorem d_Parser_readTrier_140 : decode prog_5_method_12_code 140 = .ok (.bipush 6, 2) := by decide +kernel
theorem d_Parser_readTrier_142 : decode prog_5_method_12_code 142 = .ok (.imul, 1) := by decide +kernel
theorem d_Parser_readTrier_143 : decode prog_5_method_12_code 143 = .ok (.iconst 5, 1) := by decide +kernel
theorem d_Parser_readTrier_144 : decode prog_5_method_12_code 144 = .ok (.iadd, 1) := by decide +kernel
theorem d_Parser_readTrier_145 : decode prog_5_method_12_code 145 = .ok (.iload_n 3, 1) := by decide +kernel
theorem d_Parser_readTrier_146 : decode prog_5_method_12_code 146 = .ok (.ifCond .eq 7, 3) := by decide +kernel
theorem d_Parser_readTrier_149 : decode prog_5_method_12_code 149 = .ok (.iconst 1, 1) := by decide +kernel
theorem d_Parser_readTrier_150 : decode prog_5_method_12_code 150 = .ok (.goto 4, 3) := by decide +kernel
theorem d_Parser_readTrier_153 : decode prog_5_method_12_code 153 = .ok (.iconst 0, 1) := by decide +kernel
theorem d_Parser_readTrier_154 : decode prog_5_method_12_code 154 = .ok (.iastore, 1) := by decide +kernel
theorem d_Parser_readTrier_155 : decode prog_5_method_12_code 155 = .ok (.aload_n 0, 1) := by decide +kernel
theorem d_Parser_readTrier_156 : decode prog_5_method_12_code 156 = .ok (.getfield 21, 3) := by decide +kernel
theorem d_Parser_readTrier_159 : decode prog_5_method_12_code 159 = .ok (.getfield 144, 3) := by decide +kernel
theorem d_Parser_readTrier_162 : decode prog_5_method_12_code 162 = .ok (.iload_n 1, 1) := by decide +kernel
theorem d_Parser_readTrier_163 : decode prog_5_method_12_code 163 = .ok (.iload_n 2, 1) := by decide +kernel
theorem d_Parser_readTrier_164 : decode prog_5_method_12_code 164 = .ok (.iastore, 1) := by decide +kernel
theorem d_Parser_readTrier_165 : decode prog_5_method_12_code 165 = .ok (.aload_n 0, 1) := by decide +kernel
theorem d_Parser_readTrier_166 : decode prog_5_method_12_code 166 = .ok (.getfield 21, 3) := by decide +kernel
theorem d_Parser_readTrier_169 : decode prog_5_method_12_code 169 = .ok (.dup, 1) := by decide +kernel
theorem d_Parser_readTrier_170 : decode prog_5_method_12_code 170 = .ok (.getfield 132, 3) := by decide +kernel
theorem d_Parser_readTrier_173 : decode prog_5_method_12_code 173 = .ok (.iconst 1, 1) := by decide +kernel
theorem d_Parser_readTrier_174 : decode prog_5_method_12_code 174 = .ok (.iadd, 1) := by decide +kernel
theorem d_Parser_readTrier_175 : decode prog_5_method_12_code 175 = .ok (.putfield 132, 3) := by decide +kernel
theorem d_Parser_readTrier_178 : decode prog_5_method_12_code 178 = .ok (.iconst 1, 1) := by decide +kernel
theorem d_Parser_readTrier_179 : decode prog_5_method_12_code 179 = .ok (.ireturn, 1) := by decide +kernel
theorem d_Parser_readMark_0 : decode prog_5_method_11_code 0 = .ok (.aload_n 0, 1) := by decide +kernel
theorem d_Parser_readMark_1 : decode prog_5_method_11_code 1 = .ok (.getfield 21, 3) := by decide +kernel
theorem d_Parser_readMark_4 : decode prog_5_method_11_code 4 = .ok (.getfield 116, 3) := by decide +kernel
theorem d_Parser_readMark_7 : decode prog_5_method_11_code 7 = .ok (.istore_n 1, 1) := by decide +kernel
theorem d_Parser_readMark_8 : decode prog_5_method_11_code 8 = .ok (.iload_n 1, 1) := by decide +kernel
theorem d_Parser_readMark_9 : decode prog_5_method_11_code 9 = .ok (.bipush 6, 2) := by decide +kernel
theorem d_Parser_readMark_11 : decode prog_5_method_11_code 11 = .ok (.if_icmp .lt 16, 3) := by decide +kernel
theorem d_Parser_readMark_14 : decode prog_5_method_11_code 14 = .ok (.aload_n 0, 1) := by decide +kernel
theorem d_Parser_readMark_15 : decode prog_5_method_11_code 15 = .ok (.iconst 5, 1) := by decide +kernel
theorem d_Parser_readMark_16 : decode prog_5_method_11_code 16 = .ok (.aload_n 0, 1) := by decide +kernel
theorem d_Parser_readMark_17 : decode prog_5_method_11_code 17 = .ok (.getfield 12, 3) := by decide +kernel
theorem d_Parser_readMark_20 : decode prog_5_method_11_code 20 = .ok (.getfield 45, 3) := by decide +kernel
theorem d_Parser_readMark_23 : decode prog_5_method_11_code 23 = .ok (.invokevirtual 48, 3) := by decide +kernel
theorem d_Parser_readMark_26 : decode prog_5_method_11_code 26 = .ok (.ireturn, 1) := by decide +kernel
theorem d_Parser_readMark_27 : decode prog_5_method_11_code 27 = .ok (.aload_n 0, 1) := by decide +kernel
theorem d_Parser_readMark_28 : decode prog_5_method_11_code 28 = .ok (.getfield 12, 3) := by decide +kernel
theorem d_Parser_readMark_31 : decode prog_5_method_11_code 31 = .ok (.invokevirtual 66, 3) := by decide +kernel
theorem d_Parser_readMark_34 : decode prog_5_method_11_code 34 = .ok (.aload_n 0, 1) := by decide +kernel
theorem d_Parser_readMark_35 : decode prog_5_method_11_code 35 = .ok (.invokevirtual 119, 3) := by decide +kernel
theorem d_Parser_readMark_38 : decode prog_5_method_11_code 38 = .ok (.istore_n 2, 1) := by decide +kernel
theorem d_Parser_readMark_39 : decode prog_5_method_11_code 39 = .ok (.iload_n 2, 1) := by decide +kernel
theorem d_Parser_readMark_40 : decode prog_5_method_11_code 40 = .ok (.iconst (-1), 1) := by decide +kernel
theorem d_Parser_readMark_41 : decode prog_5_method_11_code 41 = .ok (.if_icmp .eq 11, 3) := by decide +kernel
theorem d_Parser_readMark_44 : decode prog_5_method_11_code 44 = .ok (.aload_n 0, 1) := by decide +kernel
theorem d_Parser_readMark_45 : decode prog_5_method_11_code 45 = .ok (.iconst 1, 1) := by decide +kernel
theorem d_Parser_readMark_46 : decode prog_5_method_11_code 46 = .ok (.invokevirtual 123, 3) := by decide +kernel
theorem d_Parser_readMark_49 : decode prog_5_method_11_code 49 = .ok (.ifCond .ne 5, 3) := by decide +kernel
theorem d_Parser_readMark_52 : decode prog_5_method_11_code 52 = .ok (.iconst 0, 1) := by decide +kernel
theorem d_Parser_readMark_53 : decode prog_5_method_11_code 53 = .ok (.ireturn, 1) := by decide +kernel
theorem d_Parser_readMark_54 : decode prog_5_method_11_code 54 = .ok (.aload_n 0, 1) := by decide +kernel
theorem d_Parser_readMark_55 : decode prog_5_method_11_code 55 = .ok (.iconst 1, 1) := by decide +kernel
theorem d_Parser_readMark_56 : decode prog_5_method_11_code 56 = .ok (.bipush 99, 2) := by decide +kernel
theorem d_Parser_readMark_58 : decode prog_5_method_11_code 58 = .ok (.invokevirtual 109, 3) := by decide +kernel
theorem d_Parser_readMark_61 : decode prog_5_method_11_code 61 = .ok (.istore_n 3, 1) := by decide +kernel
theorem d_Parser_readMark_62 : decode prog_5_method_11_code 62 = .ok (.iload_n 3, 1) := by decide +kernel
theorem d_Parser_readMark_63 : decode prog_5_method_11_code 63 = .ok (.iconst (-1), 1) := by decide +kernel
theorem d_Parser_readMark_64 : decode prog_5_method_11_code 64 = .ok (.if_icmp .ne 5, 3) := by decide +kernel
theorem d_Parser_readMark_67 : decode prog_5_method_11_code 67 = .ok (.iconst 0, 1) := by decide +kernel
theorem d_Parser_readMark_68 : decode prog_5_method_11_code 68 = .ok (.ireturn, 1) := by decide +kernel
theorem d_Parser_readMark_69 : decode prog_5_method_11_code 69 = .ok (.aload_n 0, 1) := by decide +kernel
theorem d_Parser_readMark_70 : decode prog_5_method_11_code 70 = .ok (.getfield 21, 3) := by decide +kernel
theorem d_Parser_readMark_73 : decode prog_5_method_11_code 73 = .ok (.getfield 126, 3) := by decide +kernel
theorem d_Parser_readMark_76 : decode prog_5_method_11_code 76 = .ok (.iload_n 1, 1) := by decide +kernel
theorem d_Parser_readMark_77 : decode prog_5_method_11_code 77 = .ok (.iload_n 2, 1) := by decide +kernel
theorem d_Parser_readMark_78 : decode prog_5_method_11_code 78 = .ok (.iastore, 1) := by decide +kernel
theorem d_Parser_readMark_79 : decode prog_5_method_11_code 79 = .ok (.aload_n 0, 1) := by decide +kernel
theorem d_Parser_readMark_80 : decode prog_5_method_11_code 80 = .ok (.getfield 21, 3) := by decide +kernel
theorem d_Parser_readMark_83 : decode prog_5_method_11_code 83 = .ok (.getfield 129, 3) := by decide +kernel
theorem d_Parser_readMark_86 : decode prog_5_method_11_code 86 = .ok (.iload_n 1, 1) := by decide +kernel
theorem d_Parser_readMark_87 : decode prog_5_method_11_code 87 = .ok (.iload_n 3, 1) := by decide +kernel
theorem d_Parser_readMark_88 : decode prog_5_method_11_code 88 = .ok (.iastore, 1) := by decide +kernel
theorem d_Parser_readMark_89 : decode prog_5_method_11_code 89 = .ok (.aload_n 0, 1) := by decide +kernel
theorem d_Parser_readMark_90 : decode prog_5_method_11_code 90 = .ok (.getfield 21, 3) := by decide +kernel
theorem d_Parser_readMark_93 : decode prog_5_method_11_code 93 = .ok (.dup, 1) := by decide +kernel
theorem d_Parser_readMark_94 : decode prog_5_method_11_code 94 = .ok (.getfield 116, 3) := by decide +kernel
theorem d_Parser_readMark_97 : decode prog_5_method_11_code 97 = .ok (.iconst 1, 1) := by decide +kernel
theorem d_Parser_readMark_98 : decode prog_5_method_11_code 98 = .ok (.iadd, 1) := by decide +kernel
theorem d_Parser_readMark_99 : decode prog_5_method_11_code 99 = .ok (.putfield 116, 3) := by decide +kernel
theorem d_Parser_readMark_102 : decode prog_5_method_11_code 102 = .ok (.iconst 1, 1) := by decide +kernel
theorem d_Parser_readMark_103 : decode prog_5_method_11_code 103 = .ok (.ireturn, 1) := by decide +kernel
theorem d_Parser_readStatement_0 : decode prog_5_method_9_code 0 = .ok (.aload_n 0, 1) := by decide +kernel
theorem d_Parser_readStatement_1 : decode prog_5_method_9_code 1 = .ok (.getfield 12, 3) := by decide +kernel
theorem d_Parser_readStatement_4 : decode prog_5_method_9_code 4 = .ok (.iconst 0, 1) := by decide +kernel
theorem d_Parser_readStatement_5 : decode prog_5_method_9_code 5 = .ok (.invokevirtual 69, 3) := by decide +kernel
theorem d_Parser_readStatement_8 : decode prog_5_method_9_code 8 = .ok (.ifCond .eq 8, 3) := by decide +kernel
theorem d_Parser_readStatement_11 : decode prog_5_method_9_code 11 = .ok (.aload_n 0, 1) := by decide +kernel
theorem d_Parser_readStatement_12 : decode prog_5_method_9_code 12 = .ok (.invokevirtual 87, 3) := by decide +kernel
theorem d_Parser_readStatement_15 : decode prog_5_method_9_code 15 = .ok (.ireturn, 1) := by decide +kernel
theorem d_Parser_readStatement_16 : decode prog_5_method_9_code 16 = .ok (.aload_n 0, 1) := by decide +kernel
theorem d_Parser_readStatement_17 : decode prog_5_method_9_code 17 = .ok (.getfield 12, 3) := by decide +kernel
theorem d_Parser_readStatement_20 : decode prog_5_method_9_code 20 = .ok (.iconst 2, 1) := by decide +kernel
theorem d_Parser_readStatement_21 : decode prog_5_method_9_code 21 = .ok (.invokevirtual 69, 3) := by decide +kernel
theorem d_Parser_readStatement_24 : decode prog_5_method_9_code 24 = .ok (.ifCond .eq 8, 3) := by decide +kernel
theorem d_Parser_readStatement_27 : decode prog_5_method_9_code 27 = .ok (.aload_n 0, 1) := by decide +kernel
theorem d_Parser_readStatement_28 : decode prog_5_method_9_code 28 = .ok (.invokevirtual 90, 3) := by decide +kernel
theorem d_Parser_readStatement_31 : decode prog_5_method_9_code 31 = .ok (.ireturn, 1) := by decide +kernel
theorem d_Parser_readStatement_32 : decode prog_5_method_9_code 32 = .ok (.aload_n 0, 1) := by decide +kernel
theorem d_Parser_readStatement_33 : decode prog_5_method_9_code 33 = .ok (.getfield 12, 3) := by decide +kernel
theorem d_Parser_readStatement_36 : decode prog_5_method_9_code 36 = .ok (.bipush 9, 2) := by decide +kernel
theorem d_Parser_readStatement_38 : decode prog_5_method_9_code 38 = .ok (.invokevirtual 69, 3) := by decide +kernel
theorem d_Parser_readStatement_41 : decode prog_5_method_9_code 41 = .ok (.ifCond .eq 8, 3) := by decide +kernel
theorem d_Parser_readStatement_44 : decode prog_5_method_9_code 44 = .ok (.aload_n 0, 1) := by decide +kernel
theorem d_Parser_readStatement_45 : decode prog_5_method_9_code 45 = .ok (.invokevirtual 93, 3) := by decide +kernel
theorem d_Parser_readStatement_48 : decode prog_5_method_9_code 48 = .ok (.ireturn, 1) := by decide +kernel
theorem d_Parser_readStatement_49 : decode prog_5_method_9_code 49 = .ok (.aload_n 0, 1) := by decide +kernel
theorem d_Parser_readStatement_50 : decode prog_5_method_9_code 50 = .ok (.getfield 12, 3) := by decide +kernel
theorem d_Parser_readStatement_53 : decode prog_5_method_9_code 53 = .ok (.bipush 17, 2) := by decide +kernel
theorem d_Parser_readStatement_55 : decode prog_5_method_9_code 55 = .ok (.invokevirtual 69, 3) := by decide +kernel
theorem d_Parser_readStatement_58 : decode prog_5_method_9_code 58 = .ok (.ifCond .eq 43, 3) := by decide +kernel
theorem d_Parser_readStatement_61 : decode prog_5_method_9_code 61 = .ok (.aload_n 0, 1) := by decide +kernel
theorem d_Parser_readStatement_62 : decode prog_5_method_9_code 62 = .ok (.getfield 12, 3) := by decide +kernel
theorem d_Parser_readStatement_65 : decode prog_5_method_9_code 65 = .ok (.invokevirtual 66, 3) := by decide +kernel
theorem d_Parser_readStatement_68 : decode prog_5_method_9_code 68 = .ok (.aload_n 0, 1) := by decide +kernel
theorem d_Parser_readStatement_69 : decode prog_5_method_9_code 69 = .ok (.bipush 6, 2) := by decide +kernel
theorem d_Parser_readStatement_71 : decode prog_5_method_9_code 71 = .ok (.invokevirtual 96, 3) := by decide +kernel
theorem d_Parser_readStatement_74 : decode prog_5_method_9_code 74 = .ok (.ifCond .eq 25, 3) := by decide +kernel
theorem d_Parser_readStatement_77 : decode prog_5_method_9_code 77 = .ok (.aload_n 0, 1) := by decide +kernel
theorem d_Parser_readStatement_78 : decode prog_5_method_9_code 78 = .ok (.bipush 7, 2) := by decide +kernel
theorem d_Parser_readStatement_80 : decode prog_5_method_9_code 80 = .ok (.invokevirtual 96, 3) := by decide +kernel
theorem d_Parser_readStatement_83 : decode prog_5_method_9_code 83 = .ok (.ifCond .eq 16, 3) := by decide +kernel
theorem d_Parser_readStatement_86 : decode prog_5_method_9_code 86 = .ok (.aload_n 0, 1) := by decide +kernel
theorem d_Parser_readStatement_87 : decode prog_5_method_9_code 87 = .ok (.bipush 8, 2) := by decide +kernel
theorem d_Parser_readStatement_89 : decode prog_5_method_9_code 89 = .ok (.invokevirtual 96, 3) := by decide +kernel
theorem d_Parser_readStatement_92 : decode prog_5_method_9_code 92 = .ok (.ifCond .eq 7, 3) := by decide +kernel
theorem d_Parser_readStatement_95 : decode prog_5_method_9_code 95 = .ok (.iconst 1, 1) := by decide +kernel
theorem d_Parser_readStatement_96 : decode prog_5_method_9_code 96 = .ok (.goto 4, 3) := by decide +kernel
theorem d_Parser_readStatement_99 : decode prog_5_method_9_code 99 = .ok (.iconst 0, 1) := by decide +kernel
theorem d_Parser_readStatement_100 : decode prog_5_method_9_code 100 = .ok (.ireturn, 1) := by decide +kernel
theorem d_Parser_readStatement_101 : decode prog_5_method_9_code 101 = .ok (.iconst 0, 1) := by decide +kernel
theorem d_Parser_readStatement_102 : decode prog_5_method_9_code 102 = .ok (.istore_n 1, 1) := by decide +kernel
theorem d_Parser_readStatement_103 : decode prog_5_method_9_code 103 = .ok (.iload_n 1, 1) := by decide +kernel
theorem d_Parser_readStatement_104 : decode prog_5_method_9_code 104 = .ok (.getstatic 99, 3) := by decide +kernel
theorem d_Parser_readStatement_107 : decode prog_5_method_9_code 107 = .ok (.arraylength, 1) := by decide +kernel
theorem d_Parser_readStatement_108 : decode prog_5_method_9_code 108 = .ok (.if_icmp .ge 37, 3) := by decide +kernel
theorem d_Parser_readStatement_111 : decode prog_5_method_9_code 111 = .ok (.aload_n 0, 1) := by decide +kernel
theorem d_Parser_readStatement_112 : decode prog_5_method_9_code 112 = .ok (.getfield 12, 3) := by decide +kernel
theorem d_Parser_readStatement_115 : decode prog_5_method_9_code 115 = .ok (.getstatic 99, 3) := by decide +kernel
theorem d_Parser_readStatement_118 : decode prog_5_method_9_code 118 = .ok (.iload_n 1, 1) := by decide +kernel
theorem d_Parser_readStatement_119 : decode prog_5_method_9_code 119 = .ok (.iaload, 1) := by decide +kernel
theorem d_Parser_readStatement_120 : decode prog_5_method_9_code 120 = .ok (.invokevirtual 69, 3) := by decide +kernel
theorem d_Parser_readStatement_123 : decode prog_5_method_9_code 123 = .ok (.ifCond .eq 16, 3) := by decide +kernel
theorem d_Parser_readStatement_126 : decode prog_5_method_9_code 126 = .ok (.aload_n 0, 1) := by decide +kernel
theorem d_Parser_readStatement_127 : decode prog_5_method_9_code 127 = .ok (.getfield 12, 3) := by decide +kernel
theorem d_Parser_readStatement_130 : decode prog_5_method_9_code 130 = .ok (.invokevirtual 66, 3) := by decide +kernel
theorem d_Parser_readStatement_133 : decode prog_5_method_9_code 133 = .ok (.aload_n 0, 1) := by decide +kernel
theorem d_Parser_readStatement_134 : decode prog_5_method_9_code 134 = .ok (.iload_n 1, 1) := by decide +kernel
theorem d_Parser_readStatement_135 : decode prog_5_method_9_code 135 = .ok (.invokevirtual 96, 3) := by decide +kernel
theorem d_Parser_readStatement_138 : decode prog_5_method_9_code 138 = .ok (.ireturn, 1) := by decide +kernel
theorem d_Parser_readStatement_139 : decode prog_5_method_9_code 139 = .ok (.iinc 1 1, 3) := by decide +kernel
theorem d_Parser_readStatement_142 : decode prog_5_method_9_code 142 = .ok (.goto (-39), 3) := by decide +kernel
theorem d_Parser_readStatement_145 : decode prog_5_method_9_code 145 = .ok (.aload_n 0, 1) := by decide +kernel
theorem d_Parser_readStatement_146 : decode prog_5_method_9_code 146 = .ok (.invokevirtual 63, 3) := by decide +kernel
theorem d_Parser_readStatement_149 : decode prog_5_method_9_code 149 = .ok (.ireturn, 1) := by decide +kernel
theorem d_Parser_parse_0 : decode prog_5_method_2_code 0 = .ok (.aload_n 0, 1) := by decide +kernel
theorem d_Parser_parse_1 : decode prog_5_method_2_code 1 = .ok (.iconst 0, 1) := by decide +kernel
theorem d_Parser_parse_2 : decode prog_5_method_2_code 2 = .ok (.putfield 29, 3) := by decide +kernel
theorem d_Parser_parse_5 : decode prog_5_method_2_code 5 = .ok (.aload_n 0, 1) := by decide +kernel
theorem d_Parser_parse_6 : decode prog_5_method_2_code 6 = .ok (.iconst (-1), 1) := by decide +kernel
theorem d_Parser_parse_7 : decode prog_5_method_2_code 7 = .ok (.putfield 25, 3) := by decide +kernel
theorem d_Parser_parse_10 : decode prog_5_method_2_code 10 = .ok (.aload_n 0, 1) := by decide +kernel
theorem d_Parser_parse_11 : decode prog_5_method_2_code 11 = .ok (.getfield 21, 3) := by decide +kernel
theorem d_Parser_parse_14 : decode prog_5_method_2_code 14 = .ok (.invokevirtual 32, 3) := by decide +kernel
theorem d_Parser_parse_17 : decode prog_5_method_2_code 17 = .ok (.aload_n 0, 1) := by decide +kernel
theorem d_Parser_parse_18 : decode prog_5_method_2_code 18 = .ok (.getfield 12, 3) := by decide +kernel
theorem d_Parser_parse_21 : decode prog_5_method_2_code 21 = .ok (.aload_n 1, 1) := by decide +kernel
theorem d_Parser_parse_22 : decode prog_5_method_2_code 22 = .ok (.iload_n 2, 1) := by decide +kernel
theorem d_Parser_parse_23 : decode prog_5_method_2_code 23 = .ok (.invokevirtual 35, 3) := by decide +kernel
theorem d_Parser_parse_26 : decode prog_5_method_2_code 26 = .ok (.iconst 0, 1) := by decide +kernel
theorem d_Parser_parse_27 : decode prog_5_method_2_code 27 = .ok (.istore_n 3, 1) := by decide +kernel
theorem d_Parser_parse_28 : decode prog_5_method_2_code 28 = .ok (.iload_n 3, 1) := by decide +kernel
theorem d_Parser_parse_29 : decode prog_5_method_2_code 29 = .ok (.bipush 70, 2) := by decide +kernel
theorem d_Parser_parse_31 : decode prog_5_method_2_code 31 = .ok (.if_icmp .gt 66, 3) := by decide +kernel
theorem d_Parser_parse_34 : decode prog_5_method_2_code 34 = .ok (.aload_n 0, 1) := by decide +kernel
theorem d_Parser_parse_35 : decode prog_5_method_2_code 35 = .ok (.getfield 12, 3) := by decide +kernel
theorem d_Parser_parse_38 : decode prog_5_method_2_code 38 = .ok (.getfield 39, 3) := by decide +kernel
theorem d_Parser_parse_41 : decode prog_5_method_2_code 41 = .ok (.ifCond .ne 13, 3) := by decide +kernel
theorem d_Parser_parse_44 : decode prog_5_method_2_code 44 = .ok (.aload_n 0, 1) := by decide +kernel
theorem d_Parser_parse_45 : decode prog_5_method_2_code 45 = .ok (.getfield 21, 3) := by decide +kernel
theorem d_Parser_parse_48 : decode prog_5_method_2_code 48 = .ok (.iload_n 3, 1) := by decide +kernel
theorem d_Parser_parse_49 : decode prog_5_method_2_code 49 = .ok (.putfield 42, 3) := by decide +kernel
theorem d_Parser_parse_52 : decode prog_5_method_2_code 52 = .ok (.iconst 1, 1) := by decide +kernel
theorem d_Parser_parse_53 : decode prog_5_method_2_code 53 = .ok (.ireturn, 1) := by decide +kernel
theorem d_Parser_parse_54 : decode prog_5_method_2_code 54 = .ok (.iload_n 3, 1) := by decide +kernel
theorem d_Parser_parse_55 : decode prog_5_method_2_code 55 = .ok (.bipush 70, 2) := by decide +kernel
theorem d_Parser_parse_57 : decode prog_5_method_2_code 57 = .ok (.if_icmp .ne 16, 3) := by decide +kernel
theorem d_Parser_parse_60 : decode prog_5_method_2_code 60 = .ok (.aload_n 0, 1) := by decide +kernel
theorem d_Parser_parse_61 : decode prog_5_method_2_code 61 = .ok (.iconst 5, 1) := by decide +kernel
theorem d_Parser_parse_62 : decode prog_5_method_2_code 62 = .ok (.aload_n 0, 1) := by decide +kernel
theorem d_Parser_parse_63 : decode prog_5_method_2_code 63 = .ok (.getfield 12, 3) := by decide +kernel
theorem d_Parser_parse_66 : decode prog_5_method_2_code 66 = .ok (.getfield 45, 3) := by decide +kernel
theorem d_Parser_parse_69 : decode prog_5_method_2_code 69 = .ok (.invokevirtual 48, 3) := by decide +kernel
theorem d_Parser_parse_72 : decode prog_5_method_2_code 72 = .ok (.ireturn, 1) := by decide +kernel
theorem d_Parser_parse_73 : decode prog_5_method_2_code 73 = .ok (.aload_n 0, 1) := by decide +kernel
theorem d_Parser_parse_74 : decode prog_5_method_2_code 74 = .ok (.invokevirtual 52, 3) := by decide +kernel
theorem d_Parser_parse_77 : decode prog_5_method_2_code 77 = .ok (.ifCond .eq 12, 3) := by decide +kernel
theorem d_Parser_parse_80 : decode prog_5_method_2_code 80 = .ok (.aload_n 0, 1) := by decide +kernel
theorem d_Parser_parse_81 : decode prog_5_method_2_code 81 = .ok (.bipush 59, 2) := by decide +kernel
theorem d_Parser_parse_83 : decode prog_5_method_2_code 83 = .ok (.invokevirtual 56, 3) := by decide +kernel
theorem d_Parser_parse_86 : decode prog_5_method_2_code 86 = .ok (.ifCond .ne 5, 3) := by decide +kernel
theorem d_Parser_parse_89 : decode prog_5_method_2_code 89 = .ok (.iconst 0, 1) := by decide +kernel
theorem d_Parser_parse_90 : decode prog_5_method_2_code 90 = .ok (.ireturn, 1) := by decide +kernel
theorem d_Parser_parse_91 : decode prog_5_method_2_code 91 = .ok (.iinc 3 1, 3) := by decide +kernel
theorem d_Parser_parse_94 : decode prog_5_method_2_code 94 = .ok (.goto (-66), 3) := by decide +kernel
theorem d_Parser_parse_97 : decode prog_5_method_2_code 97 = .ok (.iconst 0, 1) := by decide +kernel
theorem d_Parser_parse_98 : decode prog_5_method_2_code 98 = .ok (.ireturn, 1) := by decide +kernel
theorem d_Book_open_0 : decode prog_2_method_2_code 0 = .ok (.aload_n 0, 1) := by decide +kernel
theorem d_Book_open_1 : decode prog_2_method_2_code 1 = .ok (.iconst 0, 1) := by decide +kernel
theorem d_Book_open_2 : decode prog_2_method_2_code 2 = .ok (.putfield 40, 3) := by decide +kernel
theorem d_Book_open_5 : decode prog_2_method_2_code 5 = .ok (.aload_n 0, 1) := by decide +kernel
theorem d_Book_open_6 : decode prog_2_method_2_code 6 = .ok (.iconst 0, 1) := by decide +kernel
theorem d_Book_open_7 : decode prog_2_method_2_code 7 = .ok (.putfield 43, 3) := by decide +kernel
theorem d_Book_open_10 : decode prog_2_method_2_code 10 = .ok (.aload_n 0, 1) := by decide +kernel
theorem d_Book_open_11 : decode prog_2_method_2_code 11 = .ok (.iconst 1, 1) := by decide +kernel
theorem d_Book_open_12 : decode prog_2_method_2_code 12 = .ok (.aload_n 1, 1) := by decide +kernel
theorem d_Book_open_13 : decode prog_2_method_2_code 13 = .ok (.getfield 46, 3) := by decide +kernel
theorem d_Book_open_16 : decode prog_2_method_2_code 16 = .ok (.ishl, 1) := by decide +kernel
theorem d_Book_open_17 : decode prog_2_method_2_code 17 = .ok (.iconst 1, 1) := by decide +kernel
theorem d_Book_open_18 : decode prog_2_method_2_code 18 = .ok (.isub, 1) := by decide +kernel
theorem d_Book_open_19 : decode prog_2_method_2_code 19 = .ok (.putfield 51, 3) := by decide +kernel
theorem d_Book_open_22 : decode prog_2_method_2_code 22 = .ok (.aload_n 1, 1) := by decide +kernel
theorem d_Book_open_23 : decode prog_2_method_2_code 23 = .ok (.getfield 54, 3) := by decide +kernel
theorem d_Book_open_26 : decode prog_2_method_2_code 26 = .ok (.iconst 0, 1) := by decide +kernel
theorem d_Book_open_27 : decode prog_2_method_2_code 27 = .ok (.aload_n 0, 1) := by decide +kernel
theorem d_Book_open_28 : decode prog_2_method_2_code 28 = .ok (.getfield 11, 3) := by decide +kernel
theorem d_Book_open_31 : decode prog_2_method_2_code 31 = .ok (.iconst 0, 1) := by decide +kernel
theorem d_Book_open_32 : decode prog_2_method_2_code 32 = .ok (.iconst 3, 1) := by decide +kernel
theorem d_Book_open_33 : decode prog_2_method_2_code 33 = .ok (.invokestatic 34, 3) := by decide +kernel
theorem d_Book_open_36 : decode prog_2_method_2_code 36 = .ok (.aload_n 0, 1) := by decide +kernel
theorem d_Book_open_37 : decode prog_2_method_2_code 37 = .ok (.iconst 0, 1) := by decide +kernel
theorem d_Book_open_38 : decode prog_2_method_2_code 38 = .ok (.putfield 57, 3) := by decide +kernel
theorem d_Book_open_41 : decode prog_2_method_2_code 41 = .ok (.aload_n 0, 1) := by decide +kernel
theorem d_Book_open_42 : decode prog_2_method_2_code 42 = .ok (.iconst 0, 1) := by decide +kernel
theorem d_Book_open_43 : decode prog_2_method_2_code 43 = .ok (.putfield 60, 3) := by decide +kernel
theorem d_Book_open_46 : decode prog_2_method_2_code 46 = .ok (.return_, 1) := by decide +kernel
theorem d_BH_fault_0 : decode prog_1_method_5_code 0 = .ok (.iload_n 1, 1) := by decide +kernel
theorem d_BH_fault_1 : decode prog_1_method_5_code 1 = .ok (.ifCond .ne 11, 3) := by decide +kernel
theorem d_BH_fault_4 : decode prog_1_method_5_code 4 = .ok (.aload_n 0, 1) := by decide +kernel
theorem d_BH_fault_5 : decode prog_1_method_5_code 5 = .ok (.getfield 19, 3) := by decide +kernel
theorem d_BH_fault_8 : decode prog_1_method_5_code 8 = .ok (.getfield 96, 3) := by decide +kernel
theorem d_BH_fault_11 : decode prog_1_method_5_code 11 = .ok (.ireturn, 1) := by decide +kernel
theorem d_BH_fault_12 : decode prog_1_method_5_code 12 = .ok (.iload_n 1, 1) := by decide +kernel
theorem d_BH_fault_13 : decode prog_1_method_5_code 13 = .ok (.iconst 1, 1) := by decide +kernel
theorem d_BH_fault_14 : decode prog_1_method_5_code 14 = .ok (.if_icmp .ne 13, 3) := by decide +kernel
theorem d_BH_fault_17 : decode prog_1_method_5_code 17 = .ok (.aload_n 0, 1) := by decide +kernel
theorem d_BH_fault_18 : decode prog_1_method_5_code 18 = .ok (.getfield 19, 3) := by decide +kernel
theorem d_BH_fault_21 : decode prog_1_method_5_code 21 = .ok (.getfield 99, 3) := by decide +kernel
theorem d_BH_fault_24 : decode prog_1_method_5_code 24 = .ok (.goto 4, 3) := by decide +kernel
theorem d_BH_fault_27 : decode prog_1_method_5_code 27 = .ok (.iconst (-1), 1) := by decide +kernel
theorem d_BH_fault_28 : decode prog_1_method_5_code 28 = .ok (.ireturn, 1) := by decide +kernel
def f_Parser_readProduct_64 (kS : Int32 → St → Option (Int32 × St)) (k12 : Int32 → Int32 → St → Option (Int32 × St)) (x1 : Int32) (x2 : Int32) (t0 : Int32) (σ : St) : Option (Int32 × St) :=
  bp (f_Reader_step σ) fun σ_2 =>
  bd (f_Parser_readPart kS x1 σ_2) fun r_4 σ_5 =>
  if r_4 = 0 then
    some (0, σ_5)
  else
    bp (f_Fair_emit t0 σ_5) fun σ_7 =>
    lt ((x2 + 1)) fun x_8 =>
    k12 x1 x_8 σ_7
def f_Parser_readProduct_43 (kS : Int32 → St → Option (Int32 × St)) (k12 : Int32 → Int32 → St → Option (Int32 × St)) (x1 : Int32) (x2 : Int32) (σ : St) : Option (Int32 × St) :=
  bp (f_Reader_isSign 42 σ) fun r_2 =>
  if r_2 = 0 then
    f_Parser_readProduct_64 kS k12 x1 x2 10019 σ
  else
    f_Parser_readProduct_64 kS k12 x1 x2 10018 σ
def f_Parser_readProduct_12b (kS : Int32 → St → Option (Int32 × St)) (k12 : Int32 → Int32 → St → Option (Int32 × St)) (x1 : Int32) (x2 : Int32) (σ : St) : Option (Int32 × St) :=
  if 1600 ≤ x2 then
    some (1, σ)
  else
    bp (f_Reader_isSign 42 σ) fun r_2 =>
    if r_2 = 0 then
      bp (f_Reader_isSign 47 σ) fun r_4 =>
      if r_4 = 0 then
        some (1, σ)
      else
        f_Parser_readProduct_43 kS k12 x1 x2 σ
    else
      f_Parser_readProduct_43 kS k12 x1 x2 σ
def f_Parser_readProduct_12 (kS : Int32 → St → Option (Int32 × St)) : Nat → Int32 → Int32 → St → Option (Int32 × St)
  | 0 => fun _ _ _ => none
  | n + 1 => f_Parser_readProduct_12b kS  (f_Parser_readProduct_12 kS  n)
def f_Parser_readProduct (kS : Int32 → St → Option (Int32 × St)) (x1 : Int32) (σ : St) : Option (Int32 × St) :=
  bd (f_Parser_readPart kS x1 σ) fun r_2 σ_3 =>
  if r_2 = 0 then
    some (0, σ_3)
  else
    f_Parser_readProduct_12 kS FU x1 0 σ_3
set_option maxHeartbeats 4000000 in
set_option maxRecDepth 20000 in
theorem t_Parser_readProduct_64 {r : Int32} {σ2 : St} (C : Cx g A p s m av meth c prog_5_method_20_code 4 "BellHammer$Parser" (some .boolean)) {nk : Nat} (hnk : 4 ≤ nk) {kS : Int32 → St → Option (Int32 × St)} (hkS : ∀ (a0 : Int32) (σ : St) (r : Int32) (σ2 : St), kS a0 σ = some (r, σ2) → KK l y_Parser_readSum prog_5_method_19_code 4 (some .boolean) nk g (wX g (qt q)) σ [.ref (qt q 3), .int a0] (some (.int r)) (wX g (qt q)) σ2) {k12 : Int32 → Int32 → St → Option (Int32 × St)} (hk12 : ∀ (x1 : Int32) (x2 : Int32) (σ : St) (H : Heap) (locs : List Loc) (ls : Array Slot), k12 x1 x2 σ = some (r, σ2) → Wd g (wX g (qt q)) A s σ H locs → lv_has ls 4 [(0, .ref (qt q 3)), (1, .int x1), (2, .int x2)] → WK p l e s m av below meth c (nk + 3) g (wX g (qt q)) A (some (.int r)) σ2 H locs (F0 m 12 ls []))  {x1 : Int32} {x2 : Int32} {t0 : Int32} {σ : St} {H : Heap} {locs : List Loc} {ls : Array Slot} (hf : f_Parser_readProduct_64 kS k12 x1 x2 t0 σ = some (r, σ2)) (w : Wd g (wX g (qt q)) A s σ H locs) (hl : lv_has ls 4 [(0, .ref (qt q 3)), (1, .int x1), (2, .int x2)]) : WK p l e s m av below meth c (nk + 3) g (wX g (qt q)) A (some (.int r)) σ2 H locs (F0 m 64 ls [.int t0]) := by
  obtain ⟨hx, hb, hml, hown, hts, hK, hA, hZ, hlocks, hr, hN⟩ := id C
  unfold f_Parser_readProduct_64 at hf
  refine lv_istore_n (lv' := [(3, .int t0), (0, .ref (qt q 3)), (1, .int x1), (2, .int x2)]) hx hb d_Parser_readProduct_64 rfl hl (by decide) rfl (fun ls hl => ?_)
  refine lv_aload_n hx hb d_Parser_readProduct_65 rfl (lv_at hl 1 rfl) ?_
  refine xg_3_reader C w k311 d_Parser_readProduct_66 ?_
  obtain ⟨σ_2, h_1, hf⟩ := bp_e hf
  refine k_callV (As := []) (rest := []) C w (c_Reader_step (q := q) h_1) cv_Reader_step k600 (xr_4 C w) (by omega) hl.1 rfl (Nat.le_of_ble_eq_true rfl) d_Parser_readProduct_69 (fun H locs w => ?_)
  show WK p l e s m av below meth c (nk + 3) g (wX g (qt q)) A (some (.int r)) σ2 H locs (F0 m 72 ls [])
  refine lv_aload_n hx hb d_Parser_readProduct_72 rfl (lv_at hl 1 rfl) ?_
  refine lv_iload_n hx hb d_Parser_readProduct_73 rfl (lv_at hl 2 rfl) ?_
  obtain ⟨r_4, σ_5, h_3, hf⟩ := bd_e hf
  refine k_callV (As := [.int x1]) (rest := []) C w (c_Parser_readPart (q := q) hnk hkS h_3) cv_Parser_readPart k678 (xr_3 C w) (by omega) hl.1 rfl (Nat.le_of_ble_eq_true rfl) d_Parser_readProduct_74 (fun H locs w => ?_)
  show WK p l e s m av below meth c (nk + 3) g (wX g (qt q)) A (some (.int r)) σ2 H locs (F0 m 77 ls [.int r_4])
  refine lv_if_ne (tgt := 82) hx hb d_Parser_readProduct_77 (by decide) (fun cd => ?_) (fun cd => ?_)
  · have hf := if_e cd hf
    refine lv_aload_n hx hb d_Parser_readProduct_82 rfl (lv_at hl 1 rfl) ?_
    refine xg_3_draft C w k312 d_Parser_readProduct_83 ?_
    refine lv_iload_n hx hb d_Parser_readProduct_86 rfl (lv_at hl 0 rfl) ?_
    obtain ⟨σ_7, h_6, hf⟩ := bp_e hf
    refine k_callV (As := [.int t0]) (rest := []) C w (c_Fair_emit (q := qt q) h_6) cv_Fair_emit k654 (xr_6 C w) (by omega) hl.1 rfl (Nat.le_of_ble_eq_true rfl) d_Parser_readProduct_87 (fun H locs w => ?_)
    show WK p l e s m av below meth c (nk + 3) g (wX g (qt q)) A (some (.int r)) σ2 H locs (F0 m 90 ls [])
    obtain ⟨x_8, ex_8⟩ : ∃ y : Int32, y = (x2 + 1) := ⟨_, rfl⟩
    have hf := lt_e ex_8 hf
    refine lv_iinc (v := x_8) (lv' := [(2, .int x_8), (3, .int t0), (0, .ref (qt q 3)), (1, .int x1)]) hx hb d_Parser_readProduct_90 hl (k := 3) rfl (by rw [ex_8]; rfl) (by decide) rfl (fun ls hl => ?_)
    refine lv_goto (tgt := 12) hx hb d_Parser_readProduct_93 (by decide) ?_
    exact hk12 x1 x_8 σ_7 _ _ _ hf w (lv_sub hl [2, 3, 0] rfl)
  · have hf := it_e cd hf
    refine lv_iconst (v := 0) hx hb d_Parser_readProduct_80 (by decide) ?_
    obtain ⟨rfl, rfl⟩ := some2_e hf
    exact k_zret C w (by decide) d_Parser_readProduct_81
set_option maxHeartbeats 4000000 in
set_option maxRecDepth 20000 in
theorem t_Parser_readProduct_43 {r : Int32} {σ2 : St} (C : Cx g A p s m av meth c prog_5_method_20_code 4 "BellHammer$Parser" (some .boolean)) {nk : Nat} (hnk : 4 ≤ nk) {kS : Int32 → St → Option (Int32 × St)} (hkS : ∀ (a0 : Int32) (σ : St) (r : Int32) (σ2 : St), kS a0 σ = some (r, σ2) → KK l y_Parser_readSum prog_5_method_19_code 4 (some .boolean) nk g (wX g (qt q)) σ [.ref (qt q 3), .int a0] (some (.int r)) (wX g (qt q)) σ2) {k12 : Int32 → Int32 → St → Option (Int32 × St)} (hk12 : ∀ (x1 : Int32) (x2 : Int32) (σ : St) (H : Heap) (locs : List Loc) (ls : Array Slot), k12 x1 x2 σ = some (r, σ2) → Wd g (wX g (qt q)) A s σ H locs → lv_has ls 4 [(0, .ref (qt q 3)), (1, .int x1), (2, .int x2)] → WK p l e s m av below meth c (nk + 3) g (wX g (qt q)) A (some (.int r)) σ2 H locs (F0 m 12 ls []))  {x1 : Int32} {x2 : Int32} {σ : St} {H : Heap} {locs : List Loc} {ls : Array Slot} (hf : f_Parser_readProduct_43 kS k12 x1 x2 σ = some (r, σ2)) (w : Wd g (wX g (qt q)) A s σ H locs) (hl : lv_has ls 4 [(0, .ref (qt q 3)), (1, .int x1), (2, .int x2)]) : WK p l e s m av below meth c (nk + 3) g (wX g (qt q)) A (some (.int r)) σ2 H locs (F0 m 43 ls []) := by
  obtain ⟨hx, hb, hml, hown, hts, hK, hA, hZ, hlocks, hr, hN⟩ := id C
  unfold f_Parser_readProduct_43 at hf
  refine lv_aload_n hx hb d_Parser_readProduct_43 rfl (lv_at hl 0 rfl) ?_
  refine xg_3_reader C w k311 d_Parser_readProduct_44 ?_
  refine lv_bipush (v := 42) hx hb d_Parser_readProduct_47 (by decide) ?_
  obtain ⟨r_2, h_1, hf⟩ := bp_e hf
  refine k_callV (As := [.int 42]) (rest := []) C w (c_Reader_isSign (q := qt q) h_1) cv_Reader_isSign k658 (xr_4 C w) (by omega) hl.1 rfl (Nat.le_of_ble_eq_true rfl) d_Parser_readProduct_49 (fun H locs w => ?_)
  show WK p l e s m av below meth c (nk + 3) g (wX g (qt q)) A (some (.int r)) σ2 H locs (F0 m 52 ls [.int r_2])
  refine lv_if_eq (tgt := 61) hx hb d_Parser_readProduct_52 (by decide) (fun cd => ?_) (fun cd => ?_)
  · have hf := it_e cd hf
    refine lv_sipush (v := 10019) hx hb d_Parser_readProduct_61 (by decide) ?_
    exact t_Parser_readProduct_64 C hnk hkS hk12 hf w (lv_sub hl [0, 1, 2] rfl)
  · have hf := if_e cd hf
    refine lv_sipush (v := 10018) hx hb d_Parser_readProduct_55 (by decide) ?_
    refine lv_goto (tgt := 64) hx hb d_Parser_readProduct_58 (by decide) ?_
    exact t_Parser_readProduct_64 C hnk hkS hk12 hf w (lv_sub hl [0, 1, 2] rfl)
set_option maxHeartbeats 4000000 in
set_option maxRecDepth 20000 in
theorem t_Parser_readProduct_12b {r : Int32} {σ2 : St} (C : Cx g A p s m av meth c prog_5_method_20_code 4 "BellHammer$Parser" (some .boolean)) {nk : Nat} (hnk : 4 ≤ nk) {kS : Int32 → St → Option (Int32 × St)} (hkS : ∀ (a0 : Int32) (σ : St) (r : Int32) (σ2 : St), kS a0 σ = some (r, σ2) → KK l y_Parser_readSum prog_5_method_19_code 4 (some .boolean) nk g (wX g (qt q)) σ [.ref (qt q 3), .int a0] (some (.int r)) (wX g (qt q)) σ2) {k12 : Int32 → Int32 → St → Option (Int32 × St)} (hk12 : ∀ (x1 : Int32) (x2 : Int32) (σ : St) (H : Heap) (locs : List Loc) (ls : Array Slot), k12 x1 x2 σ = some (r, σ2) → Wd g (wX g (qt q)) A s σ H locs → lv_has ls 4 [(0, .ref (qt q 3)), (1, .int x1), (2, .int x2)] → WK p l e s m av below meth c (nk + 3) g (wX g (qt q)) A (some (.int r)) σ2 H locs (F0 m 12 ls []))  {x1 : Int32} {x2 : Int32} {σ : St} {H : Heap} {locs : List Loc} {ls : Array Slot} (hf : f_Parser_readProduct_12b kS k12 x1 x2 σ = some (r, σ2)) (w : Wd g (wX g (qt q)) A s σ H locs) (hl : lv_has ls 4 [(0, .ref (qt q 3)), (1, .int x1), (2, .int x2)]) : WK p l e s m av below meth c (nk + 3) g (wX g (qt q)) A (some (.int r)) σ2 H locs (F0 m 12 ls []) := by
  obtain ⟨hx, hb, hml, hown, hts, hK, hA, hZ, hlocks, hr, hN⟩ := id C
  unfold f_Parser_readProduct_12b at hf
  refine lv_iload_n hx hb d_Parser_readProduct_12 rfl (lv_at hl 2 rfl) ?_
  refine lv_sipush (v := 1600) hx hb d_Parser_readProduct_13 (by decide) ?_
  refine lv_icmp_ge (tgt := 96) hx hb d_Parser_readProduct_16 (by decide) (fun cd => ?_) (fun cd => ?_)
  · have hf := it_e cd hf
    refine lv_iconst (v := 1) hx hb d_Parser_readProduct_96 (by decide) ?_
    obtain ⟨rfl, rfl⟩ := some2_e hf
    exact k_zret C w (by decide) d_Parser_readProduct_97
  · have hf := if_e cd hf
    refine lv_aload_n hx hb d_Parser_readProduct_19 rfl (lv_at hl 0 rfl) ?_
    refine xg_3_reader C w k311 d_Parser_readProduct_20 ?_
    refine lv_bipush (v := 42) hx hb d_Parser_readProduct_23 (by decide) ?_
    obtain ⟨r_2, h_1, hf⟩ := bp_e hf
    refine k_callV (As := [.int 42]) (rest := []) C w (c_Reader_isSign (q := qt q) h_1) cv_Reader_isSign k658 (xr_4 C w) (by omega) hl.1 rfl (Nat.le_of_ble_eq_true rfl) d_Parser_readProduct_25 (fun H locs w => ?_)
    show WK p l e s m av below meth c (nk + 3) g (wX g (qt q)) A (some (.int r)) σ2 H locs (F0 m 28 ls [.int r_2])
    refine lv_if_ne (tgt := 43) hx hb d_Parser_readProduct_28 (by decide) (fun cd => ?_) (fun cd => ?_)
    · have hf := if_e cd hf
      exact t_Parser_readProduct_43 C hnk hkS hk12 hf w (lv_sub hl [0, 1, 2] rfl)
    · have hf := it_e cd hf
      refine lv_aload_n hx hb d_Parser_readProduct_31 rfl (lv_at hl 0 rfl) ?_
      refine xg_3_reader C w k311 d_Parser_readProduct_32 ?_
      refine lv_bipush (v := 47) hx hb d_Parser_readProduct_35 (by decide) ?_
      obtain ⟨r_4, h_3, hf⟩ := bp_e hf
      refine k_callV (As := [.int 47]) (rest := []) C w (c_Reader_isSign (q := qt q) h_3) cv_Reader_isSign k658 (xr_4 C w) (by omega) hl.1 rfl (Nat.le_of_ble_eq_true rfl) d_Parser_readProduct_37 (fun H locs w => ?_)
      show WK p l e s m av below meth c (nk + 3) g (wX g (qt q)) A (some (.int r)) σ2 H locs (F0 m 40 ls [.int r_4])
      refine lv_if_eq (tgt := 96) hx hb d_Parser_readProduct_40 (by decide) (fun cd => ?_) (fun cd => ?_)
      · have hf := it_e cd hf
        refine lv_iconst (v := 1) hx hb d_Parser_readProduct_96 (by decide) ?_
        obtain ⟨rfl, rfl⟩ := some2_e hf
        exact k_zret C w (by decide) d_Parser_readProduct_97
      · have hf := if_e cd hf
        exact t_Parser_readProduct_43 C hnk hkS hk12 hf w (lv_sub hl [0, 1, 2] rfl)
set_option maxHeartbeats 4000000 in
set_option maxRecDepth 20000 in
theorem t_Parser_readProduct_12 {r : Int32} {σ2 : St} (C : Cx g A p s m av meth c prog_5_method_20_code 4 "BellHammer$Parser" (some .boolean)) {nk : Nat} (hnk : 4 ≤ nk) {kS : Int32 → St → Option (Int32 × St)} (hkS : ∀ (a0 : Int32) (σ : St) (r : Int32) (σ2 : St), kS a0 σ = some (r, σ2) → KK l y_Parser_readSum prog_5_method_19_code 4 (some .boolean) nk g (wX g (qt q)) σ [.ref (qt q 3), .int a0] (some (.int r)) (wX g (qt q)) σ2)  : ∀ (n : Nat) (x1 : Int32) (x2 : Int32) (σ : St) (H : Heap) (locs : List Loc) (ls : Array Slot), f_Parser_readProduct_12 kS  n x1 x2 σ = some (r, σ2) → Wd g (wX g (qt q)) A s σ H locs → lv_has ls 4 [(0, .ref (qt q 3)), (1, .int x1), (2, .int x2)] → WK p l e s m av below meth c (nk + 3) g (wX g (qt q)) A (some (.int r)) σ2 H locs (F0 m 12 ls []) := by
  intro n
  induction n with
  | zero => intro x1 x2 σ H locs ls hf; exact absurd hf (by intro z; cases z)
  | succ n ih => intro x1 x2 σ H locs ls hf w hl; exact t_Parser_readProduct_12b C hnk hkS  ih hf w hl
set_option maxHeartbeats 4000000 in
set_option maxRecDepth 20000 in
theorem c_Parser_readProduct {l : Launch} {g : GX} {q : Nat → Nat} {nk : Nat} (hnk : 4 ≤ nk) {kS : Int32 → St → Option (Int32 × St)} (hkS : ∀ (a0 : Int32) (σ : St) (r : Int32) (σ2 : St), kS a0 σ = some (r, σ2) → KK l y_Parser_readSum prog_5_method_19_code 4 (some .boolean) nk g (wX g (qt q)) σ [.ref (qt q 3), .int a0] (some (.int r)) (wX g (qt q)) σ2) {x1 : Int32}  {σ : St} {r : Int32} {σ2 : St} (hf : f_Parser_readProduct kS x1 σ = some (r, σ2)) : KK l y_Parser_readProduct prog_5_method_20_code 4 (some .boolean) (nk + 3) g (wX g (qt q)) σ [.ref (qt q 3), .int x1] (some (.int r)) (wX g (qt q)) σ2 := by
  refine KK_of (plainFor_of_name (by decide)) (Nat.le_of_ble_eq_true rfl) (fun p e s m below meth c A ls C w hl => ?_)
  have hl : lv_has ls 4 [(0, .ref (qt q 3)), (1, .int x1)] := hl
  obtain ⟨hx, hb, hml, hown, hts, hK, hA, hZ, hlocks, hr, hN⟩ := id C
  unfold f_Parser_readProduct at hf
  refine lv_aload_n hx hb d_Parser_readProduct_0 rfl (lv_at hl 0 rfl) ?_
  refine lv_iload_n hx hb d_Parser_readProduct_1 rfl (lv_at hl 1 rfl) ?_
  obtain ⟨r_2, σ_3, h_1, hf⟩ := bd_e hf
  refine k_callV (As := [.int x1]) (rest := []) C w (c_Parser_readPart (q := q) hnk hkS h_1) cv_Parser_readPart k678 (xr_3 C w) (by omega) hl.1 rfl (Nat.le_of_ble_eq_true rfl) d_Parser_readProduct_2 (fun H locs w => ?_)
  show WK p l e s m _ below meth c (nk + 3) g (wX g (qt q)) A (some (.int r)) σ2 H locs (F0 m 5 ls [.int r_2])
  refine lv_if_ne (tgt := 10) hx hb d_Parser_readProduct_5 (by decide) (fun cd => ?_) (fun cd => ?_)
  · have hf := if_e cd hf
    refine lv_iconst (v := 0) hx hb d_Parser_readProduct_10 (by decide) ?_
    refine lv_istore_n (lv' := [(2, .int 0), (0, .ref (qt q 3)), (1, .int x1)]) hx hb d_Parser_readProduct_11 rfl hl (by decide) rfl (fun ls hl => ?_)
    exact t_Parser_readProduct_12 C hnk hkS  FU x1 0 σ_3 _ _ _ hf w (lv_sub hl [1, 2, 0] rfl)
  · have hf := it_e cd hf
    refine lv_iconst (v := 0) hx hb d_Parser_readProduct_8 (by decide) ?_
    obtain ⟨rfl, rfl⟩ := some2_e hf
    exact k_zret C w (by decide) d_Parser_readProduct_9
def f_Parser_readSum_64 (kS : Int32 → St → Option (Int32 × St)) (k12 : Int32 → Int32 → St → Option (Int32 × St)) (x1 : Int32) (x2 : Int32) (t0 : Int32) (σ : St) : Option (Int32 × St) :=
  bp (f_Reader_step σ) fun σ_2 =>
  bd (f_Parser_readProduct kS x1 σ_2) fun r_4 σ_5 =>
  if r_4 = 0 then
    some (0, σ_5)
  else
    bp (f_Fair_emit t0 σ_5) fun σ_7 =>
    lt ((x2 + 1)) fun x_8 =>
    k12 x1 x_8 σ_7
def f_Parser_readSum_43 (kS : Int32 → St → Option (Int32 × St)) (k12 : Int32 → Int32 → St → Option (Int32 × St)) (x1 : Int32) (x2 : Int32) (σ : St) : Option (Int32 × St) :=
  bp (f_Reader_isSign 43 σ) fun r_2 =>
  if r_2 = 0 then
    f_Parser_readSum_64 kS k12 x1 x2 10017 σ
  else
    f_Parser_readSum_64 kS k12 x1 x2 10016 σ
def f_Parser_readSum_12b (kS : Int32 → St → Option (Int32 × St)) (k12 : Int32 → Int32 → St → Option (Int32 × St)) (x1 : Int32) (x2 : Int32) (σ : St) : Option (Int32 × St) :=
  if 1600 ≤ x2 then
    some (1, σ)
  else
    bp (f_Reader_isSign 43 σ) fun r_2 =>
    if r_2 = 0 then
      bp (f_Reader_isSign 45 σ) fun r_4 =>
      if r_4 = 0 then
        some (1, σ)
      else
        f_Parser_readSum_43 kS k12 x1 x2 σ
    else
      f_Parser_readSum_43 kS k12 x1 x2 σ
def f_Parser_readSum_12 (kS : Int32 → St → Option (Int32 × St)) : Nat → Int32 → Int32 → St → Option (Int32 × St)
  | 0 => fun _ _ _ => none
  | n + 1 => f_Parser_readSum_12b kS  (f_Parser_readSum_12 kS  n)
def f_Parser_readSumB (kS : Int32 → St → Option (Int32 × St)) (x1 : Int32) (σ : St) : Option (Int32 × St) :=
  bd (f_Parser_readProduct kS x1 σ) fun r_2 σ_3 =>
  if r_2 = 0 then
    some (0, σ_3)
  else
    f_Parser_readSum_12 kS FU x1 0 σ_3
def f_Parser_readSum : Nat → Int32 → St → Option (Int32 × St)
  | 0 => fun _ _ => none
  | d + 1 => f_Parser_readSumB (f_Parser_readSum d)
set_option maxHeartbeats 4000000 in
set_option maxRecDepth 20000 in
theorem t_Parser_readSum_64 {r : Int32} {σ2 : St} (C : Cx g A p s m av meth c prog_5_method_19_code 4 "BellHammer$Parser" (some .boolean)) {nk : Nat} (hnk : 4 ≤ nk) {kS : Int32 → St → Option (Int32 × St)} (hkS : ∀ (a0 : Int32) (σ : St) (r : Int32) (σ2 : St), kS a0 σ = some (r, σ2) → KK l y_Parser_readSum prog_5_method_19_code 4 (some .boolean) nk g (wX g (qt q)) σ [.ref (qt q 3), .int a0] (some (.int r)) (wX g (qt q)) σ2) {k12 : Int32 → Int32 → St → Option (Int32 × St)} (hk12 : ∀ (x1 : Int32) (x2 : Int32) (σ : St) (H : Heap) (locs : List Loc) (ls : Array Slot), k12 x1 x2 σ = some (r, σ2) → Wd g (wX g (qt q)) A s σ H locs → lv_has ls 4 [(0, .ref (qt q 3)), (1, .int x1), (2, .int x2)] → WK p l e s m av below meth c (nk + 5) g (wX g (qt q)) A (some (.int r)) σ2 H locs (F0 m 12 ls []))  {x1 : Int32} {x2 : Int32} {t0 : Int32} {σ : St} {H : Heap} {locs : List Loc} {ls : Array Slot} (hf : f_Parser_readSum_64 kS k12 x1 x2 t0 σ = some (r, σ2)) (w : Wd g (wX g (qt q)) A s σ H locs) (hl : lv_has ls 4 [(0, .ref (qt q 3)), (1, .int x1), (2, .int x2)]) : WK p l e s m av below meth c (nk + 5) g (wX g (qt q)) A (some (.int r)) σ2 H locs (F0 m 64 ls [.int t0]) := by
  obtain ⟨hx, hb, hml, hown, hts, hK, hA, hZ, hlocks, hr, hN⟩ := id C
  unfold f_Parser_readSum_64 at hf
  refine lv_istore_n (lv' := [(3, .int t0), (0, .ref (qt q 3)), (1, .int x1), (2, .int x2)]) hx hb d_Parser_readSum_64 rfl hl (by decide) rfl (fun ls hl => ?_)
  refine lv_aload_n hx hb d_Parser_readSum_65 rfl (lv_at hl 1 rfl) ?_
  refine xg_3_reader C w k311 d_Parser_readSum_66 ?_
  obtain ⟨σ_2, h_1, hf⟩ := bp_e hf
  refine k_callV (As := []) (rest := []) C w (c_Reader_step (q := q) h_1) cv_Reader_step k600 (xr_4 C w) (by omega) hl.1 rfl (Nat.le_of_ble_eq_true rfl) d_Parser_readSum_69 (fun H locs w => ?_)
  show WK p l e s m av below meth c (nk + 5) g (wX g (qt q)) A (some (.int r)) σ2 H locs (F0 m 72 ls [])
  refine lv_aload_n hx hb d_Parser_readSum_72 rfl (lv_at hl 1 rfl) ?_
  refine lv_iload_n hx hb d_Parser_readSum_73 rfl (lv_at hl 2 rfl) ?_
  obtain ⟨r_4, σ_5, h_3, hf⟩ := bd_e hf
  refine k_callV (As := [.int x1]) (rest := []) C w (c_Parser_readProduct (q := q) hnk hkS h_3) cv_Parser_readProduct k674 (xr_3 C w) (by omega) hl.1 rfl (Nat.le_of_ble_eq_true rfl) d_Parser_readSum_74 (fun H locs w => ?_)
  show WK p l e s m av below meth c (nk + 5) g (wX g (qt q)) A (some (.int r)) σ2 H locs (F0 m 77 ls [.int r_4])
  refine lv_if_ne (tgt := 82) hx hb d_Parser_readSum_77 (by decide) (fun cd => ?_) (fun cd => ?_)
  · have hf := if_e cd hf
    refine lv_aload_n hx hb d_Parser_readSum_82 rfl (lv_at hl 1 rfl) ?_
    refine xg_3_draft C w k312 d_Parser_readSum_83 ?_
    refine lv_iload_n hx hb d_Parser_readSum_86 rfl (lv_at hl 0 rfl) ?_
    obtain ⟨σ_7, h_6, hf⟩ := bp_e hf
    refine k_callV (As := [.int t0]) (rest := []) C w (c_Fair_emit (q := qt q) h_6) cv_Fair_emit k654 (xr_6 C w) (by omega) hl.1 rfl (Nat.le_of_ble_eq_true rfl) d_Parser_readSum_87 (fun H locs w => ?_)
    show WK p l e s m av below meth c (nk + 5) g (wX g (qt q)) A (some (.int r)) σ2 H locs (F0 m 90 ls [])
    obtain ⟨x_8, ex_8⟩ : ∃ y : Int32, y = (x2 + 1) := ⟨_, rfl⟩
    have hf := lt_e ex_8 hf
    refine lv_iinc (v := x_8) (lv' := [(2, .int x_8), (3, .int t0), (0, .ref (qt q 3)), (1, .int x1)]) hx hb d_Parser_readSum_90 hl (k := 3) rfl (by rw [ex_8]; rfl) (by decide) rfl (fun ls hl => ?_)
    refine lv_goto (tgt := 12) hx hb d_Parser_readSum_93 (by decide) ?_
    exact hk12 x1 x_8 σ_7 _ _ _ hf w (lv_sub hl [2, 3, 0] rfl)
  · have hf := it_e cd hf
    refine lv_iconst (v := 0) hx hb d_Parser_readSum_80 (by decide) ?_
    obtain ⟨rfl, rfl⟩ := some2_e hf
    exact k_zret C w (by decide) d_Parser_readSum_81
set_option maxHeartbeats 4000000 in
set_option maxRecDepth 20000 in
theorem t_Parser_readSum_43 {r : Int32} {σ2 : St} (C : Cx g A p s m av meth c prog_5_method_19_code 4 "BellHammer$Parser" (some .boolean)) {nk : Nat} (hnk : 4 ≤ nk) {kS : Int32 → St → Option (Int32 × St)} (hkS : ∀ (a0 : Int32) (σ : St) (r : Int32) (σ2 : St), kS a0 σ = some (r, σ2) → KK l y_Parser_readSum prog_5_method_19_code 4 (some .boolean) nk g (wX g (qt q)) σ [.ref (qt q 3), .int a0] (some (.int r)) (wX g (qt q)) σ2) {k12 : Int32 → Int32 → St → Option (Int32 × St)} (hk12 : ∀ (x1 : Int32) (x2 : Int32) (σ : St) (H : Heap) (locs : List Loc) (ls : Array Slot), k12 x1 x2 σ = some (r, σ2) → Wd g (wX g (qt q)) A s σ H locs → lv_has ls 4 [(0, .ref (qt q 3)), (1, .int x1), (2, .int x2)] → WK p l e s m av below meth c (nk + 5) g (wX g (qt q)) A (some (.int r)) σ2 H locs (F0 m 12 ls []))  {x1 : Int32} {x2 : Int32} {σ : St} {H : Heap} {locs : List Loc} {ls : Array Slot} (hf : f_Parser_readSum_43 kS k12 x1 x2 σ = some (r, σ2)) (w : Wd g (wX g (qt q)) A s σ H locs) (hl : lv_has ls 4 [(0, .ref (qt q 3)), (1, .int x1), (2, .int x2)]) : WK p l e s m av below meth c (nk + 5) g (wX g (qt q)) A (some (.int r)) σ2 H locs (F0 m 43 ls []) := by
  obtain ⟨hx, hb, hml, hown, hts, hK, hA, hZ, hlocks, hr, hN⟩ := id C
  unfold f_Parser_readSum_43 at hf
  refine lv_aload_n hx hb d_Parser_readSum_43 rfl (lv_at hl 0 rfl) ?_
  refine xg_3_reader C w k311 d_Parser_readSum_44 ?_
  refine lv_bipush (v := 43) hx hb d_Parser_readSum_47 (by decide) ?_
  obtain ⟨r_2, h_1, hf⟩ := bp_e hf
  refine k_callV (As := [.int 43]) (rest := []) C w (c_Reader_isSign (q := qt q) h_1) cv_Reader_isSign k658 (xr_4 C w) (by omega) hl.1 rfl (Nat.le_of_ble_eq_true rfl) d_Parser_readSum_49 (fun H locs w => ?_)
  show WK p l e s m av below meth c (nk + 5) g (wX g (qt q)) A (some (.int r)) σ2 H locs (F0 m 52 ls [.int r_2])
  refine lv_if_eq (tgt := 61) hx hb d_Parser_readSum_52 (by decide) (fun cd => ?_) (fun cd => ?_)
  · have hf := it_e cd hf
    refine lv_sipush (v := 10017) hx hb d_Parser_readSum_61 (by decide) ?_
    exact t_Parser_readSum_64 C hnk hkS hk12 hf w (lv_sub hl [0, 1, 2] rfl)
  · have hf := if_e cd hf
    refine lv_sipush (v := 10016) hx hb d_Parser_readSum_55 (by decide) ?_
    refine lv_goto (tgt := 64) hx hb d_Parser_readSum_58 (by decide) ?_
    exact t_Parser_readSum_64 C hnk hkS hk12 hf w (lv_sub hl [0, 1, 2] rfl)
set_option maxHeartbeats 4000000 in
set_option maxRecDepth 20000 in
theorem t_Parser_readSum_12b {r : Int32} {σ2 : St} (C : Cx g A p s m av meth c prog_5_method_19_code 4 "BellHammer$Parser" (some .boolean)) {nk : Nat} (hnk : 4 ≤ nk) {kS : Int32 → St → Option (Int32 × St)} (hkS : ∀ (a0 : Int32) (σ : St) (r : Int32) (σ2 : St), kS a0 σ = some (r, σ2) → KK l y_Parser_readSum prog_5_method_19_code 4 (some .boolean) nk g (wX g (qt q)) σ [.ref (qt q 3), .int a0] (some (.int r)) (wX g (qt q)) σ2) {k12 : Int32 → Int32 → St → Option (Int32 × St)} (hk12 : ∀ (x1 : Int32) (x2 : Int32) (σ : St) (H : Heap) (locs : List Loc) (ls : Array Slot), k12 x1 x2 σ = some (r, σ2) → Wd g (wX g (qt q)) A s σ H locs → lv_has ls 4 [(0, .ref (qt q 3)), (1, .int x1), (2, .int x2)] → WK p l e s m av below meth c (nk + 5) g (wX g (qt q)) A (some (.int r)) σ2 H locs (F0 m 12 ls []))  {x1 : Int32} {x2 : Int32} {σ : St} {H : Heap} {locs : List Loc} {ls : Array Slot} (hf : f_Parser_readSum_12b kS k12 x1 x2 σ = some (r, σ2)) (w : Wd g (wX g (qt q)) A s σ H locs) (hl : lv_has ls 4 [(0, .ref (qt q 3)), (1, .int x1), (2, .int x2)]) : WK p l e s m av below meth c (nk + 5) g (wX g (qt q)) A (some (.int r)) σ2 H locs (F0 m 12 ls []) := by
  obtain ⟨hx, hb, hml, hown, hts, hK, hA, hZ, hlocks, hr, hN⟩ := id C
  unfold f_Parser_readSum_12b at hf
  refine lv_iload_n hx hb d_Parser_readSum_12 rfl (lv_at hl 2 rfl) ?_
  refine lv_sipush (v := 1600) hx hb d_Parser_readSum_13 (by decide) ?_
  refine lv_icmp_ge (tgt := 96) hx hb d_Parser_readSum_16 (by decide) (fun cd => ?_) (fun cd => ?_)
  · have hf := it_e cd hf
    refine lv_iconst (v := 1) hx hb d_Parser_readSum_96 (by decide) ?_
    obtain ⟨rfl, rfl⟩ := some2_e hf
    exact k_zret C w (by decide) d_Parser_readSum_97
  · have hf := if_e cd hf
    refine lv_aload_n hx hb d_Parser_readSum_19 rfl (lv_at hl 0 rfl) ?_
    refine xg_3_reader C w k311 d_Parser_readSum_20 ?_
    refine lv_bipush (v := 43) hx hb d_Parser_readSum_23 (by decide) ?_
    obtain ⟨r_2, h_1, hf⟩ := bp_e hf
    refine k_callV (As := [.int 43]) (rest := []) C w (c_Reader_isSign (q := qt q) h_1) cv_Reader_isSign k658 (xr_4 C w) (by omega) hl.1 rfl (Nat.le_of_ble_eq_true rfl) d_Parser_readSum_25 (fun H locs w => ?_)
    show WK p l e s m av below meth c (nk + 5) g (wX g (qt q)) A (some (.int r)) σ2 H locs (F0 m 28 ls [.int r_2])
    refine lv_if_ne (tgt := 43) hx hb d_Parser_readSum_28 (by decide) (fun cd => ?_) (fun cd => ?_)
    · have hf := if_e cd hf
      exact t_Parser_readSum_43 C hnk hkS hk12 hf w (lv_sub hl [0, 1, 2] rfl)
    · have hf := it_e cd hf
      refine lv_aload_n hx hb d_Parser_readSum_31 rfl (lv_at hl 0 rfl) ?_
      refine xg_3_reader C w k311 d_Parser_readSum_32 ?_
      refine lv_bipush (v := 45) hx hb d_Parser_readSum_35 (by decide) ?_
      obtain ⟨r_4, h_3, hf⟩ := bp_e hf
      refine k_callV (As := [.int 45]) (rest := []) C w (c_Reader_isSign (q := qt q) h_3) cv_Reader_isSign k658 (xr_4 C w) (by omega) hl.1 rfl (Nat.le_of_ble_eq_true rfl) d_Parser_readSum_37 (fun H locs w => ?_)
      show WK p l e s m av below meth c (nk + 5) g (wX g (qt q)) A (some (.int r)) σ2 H locs (F0 m 40 ls [.int r_4])
      refine lv_if_eq (tgt := 96) hx hb d_Parser_readSum_40 (by decide) (fun cd => ?_) (fun cd => ?_)
      · have hf := it_e cd hf
        refine lv_iconst (v := 1) hx hb d_Parser_readSum_96 (by decide) ?_
        obtain ⟨rfl, rfl⟩ := some2_e hf
        exact k_zret C w (by decide) d_Parser_readSum_97
      · have hf := if_e cd hf
        exact t_Parser_readSum_43 C hnk hkS hk12 hf w (lv_sub hl [0, 1, 2] rfl)
set_option maxHeartbeats 4000000 in
set_option maxRecDepth 20000 in
theorem t_Parser_readSum_12 {r : Int32} {σ2 : St} (C : Cx g A p s m av meth c prog_5_method_19_code 4 "BellHammer$Parser" (some .boolean)) {nk : Nat} (hnk : 4 ≤ nk) {kS : Int32 → St → Option (Int32 × St)} (hkS : ∀ (a0 : Int32) (σ : St) (r : Int32) (σ2 : St), kS a0 σ = some (r, σ2) → KK l y_Parser_readSum prog_5_method_19_code 4 (some .boolean) nk g (wX g (qt q)) σ [.ref (qt q 3), .int a0] (some (.int r)) (wX g (qt q)) σ2)  : ∀ (n : Nat) (x1 : Int32) (x2 : Int32) (σ : St) (H : Heap) (locs : List Loc) (ls : Array Slot), f_Parser_readSum_12 kS  n x1 x2 σ = some (r, σ2) → Wd g (wX g (qt q)) A s σ H locs → lv_has ls 4 [(0, .ref (qt q 3)), (1, .int x1), (2, .int x2)] → WK p l e s m av below meth c (nk + 5) g (wX g (qt q)) A (some (.int r)) σ2 H locs (F0 m 12 ls []) := by
  intro n
  induction n with
  | zero => intro x1 x2 σ H locs ls hf; exact absurd hf (by intro z; cases z)
  | succ n ih => intro x1 x2 σ H locs ls hf w hl; exact t_Parser_readSum_12b C hnk hkS  ih hf w hl
set_option maxHeartbeats 4000000 in
set_option maxRecDepth 20000 in
theorem c_Parser_readSumB {l : Launch} {g : GX} {q : Nat → Nat} {nk : Nat} (hnk : 4 ≤ nk) {kS : Int32 → St → Option (Int32 × St)} (hkS : ∀ (a0 : Int32) (σ : St) (r : Int32) (σ2 : St), kS a0 σ = some (r, σ2) → KK l y_Parser_readSum prog_5_method_19_code 4 (some .boolean) nk g (wX g (qt q)) σ [.ref (qt q 3), .int a0] (some (.int r)) (wX g (qt q)) σ2) {x1 : Int32}  {σ : St} {r : Int32} {σ2 : St} (hf : f_Parser_readSumB kS x1 σ = some (r, σ2)) : KK l y_Parser_readSum prog_5_method_19_code 4 (some .boolean) (nk + 5) g (wX g (qt q)) σ [.ref (qt q 3), .int x1] (some (.int r)) (wX g (qt q)) σ2 := by
  refine KK_of (plainFor_of_name (by decide)) (Nat.le_of_ble_eq_true rfl) (fun p e s m below meth c A ls C w hl => ?_)
  have hl : lv_has ls 4 [(0, .ref (qt q 3)), (1, .int x1)] := hl
  obtain ⟨hx, hb, hml, hown, hts, hK, hA, hZ, hlocks, hr, hN⟩ := id C
  unfold f_Parser_readSumB at hf
  refine lv_aload_n hx hb d_Parser_readSum_0 rfl (lv_at hl 0 rfl) ?_
  refine lv_iload_n hx hb d_Parser_readSum_1 rfl (lv_at hl 1 rfl) ?_
  obtain ⟨r_2, σ_3, h_1, hf⟩ := bd_e hf
  refine k_callV (As := [.int x1]) (rest := []) C w (c_Parser_readProduct (q := q) hnk hkS h_1) cv_Parser_readProduct k674 (xr_3 C w) (by omega) hl.1 rfl (Nat.le_of_ble_eq_true rfl) d_Parser_readSum_2 (fun H locs w => ?_)
  show WK p l e s m _ below meth c (nk + 5) g (wX g (qt q)) A (some (.int r)) σ2 H locs (F0 m 5 ls [.int r_2])
  refine lv_if_ne (tgt := 10) hx hb d_Parser_readSum_5 (by decide) (fun cd => ?_) (fun cd => ?_)
  · have hf := if_e cd hf
    refine lv_iconst (v := 0) hx hb d_Parser_readSum_10 (by decide) ?_
    refine lv_istore_n (lv' := [(2, .int 0), (0, .ref (qt q 3)), (1, .int x1)]) hx hb d_Parser_readSum_11 rfl hl (by decide) rfl (fun ls hl => ?_)
    exact t_Parser_readSum_12 C hnk hkS  FU x1 0 σ_3 _ _ _ hf w (lv_sub hl [1, 2, 0] rfl)
  · have hf := it_e cd hf
    refine lv_iconst (v := 0) hx hb d_Parser_readSum_8 (by decide) ?_
    obtain ⟨rfl, rfl⟩ := some2_e hf
    exact k_zret C w (by decide) d_Parser_readSum_9
set_option maxHeartbeats 4000000 in
set_option maxRecDepth 20000 in
theorem c_Parser_readSum {l : Launch} {g : GX} {q : Nat → Nat} : ∀ (d : Nat) (x1 : Int32) (σ : St) (r : Int32) (σ2 : St), f_Parser_readSum d x1 σ = some (r, σ2) → KK l y_Parser_readSum prog_5_method_19_code 4 (some .boolean) (4 + 5 * d) g (wX g (qt q)) σ [.ref (qt q 3), .int x1] (some (.int r)) (wX g (qt q)) σ2 := by
  intro d
  induction d with
  | zero => intro x1 σ r σ2 hf; exact absurd hf (by intro z; cases z)
  | succ d ih =>
    intro x1 σ r σ2 hf
    have := c_Parser_readSumB (l := l) (g := g) (q := q) (nk := 4 + 5 * d) (by omega) ih hf
    rw [show 4 + 5 * (d + 1) = 4 + 5 * d + 5 from by omega]
    exact this
def f_Parser_readComparison_74 (x1 : Int32) (x2 : Int32) (σ : St) : Option (Int32 × St) :=
  bp (f_Reader_step σ) fun σ_2 =>
  bd (f_Parser_readSum 8 x1 σ_2) fun r_4 σ_5 =>
  if r_4 = 0 then
    some (0, σ_5)
  else
    bp (f_Fair_emit x2 σ_5) fun σ_7 =>
    some (1, σ_7)
def f_Parser_readComparison_49 (x1 : Int32) (t0 : Int32) (σ : St) : Option (Int32 × St) :=
  if t0 = 10015 then
    bp (f_Reader_isSign 61 σ) fun r_2 =>
    if r_2 = 0 then
      bd (f_Parser_tellWrong σ) fun r_4 σ_5 =>
      gd (isB r_4) <|
      some (r_4, σ_5)
    else
      f_Parser_readComparison_74 x1 t0 σ
  else
    f_Parser_readComparison_74 x1 t0 σ
def f_Parser_readComparison (x1 : Int32) (σ : St) : Option (Int32 × St) :=
  bd (f_Parser_readSum 8 x1 σ) fun r_2 σ_3 =>
  if r_2 = 0 then
    some (0, σ_3)
  else
    bp (f_Reader_isSign 60 σ_3) fun r_5 =>
    if r_5 = 0 then
      bp (f_Reader_isSign 62 σ_3) fun r_7 =>
      if r_7 = 0 then
        f_Parser_readComparison_49 x1 10015 σ_3
      else
        f_Parser_readComparison_49 x1 10014 σ_3
    else
      f_Parser_readComparison_49 x1 10013 σ_3
set_option maxHeartbeats 4000000 in
set_option maxRecDepth 20000 in
theorem t_Parser_readComparison_74 {r : Int32} {σ2 : St} (C : Cx g A p s m av meth c prog_5_method_18_code 3 "BellHammer$Parser" (some .boolean))  {x1 : Int32} {x2 : Int32} {σ : St} {H : Heap} {locs : List Loc} {ls : Array Slot} (hf : f_Parser_readComparison_74   x1 x2 σ = some (r, σ2)) (w : Wd g (wX g (qt q)) A s σ H locs) (hl : lv_has ls 3 [(0, .ref (qt q 3)), (1, .int x1), (2, .int x2)]) : WK p l e s m av below meth c 45 g (wX g (qt q)) A (some (.int r)) σ2 H locs (F0 m 74 ls []) := by
  obtain ⟨hx, hb, hml, hown, hts, hK, hA, hZ, hlocks, hr, hN⟩ := id C
  unfold f_Parser_readComparison_74 at hf
  refine lv_aload_n hx hb d_Parser_readComparison_74 rfl (lv_at hl 0 rfl) ?_
  refine xg_3_reader C w k311 d_Parser_readComparison_75 ?_
  obtain ⟨σ_2, h_1, hf⟩ := bp_e hf
  refine k_callV (As := []) (rest := []) C w (c_Reader_step (q := q) h_1) cv_Reader_step k600 (xr_4 C w) (by decide) hl.1 rfl (Nat.le_of_ble_eq_true rfl) d_Parser_readComparison_78 (fun H locs w => ?_)
  show WK p l e s m av below meth c 45 g (wX g (qt q)) A (some (.int r)) σ2 H locs (F0 m 81 ls [])
  refine lv_aload_n hx hb d_Parser_readComparison_81 rfl (lv_at hl 0 rfl) ?_
  refine lv_iload_n hx hb d_Parser_readComparison_82 rfl (lv_at hl 1 rfl) ?_
  obtain ⟨r_4, σ_5, h_3, hf⟩ := bd_e hf
  refine k_callV (As := [.int x1]) (rest := []) C w (c_Parser_readSum (q := q) 8 _ _ _ _ h_3) cv_Parser_readSum k670 (xr_3 C w) (by decide) hl.1 rfl (Nat.le_of_ble_eq_true rfl) d_Parser_readComparison_83 (fun H locs w => ?_)
  show WK p l e s m av below meth c 45 g (wX g (qt q)) A (some (.int r)) σ2 H locs (F0 m 86 ls [.int r_4])
  refine lv_if_ne (tgt := 91) hx hb d_Parser_readComparison_86 (by decide) (fun cd => ?_) (fun cd => ?_)
  · have hf := if_e cd hf
    refine lv_aload_n hx hb d_Parser_readComparison_91 rfl (lv_at hl 0 rfl) ?_
    refine xg_3_draft C w k312 d_Parser_readComparison_92 ?_
    refine lv_iload_n hx hb d_Parser_readComparison_95 rfl (lv_at hl 2 rfl) ?_
    obtain ⟨σ_7, h_6, hf⟩ := bp_e hf
    refine k_callV (As := [.int x2]) (rest := []) C w (c_Fair_emit (q := qt q) h_6) cv_Fair_emit k654 (xr_6 C w) (by decide) hl.1 rfl (Nat.le_of_ble_eq_true rfl) d_Parser_readComparison_96 (fun H locs w => ?_)
    show WK p l e s m av below meth c 45 g (wX g (qt q)) A (some (.int r)) σ2 H locs (F0 m 99 ls [])
    refine lv_iconst (v := 1) hx hb d_Parser_readComparison_99 (by decide) ?_
    obtain ⟨rfl, rfl⟩ := some2_e hf
    exact k_zret C w (by decide) d_Parser_readComparison_100
  · have hf := it_e cd hf
    refine lv_iconst (v := 0) hx hb d_Parser_readComparison_89 (by decide) ?_
    obtain ⟨rfl, rfl⟩ := some2_e hf
    exact k_zret C w (by decide) d_Parser_readComparison_90
set_option maxHeartbeats 4000000 in
set_option maxRecDepth 20000 in
theorem t_Parser_readComparison_49 {r : Int32} {σ2 : St} (C : Cx g A p s m av meth c prog_5_method_18_code 3 "BellHammer$Parser" (some .boolean))  {x1 : Int32} {t0 : Int32} {σ : St} {H : Heap} {locs : List Loc} {ls : Array Slot} (hf : f_Parser_readComparison_49   x1 t0 σ = some (r, σ2)) (w : Wd g (wX g (qt q)) A s σ H locs) (hl : lv_has ls 3 [(0, .ref (qt q 3)), (1, .int x1)]) : WK p l e s m av below meth c 45 g (wX g (qt q)) A (some (.int r)) σ2 H locs (F0 m 49 ls [.int t0]) := by
  obtain ⟨hx, hb, hml, hown, hts, hK, hA, hZ, hlocks, hr, hN⟩ := id C
  unfold f_Parser_readComparison_49 at hf
  refine lv_istore_n (lv' := [(2, .int t0), (0, .ref (qt q 3)), (1, .int x1)]) hx hb d_Parser_readComparison_49 rfl hl (by decide) rfl (fun ls hl => ?_)
  refine lv_iload_n hx hb d_Parser_readComparison_50 rfl (lv_at hl 0 rfl) ?_
  refine lv_sipush (v := 10015) hx hb d_Parser_readComparison_51 (by decide) ?_
  refine lv_icmp_ne (tgt := 74) hx hb d_Parser_readComparison_54 (by decide) (fun cd => ?_) (fun cd => ?_)
  · have hf := if_e cd hf
    exact t_Parser_readComparison_74 C  hf w (lv_sub hl [1, 2, 0] rfl)
  · have hf := it_e cd hf
    refine lv_aload_n hx hb d_Parser_readComparison_57 rfl (lv_at hl 1 rfl) ?_
    refine xg_3_reader C w k311 d_Parser_readComparison_58 ?_
    refine lv_bipush (v := 61) hx hb d_Parser_readComparison_61 (by decide) ?_
    obtain ⟨r_2, h_1, hf⟩ := bp_e hf
    refine k_callV (As := [.int 61]) (rest := []) C w (c_Reader_isSign (q := qt q) h_1) cv_Reader_isSign k658 (xr_4 C w) (by decide) hl.1 rfl (Nat.le_of_ble_eq_true rfl) d_Parser_readComparison_63 (fun H locs w => ?_)
    show WK p l e s m av below meth c 45 g (wX g (qt q)) A (some (.int r)) σ2 H locs (F0 m 66 ls [.int r_2])
    refine lv_if_ne (tgt := 74) hx hb d_Parser_readComparison_66 (by decide) (fun cd => ?_) (fun cd => ?_)
    · have hf := if_e cd hf
      exact t_Parser_readComparison_74 C  hf w (lv_sub hl [1, 2, 0] rfl)
    · have hf := it_e cd hf
      refine lv_aload_n hx hb d_Parser_readComparison_69 rfl (lv_at hl 1 rfl) ?_
      obtain ⟨r_4, σ_5, h_3, hf⟩ := bd_e hf
      refine k_callV (As := []) (rest := []) C w (c_Parser_tellWrong (q := qt q) h_3) cv_Parser_tellWrong k610 (xr_3 C w) (by decide) hl.1 rfl (Nat.le_of_ble_eq_true rfl) d_Parser_readComparison_70 (fun H locs w => ?_)
      show WK p l e s m av below meth c 45 g (wX g (qt q)) A (some (.int r)) σ2 H locs (F0 m 73 ls [.int r_4])
      obtain ⟨g_6, hf⟩ := gd_e hf
      obtain ⟨rfl, rfl⟩ := some2_e hf
      exact k_zret C w g_6 d_Parser_readComparison_73
set_option maxHeartbeats 4000000 in
set_option maxRecDepth 20000 in
theorem c_Parser_readComparison {l : Launch} {g : GX} {q : Nat → Nat} {x1 : Int32}  {σ : St} {r : Int32} {σ2 : St} (hf : f_Parser_readComparison  x1 σ = some (r, σ2)) : KK l y_Parser_readComparison prog_5_method_18_code 3 (some .boolean) 45 g (wX g (qt q)) σ [.ref (qt q 3), .int x1] (some (.int r)) (wX g (qt q)) σ2 := by
  refine KK_of (plainFor_of_name (by decide)) (Nat.le_of_ble_eq_true rfl) (fun p e s m below meth c A ls C w hl => ?_)
  have hl : lv_has ls 3 [(0, .ref (qt q 3)), (1, .int x1)] := hl
  obtain ⟨hx, hb, hml, hown, hts, hK, hA, hZ, hlocks, hr, hN⟩ := id C
  unfold f_Parser_readComparison at hf
  refine lv_aload_n hx hb d_Parser_readComparison_0 rfl (lv_at hl 0 rfl) ?_
  refine lv_iload_n hx hb d_Parser_readComparison_1 rfl (lv_at hl 1 rfl) ?_
  obtain ⟨r_2, σ_3, h_1, hf⟩ := bd_e hf
  refine k_callV (As := [.int x1]) (rest := []) C w (c_Parser_readSum (q := q) 8 _ _ _ _ h_1) cv_Parser_readSum k670 (xr_3 C w) (by decide) hl.1 rfl (Nat.le_of_ble_eq_true rfl) d_Parser_readComparison_2 (fun H locs w => ?_)
  show WK p l e s m _ below meth c 45 g (wX g (qt q)) A (some (.int r)) σ2 H locs (F0 m 5 ls [.int r_2])
  refine lv_if_ne (tgt := 10) hx hb d_Parser_readComparison_5 (by decide) (fun cd => ?_) (fun cd => ?_)
  · have hf := if_e cd hf
    refine lv_aload_n hx hb d_Parser_readComparison_10 rfl (lv_at hl 0 rfl) ?_
    refine xg_3_reader C w k311 d_Parser_readComparison_11 ?_
    refine lv_bipush (v := 60) hx hb d_Parser_readComparison_14 (by decide) ?_
    obtain ⟨r_5, h_4, hf⟩ := bp_e hf
    refine k_callV (As := [.int 60]) (rest := []) C w (c_Reader_isSign (q := qt q) h_4) cv_Reader_isSign k658 (xr_4 C w) (by decide) hl.1 rfl (Nat.le_of_ble_eq_true rfl) d_Parser_readComparison_16 (fun H locs w => ?_)
    show WK p l e s m _ below meth c 45 g (wX g (qt q)) A (some (.int r)) σ2 H locs (F0 m 19 ls [.int r_5])
    refine lv_if_eq (tgt := 28) hx hb d_Parser_readComparison_19 (by decide) (fun cd => ?_) (fun cd => ?_)
    · have hf := it_e cd hf
      refine lv_aload_n hx hb d_Parser_readComparison_28 rfl (lv_at hl 0 rfl) ?_
      refine xg_3_reader C w k311 d_Parser_readComparison_29 ?_
      refine lv_bipush (v := 62) hx hb d_Parser_readComparison_32 (by decide) ?_
      obtain ⟨r_7, h_6, hf⟩ := bp_e hf
      refine k_callV (As := [.int 62]) (rest := []) C w (c_Reader_isSign (q := qt q) h_6) cv_Reader_isSign k658 (xr_4 C w) (by decide) hl.1 rfl (Nat.le_of_ble_eq_true rfl) d_Parser_readComparison_34 (fun H locs w => ?_)
      show WK p l e s m _ below meth c 45 g (wX g (qt q)) A (some (.int r)) σ2 H locs (F0 m 37 ls [.int r_7])
      refine lv_if_eq (tgt := 46) hx hb d_Parser_readComparison_37 (by decide) (fun cd => ?_) (fun cd => ?_)
      · have hf := it_e cd hf
        refine lv_sipush (v := 10015) hx hb d_Parser_readComparison_46 (by decide) ?_
        exact t_Parser_readComparison_49 C  hf w (lv_sub hl [0, 1] rfl)
      · have hf := if_e cd hf
        refine lv_sipush (v := 10014) hx hb d_Parser_readComparison_40 (by decide) ?_
        refine lv_goto (tgt := 49) hx hb d_Parser_readComparison_43 (by decide) ?_
        exact t_Parser_readComparison_49 C  hf w (lv_sub hl [0, 1] rfl)
    · have hf := if_e cd hf
      refine lv_sipush (v := 10013) hx hb d_Parser_readComparison_22 (by decide) ?_
      refine lv_goto (tgt := 49) hx hb d_Parser_readComparison_25 (by decide) ?_
      exact t_Parser_readComparison_49 C  hf w (lv_sub hl [0, 1] rfl)
  · have hf := it_e cd hf
    refine lv_iconst (v := 0) hx hb d_Parser_readComparison_8 (by decide) ?_
    obtain ⟨rfl, rfl⟩ := some2_e hf
    exact k_zret C w (by decide) d_Parser_readComparison_9
def f_Parser_readFactB (kT : Int32 → St → Option (Int32 × St)) (x1 : Int32) (σ : St) : Option (Int32 × St) :=
  bp (f_Reader_isWord 23 σ) fun r_2 =>
  if r_2 = 0 then
    bp (f_Reader_isSign 91 σ) fun r_4 =>
    if r_4 = 0 then
      bp (f_Reader_isWord 24 σ) fun r_6 =>
      if r_6 = 0 then
        bd (f_Parser_readComparison x1 σ) fun r_8 σ_9 =>
        gd (isB r_8) <|
        some (r_8, σ_9)
      else
        bp (f_Reader_step σ) fun σ_12 =>
        bp (f_Fair_emit 1 σ_12) fun σ_14 =>
        some (1, σ_14)
    else
      bd (f_Parser_passOpener x1 σ) fun r_16 σ_17 =>
      if r_16 = 0 then
        some (0, σ_17)
      else
        bd (f_Parser_readTest kT (x1 + 1) σ_17) fun r_19 σ_20 =>
        if r_19 = 0 then
          some (0, σ_20)
        else
          bd (f_Parser_passSign 93 σ_20) fun r_22 σ_23 =>
          if r_22 = 0 then
            some (0, σ_23)
          else
            some (1, σ_23)
  else
    bd (f_Parser_passOpener x1 σ) fun r_25 σ_26 =>
    if r_25 = 0 then
      some (0, σ_26)
    else
      bd (kT (x1 + 1) σ_26) fun r_28 σ_29 =>
      if r_28 = 0 then
        some (0, σ_29)
      else
        bp (f_Fair_emit 10010 σ_29) fun σ_31 =>
        some (1, σ_31)
def f_Parser_readFact : Nat → Int32 → St → Option (Int32 × St)
  | 0 => fun _ _ => none
  | d + 1 => f_Parser_readFactB (f_Parser_readFact d)
set_option maxHeartbeats 4000000 in
set_option maxRecDepth 20000 in
theorem c_Parser_readFactB {l : Launch} {g : GX} {q : Nat → Nat} {nk : Nat} (hnk : 46 ≤ nk) {kT : Int32 → St → Option (Int32 × St)} (hkT : ∀ (a0 : Int32) (σ : St) (r : Int32) (σ2 : St), kT a0 σ = some (r, σ2) → KK l y_Parser_readFact prog_5_method_16_code 2 (some .boolean) nk g (wX g (qt q)) σ [.ref (qt q 3), .int a0] (some (.int r)) (wX g (qt q)) σ2) {x1 : Int32}  {σ : St} {r : Int32} {σ2 : St} (hf : f_Parser_readFactB kT x1 σ = some (r, σ2)) : KK l y_Parser_readFact prog_5_method_16_code 2 (some .boolean) (nk + 4) g (wX g (qt q)) σ [.ref (qt q 3), .int x1] (some (.int r)) (wX g (qt q)) σ2 := by
  refine KK_of (plainFor_of_name (by decide)) (Nat.le_of_ble_eq_true rfl) (fun p e s m below meth c A ls C w hl => ?_)
  have hl : lv_has ls 2 [(0, .ref (qt q 3)), (1, .int x1)] := hl
  obtain ⟨hx, hb, hml, hown, hts, hK, hA, hZ, hlocks, hr, hN⟩ := id C
  unfold f_Parser_readFactB at hf
  refine lv_aload_n hx hb d_Parser_readFact_0 rfl (lv_at hl 0 rfl) ?_
  refine xg_3_reader C w k311 d_Parser_readFact_1 ?_
  refine lv_bipush (v := 23) hx hb d_Parser_readFact_4 (by decide) ?_
  obtain ⟨r_2, h_1, hf⟩ := bp_e hf
  refine k_callV (As := [.int 23]) (rest := []) C w (c_Reader_isWord (q := qt q) h_1) cv_Reader_isWord k592 (xr_4 C w) (by omega) hl.1 rfl (Nat.le_of_ble_eq_true rfl) d_Parser_readFact_6 (fun H locs w => ?_)
  show WK p l e s m _ below meth c (nk + 4) g (wX g (qt q)) A (some (.int r)) σ2 H locs (F0 m 9 ls [.int r_2])
  refine lv_if_eq (tgt := 44) hx hb d_Parser_readFact_9 (by decide) (fun cd => ?_) (fun cd => ?_)
  · have hf := it_e cd hf
    refine lv_aload_n hx hb d_Parser_readFact_44 rfl (lv_at hl 0 rfl) ?_
    refine xg_3_reader C w k311 d_Parser_readFact_45 ?_
    refine lv_bipush (v := 91) hx hb d_Parser_readFact_48 (by decide) ?_
    obtain ⟨r_4, h_3, hf⟩ := bp_e hf
    refine k_callV (As := [.int 91]) (rest := []) C w (c_Reader_isSign (q := qt q) h_3) cv_Reader_isSign k658 (xr_4 C w) (by omega) hl.1 rfl (Nat.le_of_ble_eq_true rfl) d_Parser_readFact_50 (fun H locs w => ?_)
    show WK p l e s m _ below meth c (nk + 4) g (wX g (qt q)) A (some (.int r)) σ2 H locs (F0 m 53 ls [.int r_4])
    refine lv_if_eq (tgt := 89) hx hb d_Parser_readFact_53 (by decide) (fun cd => ?_) (fun cd => ?_)
    · have hf := it_e cd hf
      refine lv_aload_n hx hb d_Parser_readFact_89 rfl (lv_at hl 0 rfl) ?_
      refine xg_3_reader C w k311 d_Parser_readFact_90 ?_
      refine lv_bipush (v := 24) hx hb d_Parser_readFact_93 (by decide) ?_
      obtain ⟨r_6, h_5, hf⟩ := bp_e hf
      refine k_callV (As := [.int 24]) (rest := []) C w (c_Reader_isWord (q := qt q) h_5) cv_Reader_isWord k592 (xr_4 C w) (by omega) hl.1 rfl (Nat.le_of_ble_eq_true rfl) d_Parser_readFact_95 (fun H locs w => ?_)
      show WK p l e s m _ below meth c (nk + 4) g (wX g (qt q)) A (some (.int r)) σ2 H locs (F0 m 98 ls [.int r_6])
      refine lv_if_eq (tgt := 118) hx hb d_Parser_readFact_98 (by decide) (fun cd => ?_) (fun cd => ?_)
      · have hf := it_e cd hf
        refine lv_aload_n hx hb d_Parser_readFact_118 rfl (lv_at hl 0 rfl) ?_
        refine lv_iload_n hx hb d_Parser_readFact_119 rfl (lv_at hl 1 rfl) ?_
        obtain ⟨r_8, σ_9, h_7, hf⟩ := bd_e hf
        refine k_callV (As := [.int x1]) (rest := []) C w (c_Parser_readComparison (q := q) h_7) cv_Parser_readComparison k666 (xr_3 C w) (by omega) hl.1 rfl (Nat.le_of_ble_eq_true rfl) d_Parser_readFact_120 (fun H locs w => ?_)
        show WK p l e s m _ below meth c (nk + 4) g (wX g (qt q)) A (some (.int r)) σ2 H locs (F0 m 123 ls [.int r_8])
        obtain ⟨g_10, hf⟩ := gd_e hf
        obtain ⟨rfl, rfl⟩ := some2_e hf
        exact k_zret C w g_10 d_Parser_readFact_123
      · have hf := if_e cd hf
        refine lv_aload_n hx hb d_Parser_readFact_101 rfl (lv_at hl 0 rfl) ?_
        refine xg_3_reader C w k311 d_Parser_readFact_102 ?_
        obtain ⟨σ_12, h_11, hf⟩ := bp_e hf
        refine k_callV (As := []) (rest := []) C w (c_Reader_step (q := q) h_11) cv_Reader_step k600 (xr_4 C w) (by omega) hl.1 rfl (Nat.le_of_ble_eq_true rfl) d_Parser_readFact_105 (fun H locs w => ?_)
        show WK p l e s m _ below meth c (nk + 4) g (wX g (qt q)) A (some (.int r)) σ2 H locs (F0 m 108 ls [])
        refine lv_aload_n hx hb d_Parser_readFact_108 rfl (lv_at hl 0 rfl) ?_
        refine xg_3_draft C w k312 d_Parser_readFact_109 ?_
        refine lv_iconst (v := 1) hx hb d_Parser_readFact_112 (by decide) ?_
        obtain ⟨σ_14, h_13, hf⟩ := bp_e hf
        refine k_callV (As := [.int 1]) (rest := []) C w (c_Fair_emit (q := qt q) h_13) cv_Fair_emit k654 (xr_6 C w) (by omega) hl.1 rfl (Nat.le_of_ble_eq_true rfl) d_Parser_readFact_113 (fun H locs w => ?_)
        show WK p l e s m _ below meth c (nk + 4) g (wX g (qt q)) A (some (.int r)) σ2 H locs (F0 m 116 ls [])
        refine lv_iconst (v := 1) hx hb d_Parser_readFact_116 (by decide) ?_
        obtain ⟨rfl, rfl⟩ := some2_e hf
        exact k_zret C w (by decide) d_Parser_readFact_117
    · have hf := if_e cd hf
      refine lv_aload_n hx hb d_Parser_readFact_56 rfl (lv_at hl 0 rfl) ?_
      refine lv_iload_n hx hb d_Parser_readFact_57 rfl (lv_at hl 1 rfl) ?_
      obtain ⟨r_16, σ_17, h_15, hf⟩ := bd_e hf
      refine k_callV (As := [.int x1]) (rest := []) C w (c_Parser_passOpener (q := q) h_15) cv_Parser_passOpener k650 (xr_3 C w) (by omega) hl.1 rfl (Nat.le_of_ble_eq_true rfl) d_Parser_readFact_58 (fun H locs w => ?_)
      show WK p l e s m _ below meth c (nk + 4) g (wX g (qt q)) A (some (.int r)) σ2 H locs (F0 m 61 ls [.int r_16])
      refine lv_if_eq (tgt := 87) hx hb d_Parser_readFact_61 (by decide) (fun cd => ?_) (fun cd => ?_)
      · have hf := it_e cd hf
        refine lv_iconst (v := 0) hx hb d_Parser_readFact_87 (by decide) ?_
        obtain ⟨rfl, rfl⟩ := some2_e hf
        exact k_zret C w (by decide) d_Parser_readFact_88
      · have hf := if_e cd hf
        refine lv_aload_n hx hb d_Parser_readFact_64 rfl (lv_at hl 0 rfl) ?_
        refine lv_iload_n hx hb d_Parser_readFact_65 rfl (lv_at hl 1 rfl) ?_
        refine lv_iconst (v := 1) hx hb d_Parser_readFact_66 (by decide) ?_
        refine lv_iadd hx hb d_Parser_readFact_67 ?_
        obtain ⟨r_19, σ_20, h_18, hf⟩ := bd_e hf
        refine k_callV (As := [.int (x1 + 1)]) (rest := []) C w (c_Parser_readTest (q := q) hnk hkT h_18) cv_Parser_readTest k638 (xr_3 C w) (by omega) hl.1 rfl (Nat.le_of_ble_eq_true rfl) d_Parser_readFact_68 (fun H locs w => ?_)
        show WK p l e s m _ below meth c (nk + 4) g (wX g (qt q)) A (some (.int r)) σ2 H locs (F0 m 71 ls [.int r_19])
        refine lv_if_eq (tgt := 87) hx hb d_Parser_readFact_71 (by decide) (fun cd => ?_) (fun cd => ?_)
        · have hf := it_e cd hf
          refine lv_iconst (v := 0) hx hb d_Parser_readFact_87 (by decide) ?_
          obtain ⟨rfl, rfl⟩ := some2_e hf
          exact k_zret C w (by decide) d_Parser_readFact_88
        · have hf := if_e cd hf
          refine lv_aload_n hx hb d_Parser_readFact_74 rfl (lv_at hl 0 rfl) ?_
          refine lv_bipush (v := 93) hx hb d_Parser_readFact_75 (by decide) ?_
          obtain ⟨r_22, σ_23, h_21, hf⟩ := bd_e hf
          refine k_callV (As := [.int 93]) (rest := []) C w (c_Parser_passSign (q := q) h_21) cv_Parser_passSign k662 (xr_3 C w) (by omega) hl.1 rfl (Nat.le_of_ble_eq_true rfl) d_Parser_readFact_77 (fun H locs w => ?_)
          show WK p l e s m _ below meth c (nk + 4) g (wX g (qt q)) A (some (.int r)) σ2 H locs (F0 m 80 ls [.int r_22])
          refine lv_if_eq (tgt := 87) hx hb d_Parser_readFact_80 (by decide) (fun cd => ?_) (fun cd => ?_)
          · have hf := it_e cd hf
            refine lv_iconst (v := 0) hx hb d_Parser_readFact_87 (by decide) ?_
            obtain ⟨rfl, rfl⟩ := some2_e hf
            exact k_zret C w (by decide) d_Parser_readFact_88
          · have hf := if_e cd hf
            refine lv_iconst (v := 1) hx hb d_Parser_readFact_83 (by decide) ?_
            refine lv_goto (tgt := 88) hx hb d_Parser_readFact_84 (by decide) ?_
            obtain ⟨rfl, rfl⟩ := some2_e hf
            exact k_zret C w (by decide) d_Parser_readFact_88
  · have hf := if_e cd hf
    refine lv_aload_n hx hb d_Parser_readFact_12 rfl (lv_at hl 0 rfl) ?_
    refine lv_iload_n hx hb d_Parser_readFact_13 rfl (lv_at hl 1 rfl) ?_
    obtain ⟨r_25, σ_26, h_24, hf⟩ := bd_e hf
    refine k_callV (As := [.int x1]) (rest := []) C w (c_Parser_passOpener (q := q) h_24) cv_Parser_passOpener k650 (xr_3 C w) (by omega) hl.1 rfl (Nat.le_of_ble_eq_true rfl) d_Parser_readFact_14 (fun H locs w => ?_)
    show WK p l e s m _ below meth c (nk + 4) g (wX g (qt q)) A (some (.int r)) σ2 H locs (F0 m 17 ls [.int r_25])
    refine lv_if_eq (tgt := 30) hx hb d_Parser_readFact_17 (by decide) (fun cd => ?_) (fun cd => ?_)
    · have hf := it_e cd hf
      refine lv_iconst (v := 0) hx hb d_Parser_readFact_30 (by decide) ?_
      obtain ⟨rfl, rfl⟩ := some2_e hf
      exact k_zret C w (by decide) d_Parser_readFact_31
    · have hf := if_e cd hf
      refine lv_aload_n hx hb d_Parser_readFact_20 rfl (lv_at hl 0 rfl) ?_
      refine lv_iload_n hx hb d_Parser_readFact_21 rfl (lv_at hl 1 rfl) ?_
      refine lv_iconst (v := 1) hx hb d_Parser_readFact_22 (by decide) ?_
      refine lv_iadd hx hb d_Parser_readFact_23 ?_
      obtain ⟨r_28, σ_29, h_27, hf⟩ := bd_e hf
      refine k_callV (As := [.int (x1 + 1)]) (rest := []) C w (hkT _ _ _ _ h_27) cv_Parser_readFact k646 (xr_3 C w) (by omega) hl.1 rfl (Nat.le_of_ble_eq_true rfl) d_Parser_readFact_24 (fun H locs w => ?_)
      show WK p l e s m _ below meth c (nk + 4) g (wX g (qt q)) A (some (.int r)) σ2 H locs (F0 m 27 ls [.int r_28])
      refine lv_if_ne (tgt := 32) hx hb d_Parser_readFact_27 (by decide) (fun cd => ?_) (fun cd => ?_)
      · have hf := if_e cd hf
        refine lv_aload_n hx hb d_Parser_readFact_32 rfl (lv_at hl 0 rfl) ?_
        refine xg_3_draft C w k312 d_Parser_readFact_33 ?_
        refine lv_sipush (v := 10010) hx hb d_Parser_readFact_36 (by decide) ?_
        obtain ⟨σ_31, h_30, hf⟩ := bp_e hf
        refine k_callV (As := [.int 10010]) (rest := []) C w (c_Fair_emit (q := qt q) h_30) cv_Fair_emit k654 (xr_6 C w) (by omega) hl.1 rfl (Nat.le_of_ble_eq_true rfl) d_Parser_readFact_39 (fun H locs w => ?_)
        show WK p l e s m _ below meth c (nk + 4) g (wX g (qt q)) A (some (.int r)) σ2 H locs (F0 m 42 ls [])
        refine lv_iconst (v := 1) hx hb d_Parser_readFact_42 (by decide) ?_
        obtain ⟨rfl, rfl⟩ := some2_e hf
        exact k_zret C w (by decide) d_Parser_readFact_43
      · have hf := it_e cd hf
        refine lv_iconst (v := 0) hx hb d_Parser_readFact_30 (by decide) ?_
        obtain ⟨rfl, rfl⟩ := some2_e hf
        exact k_zret C w (by decide) d_Parser_readFact_31
set_option maxHeartbeats 4000000 in
set_option maxRecDepth 20000 in
theorem c_Parser_readFact {l : Launch} {g : GX} {q : Nat → Nat} : ∀ (d : Nat) (x1 : Int32) (σ : St) (r : Int32) (σ2 : St), f_Parser_readFact d x1 σ = some (r, σ2) → KK l y_Parser_readFact prog_5_method_16_code 2 (some .boolean) (46 + 4 * d) g (wX g (qt q)) σ [.ref (qt q 3), .int x1] (some (.int r)) (wX g (qt q)) σ2 := by
  intro d
  induction d with
  | zero => intro x1 σ r σ2 hf; exact absurd hf (by intro z; cases z)
  | succ d ih =>
    intro x1 σ r σ2 hf
    have := c_Parser_readFactB (l := l) (g := g) (q := q) (nk := 46 + 4 * d) (by omega) ih hf
    rw [show 46 + 4 * (d + 1) = 46 + 4 * d + 4 from by omega]
    exact this
def f_Parser_readLean (σ : St) : Option (Int32 × St) :=
  lt ((sI σ 15)) fun x_1 =>
  if x_1 < 6 then
    bp (f_Reader_step σ) fun σ_3 =>
    bd (f_Parser_passWord 10 σ_3) fun r_5 σ_6 =>
    if r_5 = 0 then
      some (0, σ_6)
    else
      bd (f_Parser_readTest (f_Parser_readFact 8) 0 σ_6) fun r_8 σ_9 =>
      if r_8 = 0 then
        some (0, σ_9)
      else
        gd (inB x_1 6) <|
        lt (uA σ_9 8 (upd (sA σ_9 8) x_1.toNatClampNeg (sI σ_9 12))) fun σ_11 =>
        lt (uI σ_11 15 ((sI σ_11 15) + 1)) fun σ_12 =>
        some (1, σ_12)
  else
    bd (f_Parser_tell 5 (sI σ 9) σ) fun r_14 σ_15 =>
    gd (isB r_14) <|
    some (r_14, σ_15)
set_option maxHeartbeats 4000000 in
set_option maxRecDepth 20000 in
theorem c_Parser_readLean {l : Launch} {g : GX} {q : Nat → Nat}  {σ : St} {r : Int32} {σ2 : St} (hf : f_Parser_readLean   σ = some (r, σ2)) : KK l y_Parser_readLean prog_5_method_13_code 2 (some .boolean) 81 g (wX g (qt q)) σ [.ref (qt q 3)] (some (.int r)) (wX g (qt q)) σ2 := by
  refine KK_of (plainFor_of_name (by decide)) (Nat.le_of_ble_eq_true rfl) (fun p e s m below meth c A ls C w hl => ?_)
  have hl : lv_has ls 2 [(0, .ref (qt q 3))] := hl
  obtain ⟨hx, hb, hml, hown, hts, hK, hA, hZ, hlocks, hr, hN⟩ := id C
  unfold f_Parser_readLean at hf
  refine lv_aload_n hx hb d_Parser_readLean_0 rfl (lv_at hl 0 rfl) ?_
  refine xg_3_draft C w k312 d_Parser_readLean_1 ?_
  refine xg_6_rules C w k282 d_Parser_readLean_4 ?_
  refine lv_topi (fun x_1 ex_1 => ?_)
  have hf := lt_e ex_1 hf
  refine lv_istore_n (lv' := [(1, .int x_1), (0, .ref (qt q 3))]) hx hb d_Parser_readLean_7 rfl hl (by decide) rfl (fun ls hl => ?_)
  refine lv_iload_n hx hb d_Parser_readLean_8 rfl (lv_at hl 0 rfl) ?_
  refine lv_bipush (v := 6) hx hb d_Parser_readLean_9 (by decide) ?_
  refine lv_icmp_lt (tgt := 27) hx hb d_Parser_readLean_11 (by decide) (fun cd => ?_) (fun cd => ?_)
  · have hf := it_e cd hf
    refine lv_aload_n hx hb d_Parser_readLean_27 rfl (lv_at hl 1 rfl) ?_
    refine xg_3_reader C w k311 d_Parser_readLean_28 ?_
    obtain ⟨σ_3, h_2, hf⟩ := bp_e hf
    refine k_callV (As := []) (rest := []) C w (c_Reader_step (q := q) h_2) cv_Reader_step k600 (xr_4 C w) (by decide) hl.1 rfl (Nat.le_of_ble_eq_true rfl) d_Parser_readLean_31 (fun H locs w => ?_)
    show WK p l e s m _ below meth c 81 g (wX g (qt q)) A (some (.int r)) σ2 H locs (F0 m 34 ls [])
    refine lv_aload_n hx hb d_Parser_readLean_34 rfl (lv_at hl 1 rfl) ?_
    refine lv_bipush (v := 10) hx hb d_Parser_readLean_35 (by decide) ?_
    obtain ⟨r_5, σ_6, h_4, hf⟩ := bd_e hf
    refine k_callV (As := [.int 10]) (rest := []) C w (c_Parser_passWord (q := q) h_4) cv_Parser_passWord k618 (xr_3 C w) (by decide) hl.1 rfl (Nat.le_of_ble_eq_true rfl) d_Parser_readLean_37 (fun H locs w => ?_)
    show WK p l e s m _ below meth c 81 g (wX g (qt q)) A (some (.int r)) σ2 H locs (F0 m 40 ls [.int r_5])
    refine lv_if_eq (tgt := 51) hx hb d_Parser_readLean_40 (by decide) (fun cd => ?_) (fun cd => ?_)
    · have hf := it_e cd hf
      refine lv_iconst (v := 0) hx hb d_Parser_readLean_51 (by decide) ?_
      obtain ⟨rfl, rfl⟩ := some2_e hf
      exact k_zret C w (by decide) d_Parser_readLean_52
    · have hf := if_e cd hf
      refine lv_aload_n hx hb d_Parser_readLean_43 rfl (lv_at hl 1 rfl) ?_
      refine lv_iconst (v := 0) hx hb d_Parser_readLean_44 (by decide) ?_
      obtain ⟨r_8, σ_9, h_7, hf⟩ := bd_e hf
      refine k_callV (As := [.int 0]) (rest := []) C w (c_Parser_readTest (q := q) (nk := 46 + 4 * 8) (by decide) (c_Parser_readFact 8) h_7) cv_Parser_readTest k638 (xr_3 C w) (by decide) hl.1 rfl (Nat.le_of_ble_eq_true rfl) d_Parser_readLean_45 (fun H locs w => ?_)
      show WK p l e s m _ below meth c 81 g (wX g (qt q)) A (some (.int r)) σ2 H locs (F0 m 48 ls [.int r_8])
      refine lv_if_ne (tgt := 53) hx hb d_Parser_readLean_48 (by decide) (fun cd => ?_) (fun cd => ?_)
      · have hf := if_e cd hf
        refine lv_aload_n hx hb d_Parser_readLean_53 rfl (lv_at hl 1 rfl) ?_
        refine xg_3_draft C w k312 d_Parser_readLean_54 ?_
        refine xg_6_ruleEnd C w k267 d_Parser_readLean_57 ?_
        refine lv_iload_n hx hb d_Parser_readLean_60 rfl (lv_at hl 0 rfl) ?_
        refine lv_aload_n hx hb d_Parser_readLean_61 rfl (lv_at hl 1 rfl) ?_
        refine xg_3_draft C w k312 d_Parser_readLean_62 ?_
        refine xg_6_codeSize C w k269 d_Parser_readLean_65 ?_
        obtain ⟨g_10, hf⟩ := gd_e hf
        refine xs_13 C w g_10 d_Parser_readLean_68 (fun σ_11 H locs eσ_11 w => ?_)
        have hf := lt_e eσ_11 hf
        refine lv_aload_n hx hb d_Parser_readLean_69 rfl (lv_at hl 1 rfl) ?_
        refine xg_3_draft C w k312 d_Parser_readLean_70 ?_
        refine lv_dup hx hb d_Parser_readLean_73 rfl ?_
        refine xg_6_rules C w k282 d_Parser_readLean_74 ?_
        refine lv_iconst (v := 1) hx hb d_Parser_readLean_77 (by decide) ?_
        refine lv_iadd hx hb d_Parser_readLean_78 ?_
        refine xp_6_rules C w k282 d_Parser_readLean_79 (fun σ_12 H locs eσ_12 w => ?_)
        have hf := lt_e eσ_12 hf
        refine lv_iconst (v := 1) hx hb d_Parser_readLean_82 (by decide) ?_
        obtain ⟨rfl, rfl⟩ := some2_e hf
        exact k_zret C w (by decide) d_Parser_readLean_83
      · have hf := it_e cd hf
        refine lv_iconst (v := 0) hx hb d_Parser_readLean_51 (by decide) ?_
        obtain ⟨rfl, rfl⟩ := some2_e hf
        exact k_zret C w (by decide) d_Parser_readLean_52
  · have hf := if_e cd hf
    refine lv_aload_n hx hb d_Parser_readLean_14 rfl (lv_at hl 1 rfl) ?_
    refine lv_iconst (v := 5) hx hb d_Parser_readLean_15 (by decide) ?_
    refine lv_aload_n hx hb d_Parser_readLean_16 rfl (lv_at hl 1 rfl) ?_
    refine xg_3_reader C w k311 d_Parser_readLean_17 ?_
    refine xg_4_start C w k208 d_Parser_readLean_20 ?_
    obtain ⟨r_14, σ_15, h_13, hf⟩ := bd_e hf
    refine k_callV (As := [.int 5, .int (sI σ 9)]) (rest := []) C w (c_Parser_tell (q := qt q) h_13) cv_Parser_tell k584 (xr_3 C w) (by decide) hl.1 rfl (Nat.le_of_ble_eq_true rfl) d_Parser_readLean_23 (fun H locs w => ?_)
    show WK p l e s m _ below meth c 81 g (wX g (qt q)) A (some (.int r)) σ2 H locs (F0 m 26 ls [.int r_14])
    obtain ⟨g_16, hf⟩ := gd_e hf
    obtain ⟨rfl, rfl⟩ := some2_e hf
    exact k_zret C w g_16 d_Parser_readLean_26
def f_Reader_isOwnWord_2b (k2 : Int32 → St → Option (Int32)) (x1 : Int32) (σ : St) : Option (Int32) :=
  if 27 ≤ x1 then
    some 0
  else
    bp (f_Reader_isWord x1 σ) fun r_2 =>
    if r_2 = 0 then
      lt ((x1 + 1)) fun x_3 =>
      k2 x_3 σ
    else
      some 1
def f_Reader_isOwnWord_2 : Nat → Int32 → St → Option (Int32)
  | 0 => fun _ _ => none
  | n + 1 => f_Reader_isOwnWord_2b   (f_Reader_isOwnWord_2   n)
def f_Reader_isOwnWord (σ : St) : Option (Int32) :=
  f_Reader_isOwnWord_2 FU 0 σ
set_option maxHeartbeats 4000000 in
set_option maxRecDepth 20000 in
theorem t_Reader_isOwnWord_2b {r : Int32} {σ : St} (C : Cx g A p s m av meth c prog_6_method_8_code 2 "BellHammer$Reader" (some .boolean)) {k2 : Int32 → St → Option (Int32)} (hk2 : ∀ (x1 : Int32) (H : Heap) (locs : List Loc) (ls : Array Slot), k2 x1 σ = some r → Wd g (wX g q) A s σ H locs → lv_has ls 2 [(0, .ref (q 4)), (1, .int x1)] → WK p l e s m av below meth c 1 g (wX g q) A (some (.int r)) σ H locs (F0 m 2 ls []))  {x1 : Int32} {H : Heap} {locs : List Loc} {ls : Array Slot} (hf : f_Reader_isOwnWord_2b  k2 x1 σ = some r) (w : Wd g (wX g q) A s σ H locs) (hl : lv_has ls 2 [(0, .ref (q 4)), (1, .int x1)]) : WK p l e s m av below meth c 1 g (wX g q) A (some (.int r)) σ H locs (F0 m 2 ls []) := by
  obtain ⟨hx, hb, hml, hown, hts, hK, hA, hZ, hlocks, hr, hN⟩ := id C
  unfold f_Reader_isOwnWord_2b at hf
  refine lv_iload_n hx hb d_Reader_isOwnWord_2 rfl (lv_at hl 1 rfl) ?_
  refine lv_aload_n hx hb d_Reader_isOwnWord_3 rfl (lv_at hl 0 rfl) ?_
  refine xg_4_own C w k202 d_Reader_isOwnWord_4 ?_
  refine xn_5 C w d_Reader_isOwnWord_7 ?_
  refine lv_icmp_ge (tgt := 27) hx hb d_Reader_isOwnWord_8 (by decide) (fun cd => ?_) (fun cd => ?_)
  · have hf := it_e cd hf
    refine lv_iconst (v := 0) hx hb d_Reader_isOwnWord_27 (by decide) ?_
    cases some_e hf
    exact k_zret C w (by decide) d_Reader_isOwnWord_28
  · have hf := if_e cd hf
    refine lv_aload_n hx hb d_Reader_isOwnWord_11 rfl (lv_at hl 0 rfl) ?_
    refine lv_iload_n hx hb d_Reader_isOwnWord_12 rfl (lv_at hl 1 rfl) ?_
    obtain ⟨r_2, h_1, hf⟩ := bp_e hf
    refine k_callV (As := [.int x1]) (rest := []) C w (c_Reader_isWord (q := q) h_1) cv_Reader_isWord k609 (xr_4 C w) (by decide) hl.1 rfl (Nat.le_of_ble_eq_true rfl) d_Reader_isOwnWord_13 (fun H locs w => ?_)
    show WK p l e s m av below meth c 1 g (wX g q) A (some (.int r)) σ H locs (F0 m 16 ls [.int r_2])
    refine lv_if_eq (tgt := 21) hx hb d_Reader_isOwnWord_16 (by decide) (fun cd => ?_) (fun cd => ?_)
    · have hf := it_e cd hf
      obtain ⟨x_3, ex_3⟩ : ∃ y : Int32, y = (x1 + 1) := ⟨_, rfl⟩
      have hf := lt_e ex_3 hf
      refine lv_iinc (v := x_3) (lv' := [(1, .int x_3), (0, .ref (q 4))]) hx hb d_Reader_isOwnWord_21 hl (k := 1) rfl (by rw [ex_3]; rfl) (by decide) rfl (fun ls hl => ?_)
      refine lv_goto (tgt := 2) hx hb d_Reader_isOwnWord_24 (by decide) ?_
      exact hk2 x_3  _ _ _ hf w (lv_sub hl [1, 0] rfl)
    · have hf := if_e cd hf
      refine lv_iconst (v := 1) hx hb d_Reader_isOwnWord_19 (by decide) ?_
      cases some_e hf
      exact k_zret C w (by decide) d_Reader_isOwnWord_20
set_option maxHeartbeats 4000000 in
set_option maxRecDepth 20000 in
theorem t_Reader_isOwnWord_2 {r : Int32} {σ : St} (C : Cx g A p s m av meth c prog_6_method_8_code 2 "BellHammer$Reader" (some .boolean))  : ∀ (n : Nat) (x1 : Int32) (H : Heap) (locs : List Loc) (ls : Array Slot), f_Reader_isOwnWord_2   n x1 σ = some r → Wd g (wX g q) A s σ H locs → lv_has ls 2 [(0, .ref (q 4)), (1, .int x1)] → WK p l e s m av below meth c 1 g (wX g q) A (some (.int r)) σ H locs (F0 m 2 ls []) := by
  intro n
  induction n with
  | zero => intro x1 H locs ls hf; exact absurd hf (by intro z; cases z)
  | succ n ih => intro x1 H locs ls hf w hl; exact t_Reader_isOwnWord_2b C  ih hf w hl
set_option maxHeartbeats 4000000 in
set_option maxRecDepth 20000 in
theorem c_Reader_isOwnWord {l : Launch} {g : GX} {q : Nat → Nat}  {σ : St} {r : Int32} (hf : f_Reader_isOwnWord   σ = some r) : KK l y_Reader_isOwnWord prog_6_method_8_code 2 (some .boolean) 1 g (wX g q) σ [.ref (q 4)] (some (.int r)) (wX g q) σ := by
  refine KK_of (plainFor_of_name (by decide)) (Nat.le_of_ble_eq_true rfl) (fun p e s m below meth c A ls C w hl => ?_)
  have hl : lv_has ls 2 [(0, .ref (q 4))] := hl
  obtain ⟨hx, hb, hml, hown, hts, hK, hA, hZ, hlocks, hr, hN⟩ := id C
  unfold f_Reader_isOwnWord at hf
  refine lv_iconst (v := 0) hx hb d_Reader_isOwnWord_0 (by decide) ?_
  refine lv_istore_n (lv' := [(1, .int 0), (0, .ref (q 4))]) hx hb d_Reader_isOwnWord_1 rfl hl (by decide) rfl (fun ls hl => ?_)
  exact t_Reader_isOwnWord_2 C  FU 0  _ _ _ hf w (lv_sub hl [1, 0] rfl)
def f_Fair_hasName_30b (k30 : Int32 → Int32 → St → Option (Int32)) (x1 : Int32) (x2 : Int32) (σ : St) : Option (Int32) :=
  if (sI σ 14) ≤ x2 then
    some 0
  else
    gd (inB x2 8) <|
    if (sA σ 4 x2.toNatClampNeg) = x1 then
      some 1
    else
      lt ((x2 + 1)) fun x_2 =>
      k30 x1 x_2 σ
def f_Fair_hasName_30 : Nat → Int32 → Int32 → St → Option (Int32)
  | 0 => fun _ _ _ => none
  | n + 1 => f_Fair_hasName_30b   (f_Fair_hasName_30   n)
def f_Fair_hasName_2b (k2 : Int32 → Int32 → St → Option (Int32)) (x1 : Int32) (x2 : Int32) (σ : St) : Option (Int32) :=
  if (sI σ 13) ≤ x2 then
    f_Fair_hasName_30 FU x1 0 σ
  else
    gd (inB x2 6) <|
    if (sA σ 2 x2.toNatClampNeg) = x1 then
      some 1
    else
      lt ((x2 + 1)) fun x_2 =>
      k2 x1 x_2 σ
def f_Fair_hasName_2 : Nat → Int32 → Int32 → St → Option (Int32)
  | 0 => fun _ _ _ => none
  | n + 1 => f_Fair_hasName_2b   (f_Fair_hasName_2   n)
def f_Fair_hasName (x1 : Int32) (σ : St) : Option (Int32) :=
  f_Fair_hasName_2 FU x1 0 σ
set_option maxHeartbeats 4000000 in
set_option maxRecDepth 20000 in
theorem t_Fair_hasName_30b {r : Int32} {σ : St} (C : Cx g A p s m av meth c prog_3_method_4_code 3 "BellHammer$Fair" (some .boolean)) {k30 : Int32 → Int32 → St → Option (Int32)} (hk30 : ∀ (x1 : Int32) (x2 : Int32) (H : Heap) (locs : List Loc) (ls : Array Slot), k30 x1 x2 σ = some r → Wd g (wX g q) A s σ H locs → lv_has ls 3 [(0, .ref (q 6)), (1, .int x1), (2, .int x2)] → WK p l e s m av below meth c 0 g (wX g q) A (some (.int r)) σ H locs (F0 m 30 ls []))  {x1 : Int32} {x2 : Int32} {H : Heap} {locs : List Loc} {ls : Array Slot} (hf : f_Fair_hasName_30b  k30 x1 x2 σ = some r) (w : Wd g (wX g q) A s σ H locs) (hl : lv_has ls 3 [(0, .ref (q 6)), (1, .int x1), (2, .int x2)]) : WK p l e s m av below meth c 0 g (wX g q) A (some (.int r)) σ H locs (F0 m 30 ls []) := by
  obtain ⟨hx, hb, hml, hown, hts, hK, hA, hZ, hlocks, hr, hN⟩ := id C
  unfold f_Fair_hasName_30b at hf
  refine lv_iload_n hx hb d_Fair_hasName_30 rfl (lv_at hl 2 rfl) ?_
  refine lv_aload_n hx hb d_Fair_hasName_31 rfl (lv_at hl 0 rfl) ?_
  refine xg_6_triers C w k273 d_Fair_hasName_32 ?_
  refine lv_icmp_ge (tgt := 56) hx hb d_Fair_hasName_35 (by decide) (fun cd => ?_) (fun cd => ?_)
  · have hf := it_e cd hf
    refine lv_iconst (v := 0) hx hb d_Fair_hasName_56 (by decide) ?_
    cases some_e hf
    exact k_zret C w (by decide) d_Fair_hasName_57
  · have hf := if_e cd hf
    refine lv_aload_n hx hb d_Fair_hasName_38 rfl (lv_at hl 0 rfl) ?_
    refine xg_6_trierName C w k253 d_Fair_hasName_39 ?_
    refine lv_iload_n hx hb d_Fair_hasName_42 rfl (lv_at hl 2 rfl) ?_
    obtain ⟨g_1, hf⟩ := gd_e hf
    refine xl_9 C w g_1 d_Fair_hasName_43 ?_
    refine lv_iload_n hx hb d_Fair_hasName_44 rfl (lv_at hl 1 rfl) ?_
    refine lv_icmp_ne (tgt := 50) hx hb d_Fair_hasName_45 (by decide) (fun cd => ?_) (fun cd => ?_)
    · have hf := if_e cd hf
      obtain ⟨x_2, ex_2⟩ : ∃ y : Int32, y = (x2 + 1) := ⟨_, rfl⟩
      have hf := lt_e ex_2 hf
      refine lv_iinc (v := x_2) (lv' := [(2, .int x_2), (0, .ref (q 6)), (1, .int x1)]) hx hb d_Fair_hasName_50 hl (k := 2) rfl (by rw [ex_2]; rfl) (by decide) rfl (fun ls hl => ?_)
      refine lv_goto (tgt := 30) hx hb d_Fair_hasName_53 (by decide) ?_
      exact hk30 x1 x_2  _ _ _ hf w (lv_sub hl [1, 2, 0] rfl)
    · have hf := it_e cd hf
      refine lv_iconst (v := 1) hx hb d_Fair_hasName_48 (by decide) ?_
      cases some_e hf
      exact k_zret C w (by decide) d_Fair_hasName_49
set_option maxHeartbeats 4000000 in
set_option maxRecDepth 20000 in
theorem t_Fair_hasName_30 {r : Int32} {σ : St} (C : Cx g A p s m av meth c prog_3_method_4_code 3 "BellHammer$Fair" (some .boolean))  : ∀ (n : Nat) (x1 : Int32) (x2 : Int32) (H : Heap) (locs : List Loc) (ls : Array Slot), f_Fair_hasName_30   n x1 x2 σ = some r → Wd g (wX g q) A s σ H locs → lv_has ls 3 [(0, .ref (q 6)), (1, .int x1), (2, .int x2)] → WK p l e s m av below meth c 0 g (wX g q) A (some (.int r)) σ H locs (F0 m 30 ls []) := by
  intro n
  induction n with
  | zero => intro x1 x2 H locs ls hf; exact absurd hf (by intro z; cases z)
  | succ n ih => intro x1 x2 H locs ls hf w hl; exact t_Fair_hasName_30b C  ih hf w hl
set_option maxHeartbeats 4000000 in
set_option maxRecDepth 20000 in
theorem t_Fair_hasName_2b {r : Int32} {σ : St} (C : Cx g A p s m av meth c prog_3_method_4_code 3 "BellHammer$Fair" (some .boolean)) {k2 : Int32 → Int32 → St → Option (Int32)} (hk2 : ∀ (x1 : Int32) (x2 : Int32) (H : Heap) (locs : List Loc) (ls : Array Slot), k2 x1 x2 σ = some r → Wd g (wX g q) A s σ H locs → lv_has ls 3 [(0, .ref (q 6)), (1, .int x1), (2, .int x2)] → WK p l e s m av below meth c 0 g (wX g q) A (some (.int r)) σ H locs (F0 m 2 ls []))  {x1 : Int32} {x2 : Int32} {H : Heap} {locs : List Loc} {ls : Array Slot} (hf : f_Fair_hasName_2b  k2 x1 x2 σ = some r) (w : Wd g (wX g q) A s σ H locs) (hl : lv_has ls 3 [(0, .ref (q 6)), (1, .int x1), (2, .int x2)]) : WK p l e s m av below meth c 0 g (wX g q) A (some (.int r)) σ H locs (F0 m 2 ls []) := by
  obtain ⟨hx, hb, hml, hown, hts, hK, hA, hZ, hlocks, hr, hN⟩ := id C
  unfold f_Fair_hasName_2b at hf
  refine lv_iload_n hx hb d_Fair_hasName_2 rfl (lv_at hl 2 rfl) ?_
  refine lv_aload_n hx hb d_Fair_hasName_3 rfl (lv_at hl 0 rfl) ?_
  refine xg_6_marks C w k270 d_Fair_hasName_4 ?_
  refine lv_icmp_ge (tgt := 28) hx hb d_Fair_hasName_7 (by decide) (fun cd => ?_) (fun cd => ?_)
  · have hf := it_e cd hf
    refine lv_iconst (v := 0) hx hb d_Fair_hasName_28 (by decide) ?_
    refine lv_istore_n (lv' := [(2, .int 0), (0, .ref (q 6)), (1, .int x1)]) hx hb d_Fair_hasName_29 rfl hl (by decide) rfl (fun ls hl => ?_)
    exact t_Fair_hasName_30 C  FU x1 0  _ _ _ hf w (lv_sub hl [1, 2, 0] rfl)
  · have hf := if_e cd hf
    refine lv_aload_n hx hb d_Fair_hasName_10 rfl (lv_at hl 0 rfl) ?_
    refine xg_6_markName C w k247 d_Fair_hasName_11 ?_
    refine lv_iload_n hx hb d_Fair_hasName_14 rfl (lv_at hl 2 rfl) ?_
    obtain ⟨g_1, hf⟩ := gd_e hf
    refine xl_7 C w g_1 d_Fair_hasName_15 ?_
    refine lv_iload_n hx hb d_Fair_hasName_16 rfl (lv_at hl 1 rfl) ?_
    refine lv_icmp_ne (tgt := 22) hx hb d_Fair_hasName_17 (by decide) (fun cd => ?_) (fun cd => ?_)
    · have hf := if_e cd hf
      obtain ⟨x_2, ex_2⟩ : ∃ y : Int32, y = (x2 + 1) := ⟨_, rfl⟩
      have hf := lt_e ex_2 hf
      refine lv_iinc (v := x_2) (lv' := [(2, .int x_2), (0, .ref (q 6)), (1, .int x1)]) hx hb d_Fair_hasName_22 hl (k := 2) rfl (by rw [ex_2]; rfl) (by decide) rfl (fun ls hl => ?_)
      refine lv_goto (tgt := 2) hx hb d_Fair_hasName_25 (by decide) ?_
      exact hk2 x1 x_2  _ _ _ hf w (lv_sub hl [1, 2, 0] rfl)
    · have hf := it_e cd hf
      refine lv_iconst (v := 1) hx hb d_Fair_hasName_20 (by decide) ?_
      cases some_e hf
      exact k_zret C w (by decide) d_Fair_hasName_21
set_option maxHeartbeats 4000000 in
set_option maxRecDepth 20000 in
theorem t_Fair_hasName_2 {r : Int32} {σ : St} (C : Cx g A p s m av meth c prog_3_method_4_code 3 "BellHammer$Fair" (some .boolean))  : ∀ (n : Nat) (x1 : Int32) (x2 : Int32) (H : Heap) (locs : List Loc) (ls : Array Slot), f_Fair_hasName_2   n x1 x2 σ = some r → Wd g (wX g q) A s σ H locs → lv_has ls 3 [(0, .ref (q 6)), (1, .int x1), (2, .int x2)] → WK p l e s m av below meth c 0 g (wX g q) A (some (.int r)) σ H locs (F0 m 2 ls []) := by
  intro n
  induction n with
  | zero => intro x1 x2 H locs ls hf; exact absurd hf (by intro z; cases z)
  | succ n ih => intro x1 x2 H locs ls hf w hl; exact t_Fair_hasName_2b C  ih hf w hl
set_option maxHeartbeats 4000000 in
set_option maxRecDepth 20000 in
theorem c_Fair_hasName {l : Launch} {g : GX} {q : Nat → Nat} {x1 : Int32}  {σ : St} {r : Int32} (hf : f_Fair_hasName  x1 σ = some r) : KK l y_Fair_hasName prog_3_method_4_code 3 (some .boolean) 0 g (wX g q) σ [.ref (q 6), .int x1] (some (.int r)) (wX g q) σ := by
  refine KK_of (plainFor_of_name (by decide)) (Nat.le_of_ble_eq_true rfl) (fun p e s m below meth c A ls C w hl => ?_)
  have hl : lv_has ls 3 [(0, .ref (q 6)), (1, .int x1)] := hl
  obtain ⟨hx, hb, hml, hown, hts, hK, hA, hZ, hlocks, hr, hN⟩ := id C
  unfold f_Fair_hasName at hf
  refine lv_iconst (v := 0) hx hb d_Fair_hasName_0 (by decide) ?_
  refine lv_istore_n (lv' := [(2, .int 0), (0, .ref (q 6)), (1, .int x1)]) hx hb d_Fair_hasName_1 rfl hl (by decide) rfl (fun ls hl => ?_)
  exact t_Fair_hasName_2 C  FU x1 0  _ _ _ hf w (lv_sub hl [1, 2, 0] rfl)
def f_Parser_passName_76 (σ : St) : Option (Int32 × St) :=
  bd (f_Parser_tellWrong σ) fun r_2 σ_3 =>
  some ((-1), σ_3)
def f_Parser_passName_62 (x1 : Int32) (σ : St) : Option (Int32 × St) :=
  if x1 = 0 then
    f_Parser_passName_76 σ
  else
    bp (f_Reader_isOwnWord σ) fun r_2 =>
    if r_2 = 0 then
      lt ((sI σ 11)) fun x_3 =>
      bp (f_Fair_hasName x_3 σ) fun r_5 =>
      if r_5 = 0 then
        bp (f_Reader_step σ) fun σ_7 =>
        some (x_3, σ_7)
      else
        bd (f_Parser_tell 3 (sI σ 9) σ) fun r_9 σ_10 =>
        some ((-1), σ_10)
    else
      f_Parser_passName_76 σ
def f_Parser_passName_28 (t0 : Int32) (σ : St) : Option (Int32 × St) :=
  if (sI σ 8) = 1 then
    if t0 = 0 then
      bd (f_Parser_tell 1 ((sI σ 9) + 6) σ) fun r_2 σ_3 =>
      some ((-1), σ_3)
    else
      f_Parser_passName_62 t0 σ
  else
    f_Parser_passName_62 t0 σ
def f_Parser_passName_27 (σ : St) : Option (Int32 × St) :=
  f_Parser_passName_28 0 σ
def f_Parser_passName (σ : St) : Option (Int32 × St) :=
  if (sI σ 8) = 1 then
    if 6 < (sI σ 10) then
      f_Parser_passName_27 σ
    else
      f_Parser_passName_28 1 σ
  else
    f_Parser_passName_27 σ
set_option maxHeartbeats 4000000 in
set_option maxRecDepth 20000 in
theorem t_Parser_passName_76 {r : Int32} {σ2 : St} (C : Cx g A p s m av meth c prog_5_method_7_code 3 "BellHammer$Parser" (some .int))  {σ : St} {H : Heap} {locs : List Loc} {ls : Array Slot} (hf : f_Parser_passName_76    σ = some (r, σ2)) (w : Wd g (wX g (qt q)) A s σ H locs) (hl : lv_has ls 3 [(0, .ref (qt q 3))]) : WK p l e s m av below meth c 3 g (wX g (qt q)) A (some (.int r)) σ2 H locs (F0 m 76 ls []) := by
  obtain ⟨hx, hb, hml, hown, hts, hK, hA, hZ, hlocks, hr, hN⟩ := id C
  unfold f_Parser_passName_76 at hf
  refine lv_aload_n hx hb d_Parser_passName_76 rfl (lv_at hl 0 rfl) ?_
  obtain ⟨r_2, σ_3, h_1, hf⟩ := bd_e hf
  refine k_callV (As := []) (rest := []) C w (c_Parser_tellWrong (q := qt q) h_1) cv_Parser_tellWrong k610 (xr_3 C w) (by decide) hl.1 rfl (Nat.le_of_ble_eq_true rfl) d_Parser_passName_77 (fun H locs w => ?_)
  show WK p l e s m av below meth c 3 g (wX g (qt q)) A (some (.int r)) σ2 H locs (F0 m 80 ls [.int r_2])
  refine lv_pop hx hb d_Parser_passName_80 rfl ?_
  refine lv_iconst (v := (-1)) hx hb d_Parser_passName_81 (by decide) ?_
  obtain ⟨rfl, rfl⟩ := some2_e hf
  exact k_iret C w d_Parser_passName_82
set_option maxHeartbeats 4000000 in
set_option maxRecDepth 20000 in
theorem t_Parser_passName_62 {r : Int32} {σ2 : St} (C : Cx g A p s m av meth c prog_5_method_7_code 3 "BellHammer$Parser" (some .int))  {x1 : Int32} {σ : St} {H : Heap} {locs : List Loc} {ls : Array Slot} (hf : f_Parser_passName_62   x1 σ = some (r, σ2)) (w : Wd g (wX g (qt q)) A s σ H locs) (hl : lv_has ls 3 [(0, .ref (qt q 3)), (1, .int x1)]) : WK p l e s m av below meth c 3 g (wX g (qt q)) A (some (.int r)) σ2 H locs (F0 m 62 ls []) := by
  obtain ⟨hx, hb, hml, hown, hts, hK, hA, hZ, hlocks, hr, hN⟩ := id C
  unfold f_Parser_passName_62 at hf
  refine lv_iload_n hx hb d_Parser_passName_62 rfl (lv_at hl 1 rfl) ?_
  refine lv_if_eq (tgt := 76) hx hb d_Parser_passName_63 (by decide) (fun cd => ?_) (fun cd => ?_)
  · have hf := it_e cd hf
    exact t_Parser_passName_76 C  hf w (lv_sub hl [0] rfl)
  · have hf := if_e cd hf
    refine lv_aload_n hx hb d_Parser_passName_66 rfl (lv_at hl 0 rfl) ?_
    refine xg_3_reader C w k311 d_Parser_passName_67 ?_
    obtain ⟨r_2, h_1, hf⟩ := bp_e hf
    refine k_callV (As := []) (rest := []) C w (c_Reader_isOwnWord (q := qt q) h_1) cv_Reader_isOwnWord k605 (xr_4 C w) (by decide) hl.1 rfl (Nat.le_of_ble_eq_true rfl) d_Parser_passName_70 (fun H locs w => ?_)
    show WK p l e s m av below meth c 3 g (wX g (qt q)) A (some (.int r)) σ2 H locs (F0 m 73 ls [.int r_2])
    refine lv_if_eq (tgt := 83) hx hb d_Parser_passName_73 (by decide) (fun cd => ?_) (fun cd => ?_)
    · have hf := it_e cd hf
      refine lv_aload_n hx hb d_Parser_passName_83 rfl (lv_at hl 0 rfl) ?_
      refine xg_3_reader C w k311 d_Parser_passName_84 ?_
      refine xg_4_value C w k213 d_Parser_passName_87 ?_
      refine lv_topi (fun x_3 ex_3 => ?_)
      have hf := lt_e ex_3 hf
      refine lv_istore_n (lv' := [(2, .int x_3), (0, .ref (qt q 3)), (1, .int x1)]) hx hb d_Parser_passName_90 rfl hl (by decide) rfl (fun ls hl => ?_)
      refine lv_aload_n hx hb d_Parser_passName_91 rfl (lv_at hl 1 rfl) ?_
      refine xg_3_draft C w k312 d_Parser_passName_92 ?_
      refine lv_iload_n hx hb d_Parser_passName_95 rfl (lv_at hl 0 rfl) ?_
      obtain ⟨r_5, h_4, hf⟩ := bp_e hf
      refine k_callV (As := [.int x_3]) (rest := []) C w (c_Fair_hasName (q := qt q) h_4) cv_Fair_hasName k614 (xr_6 C w) (by decide) hl.1 rfl (Nat.le_of_ble_eq_true rfl) d_Parser_passName_96 (fun H locs w => ?_)
      show WK p l e s m av below meth c 3 g (wX g (qt q)) A (some (.int r)) σ2 H locs (F0 m 99 ls [.int r_5])
      refine lv_if_eq (tgt := 117) hx hb d_Parser_passName_99 (by decide) (fun cd => ?_) (fun cd => ?_)
      · have hf := it_e cd hf
        refine lv_aload_n hx hb d_Parser_passName_117 rfl (lv_at hl 1 rfl) ?_
        refine xg_3_reader C w k311 d_Parser_passName_118 ?_
        obtain ⟨σ_7, h_6, hf⟩ := bp_e hf
        refine k_callV (As := []) (rest := []) C w (c_Reader_step (q := q) h_6) cv_Reader_step k600 (xr_4 C w) (by decide) hl.1 rfl (Nat.le_of_ble_eq_true rfl) d_Parser_passName_121 (fun H locs w => ?_)
        show WK p l e s m av below meth c 3 g (wX g (qt q)) A (some (.int r)) σ2 H locs (F0 m 124 ls [])
        refine lv_iload_n hx hb d_Parser_passName_124 rfl (lv_at hl 0 rfl) ?_
        obtain ⟨rfl, rfl⟩ := some2_e hf
        exact k_iret C w d_Parser_passName_125
      · have hf := if_e cd hf
        refine lv_aload_n hx hb d_Parser_passName_102 rfl (lv_at hl 1 rfl) ?_
        refine lv_iconst (v := 3) hx hb d_Parser_passName_103 (by decide) ?_
        refine lv_aload_n hx hb d_Parser_passName_104 rfl (lv_at hl 1 rfl) ?_
        refine xg_3_reader C w k311 d_Parser_passName_105 ?_
        refine xg_4_start C w k208 d_Parser_passName_108 ?_
        obtain ⟨r_9, σ_10, h_8, hf⟩ := bd_e hf
        refine k_callV (As := [.int 3, .int (sI σ 9)]) (rest := []) C w (c_Parser_tell (q := qt q) h_8) cv_Parser_tell k584 (xr_3 C w) (by decide) hl.1 rfl (Nat.le_of_ble_eq_true rfl) d_Parser_passName_111 (fun H locs w => ?_)
        show WK p l e s m av below meth c 3 g (wX g (qt q)) A (some (.int r)) σ2 H locs (F0 m 114 ls [.int r_9])
        refine lv_pop hx hb d_Parser_passName_114 rfl ?_
        refine lv_iconst (v := (-1)) hx hb d_Parser_passName_115 (by decide) ?_
        obtain ⟨rfl, rfl⟩ := some2_e hf
        exact k_iret C w d_Parser_passName_116
    · have hf := if_e cd hf
      exact t_Parser_passName_76 C  hf w (lv_sub hl [0] rfl)
set_option maxHeartbeats 4000000 in
set_option maxRecDepth 20000 in
theorem t_Parser_passName_28 {r : Int32} {σ2 : St} (C : Cx g A p s m av meth c prog_5_method_7_code 3 "BellHammer$Parser" (some .int))  {t0 : Int32} {σ : St} {H : Heap} {locs : List Loc} {ls : Array Slot} (hf : f_Parser_passName_28   t0 σ = some (r, σ2)) (w : Wd g (wX g (qt q)) A s σ H locs) (hl : lv_has ls 3 [(0, .ref (qt q 3))]) : WK p l e s m av below meth c 3 g (wX g (qt q)) A (some (.int r)) σ2 H locs (F0 m 28 ls [.int t0]) := by
  obtain ⟨hx, hb, hml, hown, hts, hK, hA, hZ, hlocks, hr, hN⟩ := id C
  unfold f_Parser_passName_28 at hf
  refine lv_istore_n (lv' := [(1, .int t0), (0, .ref (qt q 3))]) hx hb d_Parser_passName_28 rfl hl (by decide) rfl (fun ls hl => ?_)
  refine lv_aload_n hx hb d_Parser_passName_29 rfl (lv_at hl 1 rfl) ?_
  refine xg_3_reader C w k311 d_Parser_passName_30 ?_
  refine xg_4_kind C w k207 d_Parser_passName_33 ?_
  refine lv_iconst (v := 1) hx hb d_Parser_passName_36 (by decide) ?_
  refine lv_icmp_ne (tgt := 62) hx hb d_Parser_passName_37 (by decide) (fun cd => ?_) (fun cd => ?_)
  · have hf := if_e cd hf
    exact t_Parser_passName_62 C  hf w (lv_sub hl [1, 0] rfl)
  · have hf := it_e cd hf
    refine lv_iload_n hx hb d_Parser_passName_40 rfl (lv_at hl 0 rfl) ?_
    refine lv_if_ne (tgt := 62) hx hb d_Parser_passName_41 (by decide) (fun cd => ?_) (fun cd => ?_)
    · have hf := if_e cd hf
      exact t_Parser_passName_62 C  hf w (lv_sub hl [1, 0] rfl)
    · have hf := it_e cd hf
      refine lv_aload_n hx hb d_Parser_passName_44 rfl (lv_at hl 1 rfl) ?_
      refine lv_iconst (v := 1) hx hb d_Parser_passName_45 (by decide) ?_
      refine lv_aload_n hx hb d_Parser_passName_46 rfl (lv_at hl 1 rfl) ?_
      refine xg_3_reader C w k311 d_Parser_passName_47 ?_
      refine xg_4_start C w k208 d_Parser_passName_50 ?_
      refine lv_bipush (v := 6) hx hb d_Parser_passName_53 (by decide) ?_
      refine lv_iadd hx hb d_Parser_passName_55 ?_
      obtain ⟨r_2, σ_3, h_1, hf⟩ := bd_e hf
      refine k_callV (As := [.int 1, .int ((sI σ 9) + 6)]) (rest := []) C w (c_Parser_tell (q := qt q) h_1) cv_Parser_tell k584 (xr_3 C w) (by decide) hl.1 rfl (Nat.le_of_ble_eq_true rfl) d_Parser_passName_56 (fun H locs w => ?_)
      show WK p l e s m av below meth c 3 g (wX g (qt q)) A (some (.int r)) σ2 H locs (F0 m 59 ls [.int r_2])
      refine lv_pop hx hb d_Parser_passName_59 rfl ?_
      refine lv_iconst (v := (-1)) hx hb d_Parser_passName_60 (by decide) ?_
      obtain ⟨rfl, rfl⟩ := some2_e hf
      exact k_iret C w d_Parser_passName_61
set_option maxHeartbeats 4000000 in
set_option maxRecDepth 20000 in
theorem t_Parser_passName_27 {r : Int32} {σ2 : St} (C : Cx g A p s m av meth c prog_5_method_7_code 3 "BellHammer$Parser" (some .int))  {σ : St} {H : Heap} {locs : List Loc} {ls : Array Slot} (hf : f_Parser_passName_27    σ = some (r, σ2)) (w : Wd g (wX g (qt q)) A s σ H locs) (hl : lv_has ls 3 [(0, .ref (qt q 3))]) : WK p l e s m av below meth c 3 g (wX g (qt q)) A (some (.int r)) σ2 H locs (F0 m 27 ls []) := by
  obtain ⟨hx, hb, hml, hown, hts, hK, hA, hZ, hlocks, hr, hN⟩ := id C
  unfold f_Parser_passName_27 at hf
  refine lv_iconst (v := 0) hx hb d_Parser_passName_27 (by decide) ?_
  exact t_Parser_passName_28 C  hf w (lv_sub hl [0] rfl)
set_option maxHeartbeats 4000000 in
set_option maxRecDepth 20000 in
theorem c_Parser_passName {l : Launch} {g : GX} {q : Nat → Nat}  {σ : St} {r : Int32} {σ2 : St} (hf : f_Parser_passName   σ = some (r, σ2)) : KK l y_Parser_passName prog_5_method_7_code 3 (some .int) 3 g (wX g (qt q)) σ [.ref (qt q 3)] (some (.int r)) (wX g (qt q)) σ2 := by
  refine KK_of (plainFor_of_name (by decide)) (Nat.le_of_ble_eq_true rfl) (fun p e s m below meth c A ls C w hl => ?_)
  have hl : lv_has ls 3 [(0, .ref (qt q 3))] := hl
  obtain ⟨hx, hb, hml, hown, hts, hK, hA, hZ, hlocks, hr, hN⟩ := id C
  unfold f_Parser_passName at hf
  refine lv_aload_n hx hb d_Parser_passName_0 rfl (lv_at hl 0 rfl) ?_
  refine xg_3_reader C w k311 d_Parser_passName_1 ?_
  refine xg_4_kind C w k207 d_Parser_passName_4 ?_
  refine lv_iconst (v := 1) hx hb d_Parser_passName_7 (by decide) ?_
  refine lv_icmp_ne (tgt := 27) hx hb d_Parser_passName_8 (by decide) (fun cd => ?_) (fun cd => ?_)
  · have hf := if_e cd hf
    exact t_Parser_passName_27 C  hf w (lv_sub hl [0] rfl)
  · have hf := it_e cd hf
    refine lv_aload_n hx hb d_Parser_passName_11 rfl (lv_at hl 0 rfl) ?_
    refine xg_3_reader C w k311 d_Parser_passName_12 ?_
    refine xg_4_size C w k211 d_Parser_passName_15 ?_
    refine lv_bipush (v := 6) hx hb d_Parser_passName_18 (by decide) ?_
    refine lv_icmp_gt (tgt := 27) hx hb d_Parser_passName_20 (by decide) (fun cd => ?_) (fun cd => ?_)
    · have hf := it_e cd hf
      exact t_Parser_passName_27 C  hf w (lv_sub hl [0] rfl)
    · have hf := if_e cd hf
      refine lv_iconst (v := 1) hx hb d_Parser_passName_23 (by decide) ?_
      refine lv_goto (tgt := 28) hx hb d_Parser_passName_24 (by decide) ?_
      exact t_Parser_passName_28 C  hf w (lv_sub hl [0] rfl)
def f_Parser_readTrier_154 (x1 : Int32) (x2 : Int32) (t0 : Int32) (t1 : Int32) (σ : St) : Option (Int32 × St) :=
  gd (inB t1 48) <|
  lt (uA σ 5 (upd (sA σ 5) t1.toNatClampNeg t0)) fun σ_2 =>
  gd (inB x1 8) <|
  lt (uA σ_2 4 (upd (sA σ_2 4) x1.toNatClampNeg x2)) fun σ_4 =>
  lt (uI σ_4 14 ((sI σ_4 14) + 1)) fun σ_5 =>
  some (1, σ_5)
def f_Parser_readTrier_132 (x1 : Int32) (x2 : Int32) (x3 : Int32) (σ : St) : Option (Int32 × St) :=
  if x3 = 0 then
    f_Parser_readTrier_154 x1 x2 0 ((x1 * 6) + 5) σ
  else
    f_Parser_readTrier_154 x1 x2 1 ((x1 * 6) + 5) σ
def f_Parser_readTrier_48b (k48 : Int32 → Int32 → Int32 → St → Option (Int32 × St)) (x1 : Int32) (x2 : Int32) (x3 : Int32) (σ : St) : Option (Int32 × St) :=
  if 5 ≤ x3 then
    bp (f_Reader_isWord 8 σ) fun r_2 =>
    if r_2 = 0 then
      f_Parser_readTrier_132 x1 x2 r_2 σ
    else
      bp (f_Reader_step σ) fun σ_4 =>
      f_Parser_readTrier_132 x1 x2 r_2 σ_4
  else
    bd (f_Parser_passWord (3 + x3) σ) fun r_6 σ_7 =>
    if r_6 = 0 then
      some (0, σ_7)
    else
      gd (inB x3 5) <|
      gd (inB x3 5) <|
      bd (f_Parser_passNumber (stV 0 x3) (stV 1 x3) σ_7) fun r_11 σ_12 =>
      if r_11 = (-1) then
        some (0, σ_12)
      else
        gd (inB ((x1 * 6) + x3) 48) <|
        lt (uA σ_12 5 (upd (sA σ_12 5) ((x1 * 6) + x3).toNatClampNeg r_11)) fun σ_14 =>
        lt ((x3 + 1)) fun x_15 =>
        k48 x1 x2 x_15 σ_14
def f_Parser_readTrier_48 : Nat → Int32 → Int32 → Int32 → St → Option (Int32 × St)
  | 0 => fun _ _ _ _ => none
  | n + 1 => f_Parser_readTrier_48b   (f_Parser_readTrier_48   n)
def f_Parser_readTrier (σ : St) : Option (Int32 × St) :=
  lt ((sI σ 14)) fun x_1 =>
  if x_1 < 8 then
    bp (f_Reader_step σ) fun σ_3 =>
    bd (f_Parser_passName σ_3) fun r_5 σ_6 =>
    if r_5 = (-1) then
      some (0, σ_6)
    else
      f_Parser_readTrier_48 FU x_1 r_5 0 σ_6
  else
    bd (f_Parser_tell 5 (sI σ 9) σ) fun r_8 σ_9 =>
    gd (isB r_8) <|
    some (r_8, σ_9)
set_option maxHeartbeats 4000000 in
set_option maxRecDepth 20000 in
theorem t_Parser_readTrier_154 {r : Int32} {σ2 : St} (C : Cx g A p s m av meth c prog_5_method_12_code 5 "BellHammer$Parser" (some .boolean))  {x1 : Int32} {x2 : Int32} {t0 : Int32} {t1 : Int32} {σ : St} {H : Heap} {locs : List Loc} {ls : Array Slot} (hf : f_Parser_readTrier_154   x1 x2 t0 t1 σ = some (r, σ2)) (w : Wd g (wX g (qt q)) A s σ H locs) (hl : lv_has ls 5 [(0, .ref (qt q 3)), (1, .int x1), (2, .int x2)]) : WK p l e s m av below meth c 4 g (wX g (qt q)) A (some (.int r)) σ2 H locs (F0 m 154 ls [.int t0, .int t1, .ref (qt q 10)]) := by
  obtain ⟨hx, hb, hml, hown, hts, hK, hA, hZ, hlocks, hr, hN⟩ := id C
  unfold f_Parser_readTrier_154 at hf
  obtain ⟨g_1, hf⟩ := gd_e hf
  refine xs_10 C w g_1 d_Parser_readTrier_154 (fun σ_2 H locs eσ_2 w => ?_)
  have hf := lt_e eσ_2 hf
  refine lv_aload_n hx hb d_Parser_readTrier_155 rfl (lv_at hl 0 rfl) ?_
  refine xg_3_draft C w k312 d_Parser_readTrier_156 ?_
  refine xg_6_trierName C w k255 d_Parser_readTrier_159 ?_
  refine lv_iload_n hx hb d_Parser_readTrier_162 rfl (lv_at hl 1 rfl) ?_
  refine lv_iload_n hx hb d_Parser_readTrier_163 rfl (lv_at hl 2 rfl) ?_
  obtain ⟨g_3, hf⟩ := gd_e hf
  refine xs_9 C w g_3 d_Parser_readTrier_164 (fun σ_4 H locs eσ_4 w => ?_)
  have hf := lt_e eσ_4 hf
  refine lv_aload_n hx hb d_Parser_readTrier_165 rfl (lv_at hl 0 rfl) ?_
  refine xg_3_draft C w k312 d_Parser_readTrier_166 ?_
  refine lv_dup hx hb d_Parser_readTrier_169 rfl ?_
  refine xg_6_triers C w k276 d_Parser_readTrier_170 ?_
  refine lv_iconst (v := 1) hx hb d_Parser_readTrier_173 (by decide) ?_
  refine lv_iadd hx hb d_Parser_readTrier_174 ?_
  refine xp_6_triers C w k276 d_Parser_readTrier_175 (fun σ_5 H locs eσ_5 w => ?_)
  have hf := lt_e eσ_5 hf
  refine lv_iconst (v := 1) hx hb d_Parser_readTrier_178 (by decide) ?_
  obtain ⟨rfl, rfl⟩ := some2_e hf
  exact k_zret C w (by decide) d_Parser_readTrier_179
set_option maxHeartbeats 4000000 in
set_option maxRecDepth 20000 in
theorem t_Parser_readTrier_132 {r : Int32} {σ2 : St} (C : Cx g A p s m av meth c prog_5_method_12_code 5 "BellHammer$Parser" (some .boolean))  {x1 : Int32} {x2 : Int32} {x3 : Int32} {σ : St} {H : Heap} {locs : List Loc} {ls : Array Slot} (hf : f_Parser_readTrier_132   x1 x2 x3 σ = some (r, σ2)) (w : Wd g (wX g (qt q)) A s σ H locs) (hl : lv_has ls 5 [(0, .ref (qt q 3)), (1, .int x1), (2, .int x2), (3, .int x3)]) : WK p l e s m av below meth c 4 g (wX g (qt q)) A (some (.int r)) σ2 H locs (F0 m 132 ls []) := by
  obtain ⟨hx, hb, hml, hown, hts, hK, hA, hZ, hlocks, hr, hN⟩ := id C
  unfold f_Parser_readTrier_132 at hf
  refine lv_aload_n hx hb d_Parser_readTrier_132 rfl (lv_at hl 0 rfl) ?_
  refine xg_3_draft C w k312 d_Parser_readTrier_133 ?_
  refine xg_6_traits C w k257 d_Parser_readTrier_136 ?_
  refine lv_iload_n hx hb d_Parser_readTrier_139 rfl (lv_at hl 1 rfl) ?_
  refine lv_bipush (v := 6) hx hb d_Parser_readTrier_140 (by decide) ?_
  refine lv_imul hx hb d_Parser_readTrier_142 ?_
  refine lv_iconst (v := 5) hx hb d_Parser_readTrier_143 (by decide) ?_
  refine lv_iadd hx hb d_Parser_readTrier_144 ?_
  refine lv_iload_n hx hb d_Parser_readTrier_145 rfl (lv_at hl 3 rfl) ?_
  refine lv_if_eq (tgt := 153) hx hb d_Parser_readTrier_146 (by decide) (fun cd => ?_) (fun cd => ?_)
  · have hf := it_e cd hf
    refine lv_iconst (v := 0) hx hb d_Parser_readTrier_153 (by decide) ?_
    exact t_Parser_readTrier_154 C  hf w (lv_sub hl [0, 1, 2] rfl)
  · have hf := if_e cd hf
    refine lv_iconst (v := 1) hx hb d_Parser_readTrier_149 (by decide) ?_
    refine lv_goto (tgt := 154) hx hb d_Parser_readTrier_150 (by decide) ?_
    exact t_Parser_readTrier_154 C  hf w (lv_sub hl [0, 1, 2] rfl)
set_option maxHeartbeats 4000000 in
set_option maxRecDepth 20000 in
theorem t_Parser_readTrier_48b {r : Int32} {σ2 : St} (C : Cx g A p s m av meth c prog_5_method_12_code 5 "BellHammer$Parser" (some .boolean)) {k48 : Int32 → Int32 → Int32 → St → Option (Int32 × St)} (hk48 : ∀ (x1 : Int32) (x2 : Int32) (x3 : Int32) (σ : St) (H : Heap) (locs : List Loc) (ls : Array Slot), k48 x1 x2 x3 σ = some (r, σ2) → Wd g (wX g (qt q)) A s σ H locs → lv_has ls 5 [(0, .ref (qt q 3)), (1, .int x1), (2, .int x2), (3, .int x3)] → WK p l e s m av below meth c 4 g (wX g (qt q)) A (some (.int r)) σ2 H locs (F0 m 48 ls []))  {x1 : Int32} {x2 : Int32} {x3 : Int32} {σ : St} {H : Heap} {locs : List Loc} {ls : Array Slot} (hf : f_Parser_readTrier_48b  k48 x1 x2 x3 σ = some (r, σ2)) (w : Wd g (wX g (qt q)) A s σ H locs) (hl : lv_has ls 5 [(0, .ref (qt q 3)), (1, .int x1), (2, .int x2), (3, .int x3)]) : WK p l e s m av below meth c 4 g (wX g (qt q)) A (some (.int r)) σ2 H locs (F0 m 48 ls []) := by
  obtain ⟨hx, hb, hml, hown, hts, hK, hA, hZ, hlocks, hr, hN⟩ := id C
  unfold f_Parser_readTrier_48b at hf
  refine lv_iload_n hx hb d_Parser_readTrier_48 rfl (lv_at hl 3 rfl) ?_
  refine lv_iconst (v := 5) hx hb d_Parser_readTrier_49 (by decide) ?_
  refine lv_icmp_ge (tgt := 111) hx hb d_Parser_readTrier_50 (by decide) (fun cd => ?_) (fun cd => ?_)
  · have hf := it_e cd hf
    refine lv_aload_n hx hb d_Parser_readTrier_111 rfl (lv_at hl 0 rfl) ?_
    refine xg_3_reader C w k311 d_Parser_readTrier_112 ?_
    refine lv_bipush (v := 8) hx hb d_Parser_readTrier_115 (by decide) ?_
    obtain ⟨r_2, h_1, hf⟩ := bp_e hf
    refine k_callV (As := [.int 8]) (rest := []) C w (c_Reader_isWord (q := qt q) h_1) cv_Reader_isWord k592 (xr_4 C w) (by decide) hl.1 rfl (Nat.le_of_ble_eq_true rfl) d_Parser_readTrier_117 (fun H locs w => ?_)
    show WK p l e s m av below meth c 4 g (wX g (qt q)) A (some (.int r)) σ2 H locs (F0 m 120 ls [.int r_2])
    refine lv_istore_n (lv' := [(3, .int r_2), (0, .ref (qt q 3)), (1, .int x1), (2, .int x2)]) hx hb d_Parser_readTrier_120 rfl hl (by decide) rfl (fun ls hl => ?_)
    refine lv_iload_n hx hb d_Parser_readTrier_121 rfl (lv_at hl 0 rfl) ?_
    refine lv_if_eq (tgt := 132) hx hb d_Parser_readTrier_122 (by decide) (fun cd => ?_) (fun cd => ?_)
    · have hf := it_e cd hf
      exact t_Parser_readTrier_132 C  hf w (lv_sub hl [1, 2, 3, 0] rfl)
    · have hf := if_e cd hf
      refine lv_aload_n hx hb d_Parser_readTrier_125 rfl (lv_at hl 1 rfl) ?_
      refine xg_3_reader C w k311 d_Parser_readTrier_126 ?_
      obtain ⟨σ_4, h_3, hf⟩ := bp_e hf
      refine k_callV (As := []) (rest := []) C w (c_Reader_step (q := q) h_3) cv_Reader_step k600 (xr_4 C w) (by decide) hl.1 rfl (Nat.le_of_ble_eq_true rfl) d_Parser_readTrier_129 (fun H locs w => ?_)
      show WK p l e s m av below meth c 4 g (wX g (qt q)) A (some (.int r)) σ2 H locs (F0 m 132 ls [])
      exact t_Parser_readTrier_132 C  hf w (lv_sub hl [1, 2, 3, 0] rfl)
  · have hf := if_e cd hf
    refine lv_aload_n hx hb d_Parser_readTrier_53 rfl (lv_at hl 0 rfl) ?_
    refine lv_iconst (v := 3) hx hb d_Parser_readTrier_54 (by decide) ?_
    refine lv_iload_n hx hb d_Parser_readTrier_55 rfl (lv_at hl 3 rfl) ?_
    refine lv_iadd hx hb d_Parser_readTrier_56 ?_
    obtain ⟨r_6, σ_7, h_5, hf⟩ := bd_e hf
    refine k_callV (As := [.int (3 + x3)]) (rest := []) C w (c_Parser_passWord (q := q) h_5) cv_Parser_passWord k618 (xr_3 C w) (by decide) hl.1 rfl (Nat.le_of_ble_eq_true rfl) d_Parser_readTrier_57 (fun H locs w => ?_)
    show WK p l e s m av below meth c 4 g (wX g (qt q)) A (some (.int r)) σ2 H locs (F0 m 60 ls [.int r_6])
    refine lv_if_ne (tgt := 65) hx hb d_Parser_readTrier_60 (by decide) (fun cd => ?_) (fun cd => ?_)
    · have hf := if_e cd hf
      refine lv_aload_n hx hb d_Parser_readTrier_65 rfl (lv_at hl 0 rfl) ?_
      refine r_getsN C w 0 rfl (List.mem_of_getElem? (l := nestF) (i := 2) rfl) d_Parser_readTrier_66 ?_
      refine lv_iload_n hx hb d_Parser_readTrier_69 rfl (lv_at hl 3 rfl) ?_
      obtain ⟨g_8, hf⟩ := gd_e hf
      refine r_sld C w 0 rfl g_8 d_Parser_readTrier_70 ?_
      refine r_getsN C w 1 rfl (List.mem_of_getElem? (l := nestF) (i := 3) rfl) d_Parser_readTrier_71 ?_
      refine lv_iload_n hx hb d_Parser_readTrier_74 rfl (lv_at hl 3 rfl) ?_
      obtain ⟨g_9, hf⟩ := gd_e hf
      refine r_sld C w 1 rfl g_9 d_Parser_readTrier_75 ?_
      obtain ⟨r_11, σ_12, h_10, hf⟩ := bd_e hf
      refine k_callV (As := [.int (stV 0 x3), .int (stV 1 x3)]) (rest := []) C w (c_Parser_passNumber (q := q) h_10) cv_Parser_passNumber k622 (xr_3 C w) (by decide) hl.1 rfl (Nat.le_of_ble_eq_true rfl) d_Parser_readTrier_76 (fun H locs w => ?_)
      show WK p l e s m av below meth c 4 g (wX g (qt q)) A (some (.int r)) σ2 H locs (F0 m 79 ls [.int r_11])
      refine lv_istore (lv' := [(4, .int r_11), (0, .ref (qt q 3)), (1, .int x1), (2, .int x2), (3, .int x3)]) hx hb d_Parser_readTrier_79 hl (by decide) rfl (fun ls hl => ?_)
      refine lv_iload hx hb d_Parser_readTrier_81 (lv_at hl 0 rfl) ?_
      refine lv_iconst (v := (-1)) hx hb d_Parser_readTrier_83 (by decide) ?_
      refine lv_icmp_ne (tgt := 89) hx hb d_Parser_readTrier_84 (by decide) (fun cd => ?_) (fun cd => ?_)
      · have hf := if_e cd hf
        refine lv_aload_n hx hb d_Parser_readTrier_89 rfl (lv_at hl 1 rfl) ?_
        refine xg_3_draft C w k312 d_Parser_readTrier_90 ?_
        refine xg_6_traits C w k257 d_Parser_readTrier_93 ?_
        refine lv_iload_n hx hb d_Parser_readTrier_96 rfl (lv_at hl 2 rfl) ?_
        refine lv_bipush (v := 6) hx hb d_Parser_readTrier_97 (by decide) ?_
        refine lv_imul hx hb d_Parser_readTrier_99 ?_
        refine lv_iload_n hx hb d_Parser_readTrier_100 rfl (lv_at hl 4 rfl) ?_
        refine lv_iadd hx hb d_Parser_readTrier_101 ?_
        refine lv_iload hx hb d_Parser_readTrier_102 (lv_at hl 0 rfl) ?_
        obtain ⟨g_13, hf⟩ := gd_e hf
        refine xs_10 C w g_13 d_Parser_readTrier_104 (fun σ_14 H locs eσ_14 w => ?_)
        have hf := lt_e eσ_14 hf
        obtain ⟨x_15, ex_15⟩ : ∃ y : Int32, y = (x3 + 1) := ⟨_, rfl⟩
        have hf := lt_e ex_15 hf
        refine lv_iinc (v := x_15) (lv' := [(3, .int x_15), (4, .int r_11), (0, .ref (qt q 3)), (1, .int x1), (2, .int x2)]) hx hb d_Parser_readTrier_105 hl (k := 4) rfl (by rw [ex_15]; rfl) (by decide) rfl (fun ls hl => ?_)
        refine lv_goto (tgt := 48) hx hb d_Parser_readTrier_108 (by decide) ?_
        exact hk48 x1 x2 x_15 σ_14 _ _ _ hf w (lv_sub hl [2, 3, 4, 0] rfl)
      · have hf := it_e cd hf
        refine lv_iconst (v := 0) hx hb d_Parser_readTrier_87 (by decide) ?_
        obtain ⟨rfl, rfl⟩ := some2_e hf
        exact k_zret C w (by decide) d_Parser_readTrier_88
    · have hf := it_e cd hf
      refine lv_iconst (v := 0) hx hb d_Parser_readTrier_63 (by decide) ?_
      obtain ⟨rfl, rfl⟩ := some2_e hf
      exact k_zret C w (by decide) d_Parser_readTrier_64
set_option maxHeartbeats 4000000 in
set_option maxRecDepth 20000 in
theorem t_Parser_readTrier_48 {r : Int32} {σ2 : St} (C : Cx g A p s m av meth c prog_5_method_12_code 5 "BellHammer$Parser" (some .boolean))  : ∀ (n : Nat) (x1 : Int32) (x2 : Int32) (x3 : Int32) (σ : St) (H : Heap) (locs : List Loc) (ls : Array Slot), f_Parser_readTrier_48   n x1 x2 x3 σ = some (r, σ2) → Wd g (wX g (qt q)) A s σ H locs → lv_has ls 5 [(0, .ref (qt q 3)), (1, .int x1), (2, .int x2), (3, .int x3)] → WK p l e s m av below meth c 4 g (wX g (qt q)) A (some (.int r)) σ2 H locs (F0 m 48 ls []) := by
  intro n
  induction n with
  | zero => intro x1 x2 x3 σ H locs ls hf; exact absurd hf (by intro z; cases z)
  | succ n ih => intro x1 x2 x3 σ H locs ls hf w hl; exact t_Parser_readTrier_48b C  ih hf w hl
set_option maxHeartbeats 4000000 in
set_option maxRecDepth 20000 in
theorem c_Parser_readTrier {l : Launch} {g : GX} {q : Nat → Nat}  {σ : St} {r : Int32} {σ2 : St} (hf : f_Parser_readTrier   σ = some (r, σ2)) : KK l y_Parser_readTrier prog_5_method_12_code 5 (some .boolean) 4 g (wX g (qt q)) σ [.ref (qt q 3)] (some (.int r)) (wX g (qt q)) σ2 := by
  refine KK_of (plainFor_of_name (by decide)) (Nat.le_of_ble_eq_true rfl) (fun p e s m below meth c A ls C w hl => ?_)
  have hl : lv_has ls 5 [(0, .ref (qt q 3))] := hl
  obtain ⟨hx, hb, hml, hown, hts, hK, hA, hZ, hlocks, hr, hN⟩ := id C
  unfold f_Parser_readTrier at hf
  refine lv_aload_n hx hb d_Parser_readTrier_0 rfl (lv_at hl 0 rfl) ?_
  refine xg_3_draft C w k312 d_Parser_readTrier_1 ?_
  refine xg_6_triers C w k276 d_Parser_readTrier_4 ?_
  refine lv_topi (fun x_1 ex_1 => ?_)
  have hf := lt_e ex_1 hf
  refine lv_istore_n (lv' := [(1, .int x_1), (0, .ref (qt q 3))]) hx hb d_Parser_readTrier_7 rfl hl (by decide) rfl (fun ls hl => ?_)
  refine lv_iload_n hx hb d_Parser_readTrier_8 rfl (lv_at hl 0 rfl) ?_
  refine lv_bipush (v := 8) hx hb d_Parser_readTrier_9 (by decide) ?_
  refine lv_icmp_lt (tgt := 27) hx hb d_Parser_readTrier_11 (by decide) (fun cd => ?_) (fun cd => ?_)
  · have hf := it_e cd hf
    refine lv_aload_n hx hb d_Parser_readTrier_27 rfl (lv_at hl 1 rfl) ?_
    refine xg_3_reader C w k311 d_Parser_readTrier_28 ?_
    obtain ⟨σ_3, h_2, hf⟩ := bp_e hf
    refine k_callV (As := []) (rest := []) C w (c_Reader_step (q := q) h_2) cv_Reader_step k600 (xr_4 C w) (by decide) hl.1 rfl (Nat.le_of_ble_eq_true rfl) d_Parser_readTrier_31 (fun H locs w => ?_)
    show WK p l e s m _ below meth c 4 g (wX g (qt q)) A (some (.int r)) σ2 H locs (F0 m 34 ls [])
    refine lv_aload_n hx hb d_Parser_readTrier_34 rfl (lv_at hl 1 rfl) ?_
    obtain ⟨r_5, σ_6, h_4, hf⟩ := bd_e hf
    refine k_callV (As := []) (rest := []) C w (c_Parser_passName (q := q) h_4) cv_Parser_passName k601 (xr_3 C w) (by decide) hl.1 rfl (Nat.le_of_ble_eq_true rfl) d_Parser_readTrier_35 (fun H locs w => ?_)
    show WK p l e s m _ below meth c 4 g (wX g (qt q)) A (some (.int r)) σ2 H locs (F0 m 38 ls [.int r_5])
    refine lv_istore_n (lv' := [(2, .int r_5), (1, .int x_1), (0, .ref (qt q 3))]) hx hb d_Parser_readTrier_38 rfl hl (by decide) rfl (fun ls hl => ?_)
    refine lv_iload_n hx hb d_Parser_readTrier_39 rfl (lv_at hl 0 rfl) ?_
    refine lv_iconst (v := (-1)) hx hb d_Parser_readTrier_40 (by decide) ?_
    refine lv_icmp_ne (tgt := 46) hx hb d_Parser_readTrier_41 (by decide) (fun cd => ?_) (fun cd => ?_)
    · have hf := if_e cd hf
      refine lv_iconst (v := 0) hx hb d_Parser_readTrier_46 (by decide) ?_
      refine lv_istore_n (lv' := [(3, .int 0), (2, .int r_5), (1, .int x_1), (0, .ref (qt q 3))]) hx hb d_Parser_readTrier_47 rfl hl (by decide) rfl (fun ls hl => ?_)
      exact t_Parser_readTrier_48 C  FU x_1 r_5 0 σ_6 _ _ _ hf w (lv_sub hl [3, 2, 1, 0] rfl)
    · have hf := it_e cd hf
      refine lv_iconst (v := 0) hx hb d_Parser_readTrier_44 (by decide) ?_
      obtain ⟨rfl, rfl⟩ := some2_e hf
      exact k_zret C w (by decide) d_Parser_readTrier_45
  · have hf := if_e cd hf
    refine lv_aload_n hx hb d_Parser_readTrier_14 rfl (lv_at hl 1 rfl) ?_
    refine lv_iconst (v := 5) hx hb d_Parser_readTrier_15 (by decide) ?_
    refine lv_aload_n hx hb d_Parser_readTrier_16 rfl (lv_at hl 1 rfl) ?_
    refine xg_3_reader C w k311 d_Parser_readTrier_17 ?_
    refine xg_4_start C w k208 d_Parser_readTrier_20 ?_
    obtain ⟨r_8, σ_9, h_7, hf⟩ := bd_e hf
    refine k_callV (As := [.int 5, .int (sI σ 9)]) (rest := []) C w (c_Parser_tell (q := qt q) h_7) cv_Parser_tell k584 (xr_3 C w) (by decide) hl.1 rfl (Nat.le_of_ble_eq_true rfl) d_Parser_readTrier_23 (fun H locs w => ?_)
    show WK p l e s m _ below meth c 4 g (wX g (qt q)) A (some (.int r)) σ2 H locs (F0 m 26 ls [.int r_8])
    obtain ⟨g_10, hf⟩ := gd_e hf
    obtain ⟨rfl, rfl⟩ := some2_e hf
    exact k_zret C w g_10 d_Parser_readTrier_26
def f_Parser_readMark (σ : St) : Option (Int32 × St) :=
  lt ((sI σ 13)) fun x_1 =>
  if x_1 < 6 then
    bp (f_Reader_step σ) fun σ_3 =>
    bd (f_Parser_passName σ_3) fun r_5 σ_6 =>
    if r_5 = (-1) then
      some (0, σ_6)
    else
      bd (f_Parser_passWord 1 σ_6) fun r_8 σ_9 =>
      if r_8 = 0 then
        some (0, σ_9)
      else
        bd (f_Parser_passNumber 1 99 σ_9) fun r_11 σ_12 =>
        if r_11 = (-1) then
          some (0, σ_12)
        else
          gd (inB x_1 6) <|
          lt (uA σ_12 2 (upd (sA σ_12 2) x_1.toNatClampNeg r_5)) fun σ_14 =>
          gd (inB x_1 6) <|
          lt (uA σ_14 3 (upd (sA σ_14 3) x_1.toNatClampNeg r_11)) fun σ_16 =>
          lt (uI σ_16 13 ((sI σ_16 13) + 1)) fun σ_17 =>
          some (1, σ_17)
  else
    bd (f_Parser_tell 5 (sI σ 9) σ) fun r_19 σ_20 =>
    gd (isB r_19) <|
    some (r_19, σ_20)
set_option maxHeartbeats 4000000 in
set_option maxRecDepth 20000 in
theorem c_Parser_readMark {l : Launch} {g : GX} {q : Nat → Nat}  {σ : St} {r : Int32} {σ2 : St} (hf : f_Parser_readMark   σ = some (r, σ2)) : KK l y_Parser_readMark prog_5_method_11_code 4 (some .boolean) 4 g (wX g (qt q)) σ [.ref (qt q 3)] (some (.int r)) (wX g (qt q)) σ2 := by
  refine KK_of (plainFor_of_name (by decide)) (Nat.le_of_ble_eq_true rfl) (fun p e s m below meth c A ls C w hl => ?_)
  have hl : lv_has ls 4 [(0, .ref (qt q 3))] := hl
  obtain ⟨hx, hb, hml, hown, hts, hK, hA, hZ, hlocks, hr, hN⟩ := id C
  unfold f_Parser_readMark at hf
  refine lv_aload_n hx hb d_Parser_readMark_0 rfl (lv_at hl 0 rfl) ?_
  refine xg_3_draft C w k312 d_Parser_readMark_1 ?_
  refine xg_6_marks C w k272 d_Parser_readMark_4 ?_
  refine lv_topi (fun x_1 ex_1 => ?_)
  have hf := lt_e ex_1 hf
  refine lv_istore_n (lv' := [(1, .int x_1), (0, .ref (qt q 3))]) hx hb d_Parser_readMark_7 rfl hl (by decide) rfl (fun ls hl => ?_)
  refine lv_iload_n hx hb d_Parser_readMark_8 rfl (lv_at hl 0 rfl) ?_
  refine lv_bipush (v := 6) hx hb d_Parser_readMark_9 (by decide) ?_
  refine lv_icmp_lt (tgt := 27) hx hb d_Parser_readMark_11 (by decide) (fun cd => ?_) (fun cd => ?_)
  · have hf := it_e cd hf
    refine lv_aload_n hx hb d_Parser_readMark_27 rfl (lv_at hl 1 rfl) ?_
    refine xg_3_reader C w k311 d_Parser_readMark_28 ?_
    obtain ⟨σ_3, h_2, hf⟩ := bp_e hf
    refine k_callV (As := []) (rest := []) C w (c_Reader_step (q := q) h_2) cv_Reader_step k600 (xr_4 C w) (by decide) hl.1 rfl (Nat.le_of_ble_eq_true rfl) d_Parser_readMark_31 (fun H locs w => ?_)
    show WK p l e s m _ below meth c 4 g (wX g (qt q)) A (some (.int r)) σ2 H locs (F0 m 34 ls [])
    refine lv_aload_n hx hb d_Parser_readMark_34 rfl (lv_at hl 1 rfl) ?_
    obtain ⟨r_5, σ_6, h_4, hf⟩ := bd_e hf
    refine k_callV (As := []) (rest := []) C w (c_Parser_passName (q := q) h_4) cv_Parser_passName k601 (xr_3 C w) (by decide) hl.1 rfl (Nat.le_of_ble_eq_true rfl) d_Parser_readMark_35 (fun H locs w => ?_)
    show WK p l e s m _ below meth c 4 g (wX g (qt q)) A (some (.int r)) σ2 H locs (F0 m 38 ls [.int r_5])
    refine lv_istore_n (lv' := [(2, .int r_5), (1, .int x_1), (0, .ref (qt q 3))]) hx hb d_Parser_readMark_38 rfl hl (by decide) rfl (fun ls hl => ?_)
    refine lv_iload_n hx hb d_Parser_readMark_39 rfl (lv_at hl 0 rfl) ?_
    refine lv_iconst (v := (-1)) hx hb d_Parser_readMark_40 (by decide) ?_
    refine lv_icmp_eq (tgt := 52) hx hb d_Parser_readMark_41 (by decide) (fun cd => ?_) (fun cd => ?_)
    · have hf := it_e cd hf
      refine lv_iconst (v := 0) hx hb d_Parser_readMark_52 (by decide) ?_
      obtain ⟨rfl, rfl⟩ := some2_e hf
      exact k_zret C w (by decide) d_Parser_readMark_53
    · have hf := if_e cd hf
      refine lv_aload_n hx hb d_Parser_readMark_44 rfl (lv_at hl 2 rfl) ?_
      refine lv_iconst (v := 1) hx hb d_Parser_readMark_45 (by decide) ?_
      obtain ⟨r_8, σ_9, h_7, hf⟩ := bd_e hf
      refine k_callV (As := [.int 1]) (rest := []) C w (c_Parser_passWord (q := q) h_7) cv_Parser_passWord k618 (xr_3 C w) (by decide) hl.1 rfl (Nat.le_of_ble_eq_true rfl) d_Parser_readMark_46 (fun H locs w => ?_)
      show WK p l e s m _ below meth c 4 g (wX g (qt q)) A (some (.int r)) σ2 H locs (F0 m 49 ls [.int r_8])
      refine lv_if_ne (tgt := 54) hx hb d_Parser_readMark_49 (by decide) (fun cd => ?_) (fun cd => ?_)
      · have hf := if_e cd hf
        refine lv_aload_n hx hb d_Parser_readMark_54 rfl (lv_at hl 2 rfl) ?_
        refine lv_iconst (v := 1) hx hb d_Parser_readMark_55 (by decide) ?_
        refine lv_bipush (v := 99) hx hb d_Parser_readMark_56 (by decide) ?_
        obtain ⟨r_11, σ_12, h_10, hf⟩ := bd_e hf
        refine k_callV (As := [.int 1, .int 99]) (rest := []) C w (c_Parser_passNumber (q := q) h_10) cv_Parser_passNumber k622 (xr_3 C w) (by decide) hl.1 rfl (Nat.le_of_ble_eq_true rfl) d_Parser_readMark_58 (fun H locs w => ?_)
        show WK p l e s m _ below meth c 4 g (wX g (qt q)) A (some (.int r)) σ2 H locs (F0 m 61 ls [.int r_11])
        refine lv_istore_n (lv' := [(3, .int r_11), (2, .int r_5), (1, .int x_1), (0, .ref (qt q 3))]) hx hb d_Parser_readMark_61 rfl hl (by decide) rfl (fun ls hl => ?_)
        refine lv_iload_n hx hb d_Parser_readMark_62 rfl (lv_at hl 0 rfl) ?_
        refine lv_iconst (v := (-1)) hx hb d_Parser_readMark_63 (by decide) ?_
        refine lv_icmp_ne (tgt := 69) hx hb d_Parser_readMark_64 (by decide) (fun cd => ?_) (fun cd => ?_)
        · have hf := if_e cd hf
          refine lv_aload_n hx hb d_Parser_readMark_69 rfl (lv_at hl 3 rfl) ?_
          refine xg_3_draft C w k312 d_Parser_readMark_70 ?_
          refine xg_6_markName C w k249 d_Parser_readMark_73 ?_
          refine lv_iload_n hx hb d_Parser_readMark_76 rfl (lv_at hl 2 rfl) ?_
          refine lv_iload_n hx hb d_Parser_readMark_77 rfl (lv_at hl 1 rfl) ?_
          obtain ⟨g_13, hf⟩ := gd_e hf
          refine xs_7 C w g_13 d_Parser_readMark_78 (fun σ_14 H locs eσ_14 w => ?_)
          have hf := lt_e eσ_14 hf
          refine lv_aload_n hx hb d_Parser_readMark_79 rfl (lv_at hl 3 rfl) ?_
          refine xg_3_draft C w k312 d_Parser_readMark_80 ?_
          refine xg_6_markHeight C w k252 d_Parser_readMark_83 ?_
          refine lv_iload_n hx hb d_Parser_readMark_86 rfl (lv_at hl 2 rfl) ?_
          refine lv_iload_n hx hb d_Parser_readMark_87 rfl (lv_at hl 0 rfl) ?_
          obtain ⟨g_15, hf⟩ := gd_e hf
          refine xs_8 C w g_15 d_Parser_readMark_88 (fun σ_16 H locs eσ_16 w => ?_)
          have hf := lt_e eσ_16 hf
          refine lv_aload_n hx hb d_Parser_readMark_89 rfl (lv_at hl 3 rfl) ?_
          refine xg_3_draft C w k312 d_Parser_readMark_90 ?_
          refine lv_dup hx hb d_Parser_readMark_93 rfl ?_
          refine xg_6_marks C w k272 d_Parser_readMark_94 ?_
          refine lv_iconst (v := 1) hx hb d_Parser_readMark_97 (by decide) ?_
          refine lv_iadd hx hb d_Parser_readMark_98 ?_
          refine xp_6_marks C w k272 d_Parser_readMark_99 (fun σ_17 H locs eσ_17 w => ?_)
          have hf := lt_e eσ_17 hf
          refine lv_iconst (v := 1) hx hb d_Parser_readMark_102 (by decide) ?_
          obtain ⟨rfl, rfl⟩ := some2_e hf
          exact k_zret C w (by decide) d_Parser_readMark_103
        · have hf := it_e cd hf
          refine lv_iconst (v := 0) hx hb d_Parser_readMark_67 (by decide) ?_
          obtain ⟨rfl, rfl⟩ := some2_e hf
          exact k_zret C w (by decide) d_Parser_readMark_68
      · have hf := it_e cd hf
        refine lv_iconst (v := 0) hx hb d_Parser_readMark_52 (by decide) ?_
        obtain ⟨rfl, rfl⟩ := some2_e hf
        exact k_zret C w (by decide) d_Parser_readMark_53
  · have hf := if_e cd hf
    refine lv_aload_n hx hb d_Parser_readMark_14 rfl (lv_at hl 1 rfl) ?_
    refine lv_iconst (v := 5) hx hb d_Parser_readMark_15 (by decide) ?_
    refine lv_aload_n hx hb d_Parser_readMark_16 rfl (lv_at hl 1 rfl) ?_
    refine xg_3_reader C w k311 d_Parser_readMark_17 ?_
    refine xg_4_start C w k208 d_Parser_readMark_20 ?_
    obtain ⟨r_19, σ_20, h_18, hf⟩ := bd_e hf
    refine k_callV (As := [.int 5, .int (sI σ 9)]) (rest := []) C w (c_Parser_tell (q := qt q) h_18) cv_Parser_tell k584 (xr_3 C w) (by decide) hl.1 rfl (Nat.le_of_ble_eq_true rfl) d_Parser_readMark_23 (fun H locs w => ?_)
    show WK p l e s m _ below meth c 4 g (wX g (qt q)) A (some (.int r)) σ2 H locs (F0 m 26 ls [.int r_19])
    obtain ⟨g_21, hf⟩ := gd_e hf
    obtain ⟨rfl, rfl⟩ := some2_e hf
    exact k_zret C w g_21 d_Parser_readMark_26
def f_Parser_readStatement_103b (k103 : Int32 → St → Option (Int32 × St)) (x1 : Int32) (σ : St) : Option (Int32 × St) :=
  if 6 ≤ x1 then
    bd (f_Parser_tellWrong σ) fun r_2 σ_3 =>
    gd (isB r_2) <|
    some (r_2, σ_3)
  else
    gd (inB x1 6) <|
    bp (f_Reader_isWord (stV 5 x1) σ) fun r_7 =>
    if r_7 = 0 then
      lt ((x1 + 1)) fun x_8 =>
      k103 x_8 σ
    else
      bp (f_Reader_step σ) fun σ_10 =>
      bd (f_Parser_readSetting x1 σ_10) fun r_12 σ_13 =>
      gd (isB r_12) <|
      some (r_12, σ_13)
def f_Parser_readStatement_103 : Nat → Int32 → St → Option (Int32 × St)
  | 0 => fun _ _ => none
  | n + 1 => f_Parser_readStatement_103b   (f_Parser_readStatement_103   n)
def f_Parser_readStatement (σ : St) : Option (Int32 × St) :=
  bp (f_Reader_isWord 0 σ) fun r_2 =>
  if r_2 = 0 then
    bp (f_Reader_isWord 2 σ) fun r_4 =>
    if r_4 = 0 then
      bp (f_Reader_isWord 9 σ) fun r_6 =>
      if r_6 = 0 then
        bp (f_Reader_isWord 17 σ) fun r_8 =>
        if r_8 = 0 then
          f_Parser_readStatement_103 FU 0 σ
        else
          bp (f_Reader_step σ) fun σ_10 =>
          bd (f_Parser_readSetting 6 σ_10) fun r_12 σ_13 =>
          if r_12 = 0 then
            some (0, σ_13)
          else
            bd (f_Parser_readSetting 7 σ_13) fun r_15 σ_16 =>
            if r_15 = 0 then
              some (0, σ_16)
            else
              bd (f_Parser_readSetting 8 σ_16) fun r_18 σ_19 =>
              if r_18 = 0 then
                some (0, σ_19)
              else
                some (1, σ_19)
      else
        bd (f_Parser_readLean σ) fun r_21 σ_22 =>
        gd (isB r_21) <|
        some (r_21, σ_22)
    else
      bd (f_Parser_readTrier σ) fun r_25 σ_26 =>
      gd (isB r_25) <|
      some (r_25, σ_26)
  else
    bd (f_Parser_readMark σ) fun r_29 σ_30 =>
    gd (isB r_29) <|
    some (r_29, σ_30)
set_option maxHeartbeats 4000000 in
set_option maxRecDepth 20000 in
theorem t_Parser_readStatement_103b {r : Int32} {σ2 : St} (C : Cx g A p s m av meth c prog_5_method_9_code 2 "BellHammer$Parser" (some .boolean)) {k103 : Int32 → St → Option (Int32 × St)} (hk103 : ∀ (x1 : Int32) (σ : St) (H : Heap) (locs : List Loc) (ls : Array Slot), k103 x1 σ = some (r, σ2) → Wd g (wX g (qt q)) A s σ H locs → lv_has ls 2 [(0, .ref (qt q 3)), (1, .int x1)] → WK p l e s m av below meth c 82 g (wX g (qt q)) A (some (.int r)) σ2 H locs (F0 m 103 ls []))  {x1 : Int32} {σ : St} {H : Heap} {locs : List Loc} {ls : Array Slot} (hf : f_Parser_readStatement_103b  k103 x1 σ = some (r, σ2)) (w : Wd g (wX g (qt q)) A s σ H locs) (hl : lv_has ls 2 [(0, .ref (qt q 3)), (1, .int x1)]) : WK p l e s m av below meth c 82 g (wX g (qt q)) A (some (.int r)) σ2 H locs (F0 m 103 ls []) := by
  obtain ⟨hx, hb, hml, hown, hts, hK, hA, hZ, hlocks, hr, hN⟩ := id C
  unfold f_Parser_readStatement_103b at hf
  refine lv_iload_n hx hb d_Parser_readStatement_103 rfl (lv_at hl 1 rfl) ?_
  refine r_gets C w 5 rfl k696 d_Parser_readStatement_104 ?_
  refine r_slen C w 5 rfl (v := 6) rfl d_Parser_readStatement_107 ?_
  refine lv_icmp_ge (tgt := 145) hx hb d_Parser_readStatement_108 (by decide) (fun cd => ?_) (fun cd => ?_)
  · have hf := it_e cd hf
    refine lv_aload_n hx hb d_Parser_readStatement_145 rfl (lv_at hl 0 rfl) ?_
    obtain ⟨r_2, σ_3, h_1, hf⟩ := bd_e hf
    refine k_callV (As := []) (rest := []) C w (c_Parser_tellWrong (q := qt q) h_1) cv_Parser_tellWrong k610 (xr_3 C w) (by decide) hl.1 rfl (Nat.le_of_ble_eq_true rfl) d_Parser_readStatement_146 (fun H locs w => ?_)
    show WK p l e s m av below meth c 82 g (wX g (qt q)) A (some (.int r)) σ2 H locs (F0 m 149 ls [.int r_2])
    obtain ⟨g_4, hf⟩ := gd_e hf
    obtain ⟨rfl, rfl⟩ := some2_e hf
    exact k_zret C w g_4 d_Parser_readStatement_149
  · have hf := if_e cd hf
    refine lv_aload_n hx hb d_Parser_readStatement_111 rfl (lv_at hl 0 rfl) ?_
    refine xg_3_reader C w k311 d_Parser_readStatement_112 ?_
    refine r_gets C w 5 rfl k696 d_Parser_readStatement_115 ?_
    refine lv_iload_n hx hb d_Parser_readStatement_118 rfl (lv_at hl 1 rfl) ?_
    obtain ⟨g_5, hf⟩ := gd_e hf
    refine r_sld C w 5 rfl g_5 d_Parser_readStatement_119 ?_
    obtain ⟨r_7, h_6, hf⟩ := bp_e hf
    refine k_callV (As := [.int (stV 5 x1)]) (rest := []) C w (c_Reader_isWord (q := qt q) h_6) cv_Reader_isWord k592 (xr_4 C w) (by decide) hl.1 rfl (Nat.le_of_ble_eq_true rfl) d_Parser_readStatement_120 (fun H locs w => ?_)
    show WK p l e s m av below meth c 82 g (wX g (qt q)) A (some (.int r)) σ2 H locs (F0 m 123 ls [.int r_7])
    refine lv_if_eq (tgt := 139) hx hb d_Parser_readStatement_123 (by decide) (fun cd => ?_) (fun cd => ?_)
    · have hf := it_e cd hf
      obtain ⟨x_8, ex_8⟩ : ∃ y : Int32, y = (x1 + 1) := ⟨_, rfl⟩
      have hf := lt_e ex_8 hf
      refine lv_iinc (v := x_8) (lv' := [(1, .int x_8), (0, .ref (qt q 3))]) hx hb d_Parser_readStatement_139 hl (k := 1) rfl (by rw [ex_8]; rfl) (by decide) rfl (fun ls hl => ?_)
      refine lv_goto (tgt := 103) hx hb d_Parser_readStatement_142 (by decide) ?_
      exact hk103 x_8 σ _ _ _ hf w (lv_sub hl [1, 0] rfl)
    · have hf := if_e cd hf
      refine lv_aload_n hx hb d_Parser_readStatement_126 rfl (lv_at hl 0 rfl) ?_
      refine xg_3_reader C w k311 d_Parser_readStatement_127 ?_
      obtain ⟨σ_10, h_9, hf⟩ := bp_e hf
      refine k_callV (As := []) (rest := []) C w (c_Reader_step (q := q) h_9) cv_Reader_step k600 (xr_4 C w) (by decide) hl.1 rfl (Nat.le_of_ble_eq_true rfl) d_Parser_readStatement_130 (fun H locs w => ?_)
      show WK p l e s m av below meth c 82 g (wX g (qt q)) A (some (.int r)) σ2 H locs (F0 m 133 ls [])
      refine lv_aload_n hx hb d_Parser_readStatement_133 rfl (lv_at hl 0 rfl) ?_
      refine lv_iload_n hx hb d_Parser_readStatement_134 rfl (lv_at hl 1 rfl) ?_
      obtain ⟨r_12, σ_13, h_11, hf⟩ := bd_e hf
      refine k_callV (As := [.int x1]) (rest := []) C w (c_Parser_readSetting (q := q) h_11) cv_Parser_readSetting k688 (xr_3 C w) (by decide) hl.1 rfl (Nat.le_of_ble_eq_true rfl) d_Parser_readStatement_135 (fun H locs w => ?_)
      show WK p l e s m av below meth c 82 g (wX g (qt q)) A (some (.int r)) σ2 H locs (F0 m 138 ls [.int r_12])
      obtain ⟨g_14, hf⟩ := gd_e hf
      obtain ⟨rfl, rfl⟩ := some2_e hf
      exact k_zret C w g_14 d_Parser_readStatement_138
set_option maxHeartbeats 4000000 in
set_option maxRecDepth 20000 in
theorem t_Parser_readStatement_103 {r : Int32} {σ2 : St} (C : Cx g A p s m av meth c prog_5_method_9_code 2 "BellHammer$Parser" (some .boolean))  : ∀ (n : Nat) (x1 : Int32) (σ : St) (H : Heap) (locs : List Loc) (ls : Array Slot), f_Parser_readStatement_103   n x1 σ = some (r, σ2) → Wd g (wX g (qt q)) A s σ H locs → lv_has ls 2 [(0, .ref (qt q 3)), (1, .int x1)] → WK p l e s m av below meth c 82 g (wX g (qt q)) A (some (.int r)) σ2 H locs (F0 m 103 ls []) := by
  intro n
  induction n with
  | zero => intro x1 σ H locs ls hf; exact absurd hf (by intro z; cases z)
  | succ n ih => intro x1 σ H locs ls hf w hl; exact t_Parser_readStatement_103b C  ih hf w hl
set_option maxHeartbeats 4000000 in
set_option maxRecDepth 20000 in
theorem c_Parser_readStatement {l : Launch} {g : GX} {q : Nat → Nat}  {σ : St} {r : Int32} {σ2 : St} (hf : f_Parser_readStatement   σ = some (r, σ2)) : KK l y_Parser_readStatement prog_5_method_9_code 2 (some .boolean) 82 g (wX g (qt q)) σ [.ref (qt q 3)] (some (.int r)) (wX g (qt q)) σ2 := by
  refine KK_of (plainFor_of_name (by decide)) (Nat.le_of_ble_eq_true rfl) (fun p e s m below meth c A ls C w hl => ?_)
  have hl : lv_has ls 2 [(0, .ref (qt q 3))] := hl
  obtain ⟨hx, hb, hml, hown, hts, hK, hA, hZ, hlocks, hr, hN⟩ := id C
  unfold f_Parser_readStatement at hf
  refine lv_aload_n hx hb d_Parser_readStatement_0 rfl (lv_at hl 0 rfl) ?_
  refine xg_3_reader C w k311 d_Parser_readStatement_1 ?_
  refine lv_iconst (v := 0) hx hb d_Parser_readStatement_4 (by decide) ?_
  obtain ⟨r_2, h_1, hf⟩ := bp_e hf
  refine k_callV (As := [.int 0]) (rest := []) C w (c_Reader_isWord (q := qt q) h_1) cv_Reader_isWord k592 (xr_4 C w) (by decide) hl.1 rfl (Nat.le_of_ble_eq_true rfl) d_Parser_readStatement_5 (fun H locs w => ?_)
  show WK p l e s m _ below meth c 82 g (wX g (qt q)) A (some (.int r)) σ2 H locs (F0 m 8 ls [.int r_2])
  refine lv_if_eq (tgt := 16) hx hb d_Parser_readStatement_8 (by decide) (fun cd => ?_) (fun cd => ?_)
  · have hf := it_e cd hf
    refine lv_aload_n hx hb d_Parser_readStatement_16 rfl (lv_at hl 0 rfl) ?_
    refine xg_3_reader C w k311 d_Parser_readStatement_17 ?_
    refine lv_iconst (v := 2) hx hb d_Parser_readStatement_20 (by decide) ?_
    obtain ⟨r_4, h_3, hf⟩ := bp_e hf
    refine k_callV (As := [.int 2]) (rest := []) C w (c_Reader_isWord (q := qt q) h_3) cv_Reader_isWord k592 (xr_4 C w) (by decide) hl.1 rfl (Nat.le_of_ble_eq_true rfl) d_Parser_readStatement_21 (fun H locs w => ?_)
    show WK p l e s m _ below meth c 82 g (wX g (qt q)) A (some (.int r)) σ2 H locs (F0 m 24 ls [.int r_4])
    refine lv_if_eq (tgt := 32) hx hb d_Parser_readStatement_24 (by decide) (fun cd => ?_) (fun cd => ?_)
    · have hf := it_e cd hf
      refine lv_aload_n hx hb d_Parser_readStatement_32 rfl (lv_at hl 0 rfl) ?_
      refine xg_3_reader C w k311 d_Parser_readStatement_33 ?_
      refine lv_bipush (v := 9) hx hb d_Parser_readStatement_36 (by decide) ?_
      obtain ⟨r_6, h_5, hf⟩ := bp_e hf
      refine k_callV (As := [.int 9]) (rest := []) C w (c_Reader_isWord (q := qt q) h_5) cv_Reader_isWord k592 (xr_4 C w) (by decide) hl.1 rfl (Nat.le_of_ble_eq_true rfl) d_Parser_readStatement_38 (fun H locs w => ?_)
      show WK p l e s m _ below meth c 82 g (wX g (qt q)) A (some (.int r)) σ2 H locs (F0 m 41 ls [.int r_6])
      refine lv_if_eq (tgt := 49) hx hb d_Parser_readStatement_41 (by decide) (fun cd => ?_) (fun cd => ?_)
      · have hf := it_e cd hf
        refine lv_aload_n hx hb d_Parser_readStatement_49 rfl (lv_at hl 0 rfl) ?_
        refine xg_3_reader C w k311 d_Parser_readStatement_50 ?_
        refine lv_bipush (v := 17) hx hb d_Parser_readStatement_53 (by decide) ?_
        obtain ⟨r_8, h_7, hf⟩ := bp_e hf
        refine k_callV (As := [.int 17]) (rest := []) C w (c_Reader_isWord (q := qt q) h_7) cv_Reader_isWord k592 (xr_4 C w) (by decide) hl.1 rfl (Nat.le_of_ble_eq_true rfl) d_Parser_readStatement_55 (fun H locs w => ?_)
        show WK p l e s m _ below meth c 82 g (wX g (qt q)) A (some (.int r)) σ2 H locs (F0 m 58 ls [.int r_8])
        refine lv_if_eq (tgt := 101) hx hb d_Parser_readStatement_58 (by decide) (fun cd => ?_) (fun cd => ?_)
        · have hf := it_e cd hf
          refine lv_iconst (v := 0) hx hb d_Parser_readStatement_101 (by decide) ?_
          refine lv_istore_n (lv' := [(1, .int 0), (0, .ref (qt q 3))]) hx hb d_Parser_readStatement_102 rfl hl (by decide) rfl (fun ls hl => ?_)
          exact t_Parser_readStatement_103 C  FU 0 σ _ _ _ hf w (lv_sub hl [1, 0] rfl)
        · have hf := if_e cd hf
          refine lv_aload_n hx hb d_Parser_readStatement_61 rfl (lv_at hl 0 rfl) ?_
          refine xg_3_reader C w k311 d_Parser_readStatement_62 ?_
          obtain ⟨σ_10, h_9, hf⟩ := bp_e hf
          refine k_callV (As := []) (rest := []) C w (c_Reader_step (q := q) h_9) cv_Reader_step k600 (xr_4 C w) (by decide) hl.1 rfl (Nat.le_of_ble_eq_true rfl) d_Parser_readStatement_65 (fun H locs w => ?_)
          show WK p l e s m _ below meth c 82 g (wX g (qt q)) A (some (.int r)) σ2 H locs (F0 m 68 ls [])
          refine lv_aload_n hx hb d_Parser_readStatement_68 rfl (lv_at hl 0 rfl) ?_
          refine lv_bipush (v := 6) hx hb d_Parser_readStatement_69 (by decide) ?_
          obtain ⟨r_12, σ_13, h_11, hf⟩ := bd_e hf
          refine k_callV (As := [.int 6]) (rest := []) C w (c_Parser_readSetting (q := q) h_11) cv_Parser_readSetting k688 (xr_3 C w) (by decide) hl.1 rfl (Nat.le_of_ble_eq_true rfl) d_Parser_readStatement_71 (fun H locs w => ?_)
          show WK p l e s m _ below meth c 82 g (wX g (qt q)) A (some (.int r)) σ2 H locs (F0 m 74 ls [.int r_12])
          refine lv_if_eq (tgt := 99) hx hb d_Parser_readStatement_74 (by decide) (fun cd => ?_) (fun cd => ?_)
          · have hf := it_e cd hf
            refine lv_iconst (v := 0) hx hb d_Parser_readStatement_99 (by decide) ?_
            obtain ⟨rfl, rfl⟩ := some2_e hf
            exact k_zret C w (by decide) d_Parser_readStatement_100
          · have hf := if_e cd hf
            refine lv_aload_n hx hb d_Parser_readStatement_77 rfl (lv_at hl 0 rfl) ?_
            refine lv_bipush (v := 7) hx hb d_Parser_readStatement_78 (by decide) ?_
            obtain ⟨r_15, σ_16, h_14, hf⟩ := bd_e hf
            refine k_callV (As := [.int 7]) (rest := []) C w (c_Parser_readSetting (q := q) h_14) cv_Parser_readSetting k688 (xr_3 C w) (by decide) hl.1 rfl (Nat.le_of_ble_eq_true rfl) d_Parser_readStatement_80 (fun H locs w => ?_)
            show WK p l e s m _ below meth c 82 g (wX g (qt q)) A (some (.int r)) σ2 H locs (F0 m 83 ls [.int r_15])
            refine lv_if_eq (tgt := 99) hx hb d_Parser_readStatement_83 (by decide) (fun cd => ?_) (fun cd => ?_)
            · have hf := it_e cd hf
              refine lv_iconst (v := 0) hx hb d_Parser_readStatement_99 (by decide) ?_
              obtain ⟨rfl, rfl⟩ := some2_e hf
              exact k_zret C w (by decide) d_Parser_readStatement_100
            · have hf := if_e cd hf
              refine lv_aload_n hx hb d_Parser_readStatement_86 rfl (lv_at hl 0 rfl) ?_
              refine lv_bipush (v := 8) hx hb d_Parser_readStatement_87 (by decide) ?_
              obtain ⟨r_18, σ_19, h_17, hf⟩ := bd_e hf
              refine k_callV (As := [.int 8]) (rest := []) C w (c_Parser_readSetting (q := q) h_17) cv_Parser_readSetting k688 (xr_3 C w) (by decide) hl.1 rfl (Nat.le_of_ble_eq_true rfl) d_Parser_readStatement_89 (fun H locs w => ?_)
              show WK p l e s m _ below meth c 82 g (wX g (qt q)) A (some (.int r)) σ2 H locs (F0 m 92 ls [.int r_18])
              refine lv_if_eq (tgt := 99) hx hb d_Parser_readStatement_92 (by decide) (fun cd => ?_) (fun cd => ?_)
              · have hf := it_e cd hf
                refine lv_iconst (v := 0) hx hb d_Parser_readStatement_99 (by decide) ?_
                obtain ⟨rfl, rfl⟩ := some2_e hf
                exact k_zret C w (by decide) d_Parser_readStatement_100
              · have hf := if_e cd hf
                refine lv_iconst (v := 1) hx hb d_Parser_readStatement_95 (by decide) ?_
                refine lv_goto (tgt := 100) hx hb d_Parser_readStatement_96 (by decide) ?_
                obtain ⟨rfl, rfl⟩ := some2_e hf
                exact k_zret C w (by decide) d_Parser_readStatement_100
      · have hf := if_e cd hf
        refine lv_aload_n hx hb d_Parser_readStatement_44 rfl (lv_at hl 0 rfl) ?_
        obtain ⟨r_21, σ_22, h_20, hf⟩ := bd_e hf
        refine k_callV (As := []) (rest := []) C w (c_Parser_readLean (q := q) h_20) cv_Parser_readLean k634 (xr_3 C w) (by decide) hl.1 rfl (Nat.le_of_ble_eq_true rfl) d_Parser_readStatement_45 (fun H locs w => ?_)
        show WK p l e s m _ below meth c 82 g (wX g (qt q)) A (some (.int r)) σ2 H locs (F0 m 48 ls [.int r_21])
        obtain ⟨g_23, hf⟩ := gd_e hf
        obtain ⟨rfl, rfl⟩ := some2_e hf
        exact k_zret C w g_23 d_Parser_readStatement_48
    · have hf := if_e cd hf
      refine lv_aload_n hx hb d_Parser_readStatement_27 rfl (lv_at hl 0 rfl) ?_
      obtain ⟨r_25, σ_26, h_24, hf⟩ := bd_e hf
      refine k_callV (As := []) (rest := []) C w (c_Parser_readTrier (q := q) h_24) cv_Parser_readTrier k626 (xr_3 C w) (by decide) hl.1 rfl (Nat.le_of_ble_eq_true rfl) d_Parser_readStatement_28 (fun H locs w => ?_)
      show WK p l e s m _ below meth c 82 g (wX g (qt q)) A (some (.int r)) σ2 H locs (F0 m 31 ls [.int r_25])
      obtain ⟨g_27, hf⟩ := gd_e hf
      obtain ⟨rfl, rfl⟩ := some2_e hf
      exact k_zret C w g_27 d_Parser_readStatement_31
  · have hf := if_e cd hf
    refine lv_aload_n hx hb d_Parser_readStatement_11 rfl (lv_at hl 0 rfl) ?_
    obtain ⟨r_29, σ_30, h_28, hf⟩ := bd_e hf
    refine k_callV (As := []) (rest := []) C w (c_Parser_readMark (q := q) h_28) cv_Parser_readMark k596 (xr_3 C w) (by decide) hl.1 rfl (Nat.le_of_ble_eq_true rfl) d_Parser_readStatement_12 (fun H locs w => ?_)
    show WK p l e s m _ below meth c 82 g (wX g (qt q)) A (some (.int r)) σ2 H locs (F0 m 15 ls [.int r_29])
    obtain ⟨g_31, hf⟩ := gd_e hf
    obtain ⟨rfl, rfl⟩ := some2_e hf
    exact k_zret C w g_31 d_Parser_readStatement_15
def f_Parser_parse_28b (k28 : Int32 → St → Option (Int32 × St)) (x3 : Int32) (σ : St) : Option (Int32 × St) :=
  if 70 < x3 then
    some (0, σ)
  else
    if (sI σ 8) = 0 then
      lt (uI σ 16 x3) fun σ_12 =>
      some (1, σ_12)
    else
      if x3 = 70 then
        bd (f_Parser_tell 5 (sI σ 9) σ) fun r_9 σ_10 =>
        gd (isB r_9) <|
        some (r_9, σ_10)
      else
        bd (f_Parser_readStatement σ) fun r_2 σ_3 =>
        if r_2 = 0 then
          some (0, σ_3)
        else
          bd (f_Parser_passSign 59 σ_3) fun r_5 σ_6 =>
          if r_5 = 0 then
            some (0, σ_6)
          else
            lt ((x3 + 1)) fun x_7 =>
            k28 x_7 σ_6
def f_Parser_parse_28 : Nat → Int32 → St → Option (Int32 × St)
  | 0 => fun _ _ => none
  | n + 1 => f_Parser_parse_28b   (f_Parser_parse_28   n)
def f_Parser_parse (x2 : Int32) (σ : St) : Option (Int32 × St) :=
  lt (uI σ 4 0) fun σ_1 =>
  lt (uI σ_1 5 (-1)) fun σ_2 =>
  bp (f_Fair_forget σ_2) fun σ_4 =>
  bp (f_Reader_begin x2 σ_4) fun σ_6 =>
  f_Parser_parse_28 FU 0 σ_6
set_option maxHeartbeats 4000000 in
set_option maxRecDepth 20000 in
theorem t_Parser_parse_28b {r : Int32} {σ2 : St} (C : Cx g A p s m av meth c prog_5_method_2_code 4 "BellHammer$Parser" (some .boolean)) {k28 : Int32 → St → Option (Int32 × St)} (hk28 : ∀ (x3 : Int32) (σ : St) (H : Heap) (locs : List Loc) (ls : Array Slot), k28 x3 σ = some (r, σ2) → Wd g (wX g (qt q)) A s σ H locs → lv_has ls 4 [(0, .ref (qt q 3)), (3, .int x3)] → WK p l e s m av below meth c 83 g (wX g (qt q)) A (some (.int r)) σ2 H locs (F0 m 28 ls []))  {x3 : Int32} {σ : St} {H : Heap} {locs : List Loc} {ls : Array Slot} (hf : f_Parser_parse_28b  k28 x3 σ = some (r, σ2)) (w : Wd g (wX g (qt q)) A s σ H locs) (hl : lv_has ls 4 [(0, .ref (qt q 3)), (3, .int x3)]) : WK p l e s m av below meth c 83 g (wX g (qt q)) A (some (.int r)) σ2 H locs (F0 m 28 ls []) := by
  obtain ⟨hx, hb, hml, hown, hts, hK, hA, hZ, hlocks, hr, hN⟩ := id C
  unfold f_Parser_parse_28b at hf
  refine lv_iload_n hx hb d_Parser_parse_28 rfl (lv_at hl 1 rfl) ?_
  refine lv_bipush (v := 70) hx hb d_Parser_parse_29 (by decide) ?_
  refine lv_icmp_gt (tgt := 97) hx hb d_Parser_parse_31 (by decide) (fun cd => ?_) (fun cd => ?_)
  · have hf := it_e cd hf
    refine lv_iconst (v := 0) hx hb d_Parser_parse_97 (by decide) ?_
    obtain ⟨rfl, rfl⟩ := some2_e hf
    exact k_zret C w (by decide) d_Parser_parse_98
  · have hf := if_e cd hf
    refine lv_aload_n hx hb d_Parser_parse_34 rfl (lv_at hl 0 rfl) ?_
    refine xg_3_reader C w k311 d_Parser_parse_35 ?_
    refine xg_4_kind C w k207 d_Parser_parse_38 ?_
    refine lv_if_ne (tgt := 54) hx hb d_Parser_parse_41 (by decide) (fun cd => ?_) (fun cd => ?_)
    · have hf := if_e cd hf
      refine lv_iload_n hx hb d_Parser_parse_54 rfl (lv_at hl 1 rfl) ?_
      refine lv_bipush (v := 70) hx hb d_Parser_parse_55 (by decide) ?_
      refine lv_icmp_ne (tgt := 73) hx hb d_Parser_parse_57 (by decide) (fun cd => ?_) (fun cd => ?_)
      · have hf := if_e cd hf
        refine lv_aload_n hx hb d_Parser_parse_73 rfl (lv_at hl 0 rfl) ?_
        obtain ⟨r_2, σ_3, h_1, hf⟩ := bd_e hf
        refine k_callV (As := []) (rest := []) C w (c_Parser_readStatement (q := q) h_1) cv_Parser_readStatement k588 (xr_3 C w) (by decide) hl.1 rfl (Nat.le_of_ble_eq_true rfl) d_Parser_parse_74 (fun H locs w => ?_)
        show WK p l e s m av below meth c 83 g (wX g (qt q)) A (some (.int r)) σ2 H locs (F0 m 77 ls [.int r_2])
        refine lv_if_eq (tgt := 89) hx hb d_Parser_parse_77 (by decide) (fun cd => ?_) (fun cd => ?_)
        · have hf := it_e cd hf
          refine lv_iconst (v := 0) hx hb d_Parser_parse_89 (by decide) ?_
          obtain ⟨rfl, rfl⟩ := some2_e hf
          exact k_zret C w (by decide) d_Parser_parse_90
        · have hf := if_e cd hf
          refine lv_aload_n hx hb d_Parser_parse_80 rfl (lv_at hl 0 rfl) ?_
          refine lv_bipush (v := 59) hx hb d_Parser_parse_81 (by decide) ?_
          obtain ⟨r_5, σ_6, h_4, hf⟩ := bd_e hf
          refine k_callV (As := [.int 59]) (rest := []) C w (c_Parser_passSign (q := q) h_4) cv_Parser_passSign k662 (xr_3 C w) (by decide) hl.1 rfl (Nat.le_of_ble_eq_true rfl) d_Parser_parse_83 (fun H locs w => ?_)
          show WK p l e s m av below meth c 83 g (wX g (qt q)) A (some (.int r)) σ2 H locs (F0 m 86 ls [.int r_5])
          refine lv_if_ne (tgt := 91) hx hb d_Parser_parse_86 (by decide) (fun cd => ?_) (fun cd => ?_)
          · have hf := if_e cd hf
            obtain ⟨x_7, ex_7⟩ : ∃ y : Int32, y = (x3 + 1) := ⟨_, rfl⟩
            have hf := lt_e ex_7 hf
            refine lv_iinc (v := x_7) (lv' := [(3, .int x_7), (0, .ref (qt q 3))]) hx hb d_Parser_parse_91 hl (k := 1) rfl (by rw [ex_7]; rfl) (by decide) rfl (fun ls hl => ?_)
            refine lv_goto (tgt := 28) hx hb d_Parser_parse_94 (by decide) ?_
            exact hk28 x_7 σ_6 _ _ _ hf w (lv_sub hl [1, 0] rfl)
          · have hf := it_e cd hf
            refine lv_iconst (v := 0) hx hb d_Parser_parse_89 (by decide) ?_
            obtain ⟨rfl, rfl⟩ := some2_e hf
            exact k_zret C w (by decide) d_Parser_parse_90
      · have hf := it_e cd hf
        refine lv_aload_n hx hb d_Parser_parse_60 rfl (lv_at hl 0 rfl) ?_
        refine lv_iconst (v := 5) hx hb d_Parser_parse_61 (by decide) ?_
        refine lv_aload_n hx hb d_Parser_parse_62 rfl (lv_at hl 0 rfl) ?_
        refine xg_3_reader C w k311 d_Parser_parse_63 ?_
        refine xg_4_start C w k208 d_Parser_parse_66 ?_
        obtain ⟨r_9, σ_10, h_8, hf⟩ := bd_e hf
        refine k_callV (As := [.int 5, .int (sI σ 9)]) (rest := []) C w (c_Parser_tell (q := qt q) h_8) cv_Parser_tell k584 (xr_3 C w) (by decide) hl.1 rfl (Nat.le_of_ble_eq_true rfl) d_Parser_parse_69 (fun H locs w => ?_)
        show WK p l e s m av below meth c 83 g (wX g (qt q)) A (some (.int r)) σ2 H locs (F0 m 72 ls [.int r_9])
        obtain ⟨g_11, hf⟩ := gd_e hf
        obtain ⟨rfl, rfl⟩ := some2_e hf
        exact k_zret C w g_11 d_Parser_parse_72
    · have hf := it_e cd hf
      refine lv_aload_n hx hb d_Parser_parse_44 rfl (lv_at hl 0 rfl) ?_
      refine xg_3_draft C w k312 d_Parser_parse_45 ?_
      refine lv_iload_n hx hb d_Parser_parse_48 rfl (lv_at hl 1 rfl) ?_
      refine xp_6_statements C w k284 d_Parser_parse_49 (fun σ_12 H locs eσ_12 w => ?_)
      have hf := lt_e eσ_12 hf
      refine lv_iconst (v := 1) hx hb d_Parser_parse_52 (by decide) ?_
      obtain ⟨rfl, rfl⟩ := some2_e hf
      exact k_zret C w (by decide) d_Parser_parse_53
set_option maxHeartbeats 4000000 in
set_option maxRecDepth 20000 in
theorem t_Parser_parse_28 {r : Int32} {σ2 : St} (C : Cx g A p s m av meth c prog_5_method_2_code 4 "BellHammer$Parser" (some .boolean))  : ∀ (n : Nat) (x3 : Int32) (σ : St) (H : Heap) (locs : List Loc) (ls : Array Slot), f_Parser_parse_28   n x3 σ = some (r, σ2) → Wd g (wX g (qt q)) A s σ H locs → lv_has ls 4 [(0, .ref (qt q 3)), (3, .int x3)] → WK p l e s m av below meth c 83 g (wX g (qt q)) A (some (.int r)) σ2 H locs (F0 m 28 ls []) := by
  intro n
  induction n with
  | zero => intro x3 σ H locs ls hf; exact absurd hf (by intro z; cases z)
  | succ n ih => intro x3 σ H locs ls hf w hl; exact t_Parser_parse_28b C  ih hf w hl
set_option maxHeartbeats 4000000 in
set_option maxRecDepth 20000 in
theorem c_Parser_parse {l : Launch} {g : GX} {q : Nat → Nat} {x2 : Int32}  {σ : St} {r : Int32} {σ2 : St} (hf : f_Parser_parse  x2 σ = some (r, σ2)) : KK l y_Parser_parse prog_5_method_2_code 4 (some .boolean) 83 g (wX g q) σ [.ref (q 3), .ref (q 2), .int x2] (some (.int r)) (wX g (qt q)) σ2 := by
  refine KK_of (plainFor_of_name (by decide)) (Nat.le_of_ble_eq_true rfl) (fun p e s m below meth c A ls C w hl => ?_)
  have hl : lv_has ls 4 [(0, .ref (q 3)), (1, .ref (q 2)), (2, .int x2)] := hl
  obtain ⟨hx, hb, hml, hown, hts, hK, hA, hZ, hlocks, hr, hN⟩ := id C
  unfold f_Parser_parse at hf
  refine lv_aload_n hx hb d_Parser_parse_0 rfl (lv_at hl 0 rfl) ?_
  refine lv_iconst (v := 0) hx hb d_Parser_parse_1 (by decide) ?_
  refine xp_3_fault C w k314 d_Parser_parse_2 (fun σ_1 H locs eσ_1 w => ?_)
  have hf := lt_e eσ_1 hf
  refine lv_aload_n hx hb d_Parser_parse_5 rfl (lv_at hl 0 rfl) ?_
  refine lv_iconst (v := (-1)) hx hb d_Parser_parse_6 (by decide) ?_
  refine xp_3_place C w k316 d_Parser_parse_7 (fun σ_2 H locs eσ_2 w => ?_)
  have hf := lt_e eσ_2 hf
  refine lv_aload_n hx hb d_Parser_parse_10 rfl (lv_at hl 0 rfl) ?_
  refine xg_3_draft C w k312 d_Parser_parse_11 ?_
  obtain ⟨σ_4, h_3, hf⟩ := bp_e hf
  refine k_callV (As := []) (rest := []) C w (c_Fair_forget (q := q) h_3) cv_Fair_forget k565 (xr_6 C w) (by decide) hl.1 rfl (Nat.le_of_ble_eq_true rfl) d_Parser_parse_14 (fun H locs w => ?_)
  show WK p l e s m _ below meth c 83 g (wX g (qt q)) A (some (.int r)) σ2 H locs (F0 m 17 ls [])
  refine lv_aload_n hx hb d_Parser_parse_17 rfl (lv_at hl 0 rfl) ?_
  refine xg_3_reader C w k311 d_Parser_parse_18 ?_
  refine lv_aload_n hx hb d_Parser_parse_21 rfl (lv_at hl 1 rfl) ?_
  refine lv_iload_n hx hb d_Parser_parse_22 rfl (lv_at hl 2 rfl) ?_
  obtain ⟨σ_6, h_5, hf⟩ := bp_e hf
  refine k_callV (As := [.ref (q 2), .int x2]) (rest := []) C w (c_Reader_begin (q := q) h_5) cv_Reader_begin k566 (xr_4 C w) (by decide) hl.1 rfl (Nat.le_of_ble_eq_true rfl) d_Parser_parse_23 (fun H locs w => ?_)
  have hl : lv_has ls 4 [(0, .ref (qt q 3)), (1, .ref (qt q 2)), (2, .int x2)] := hl
  show WK p l e s m _ below meth c 83 g (wX g (qt q)) A (some (.int r)) σ2 H locs (F0 m 26 ls [])
  refine lv_iconst (v := 0) hx hb d_Parser_parse_26 (by decide) ?_
  refine lv_istore_n (lv' := [(3, .int 0), (0, .ref (qt q 3)), (1, .ref (qt q 2)), (2, .int x2)]) hx hb d_Parser_parse_27 rfl hl (by decide) rfl (fun ls hl => ?_)
  exact t_Parser_parse_28 C  FU 0 σ_6 _ _ _ hf w (lv_sub hl [1, 0] rfl)
def f_Book_open (σ : St) : Option (St) :=
  lt (uI σ 17 0) fun σ_1 =>
  lt (uI σ_1 18 0) fun σ_2 =>
  lt (uI σ_2 19 ((1 <<< ((sI σ_2 55) &&& 31)) - 1)) fun σ_3 =>
  lt (uA σ_3 9 (va_cpy (sA σ_3 25) (sA σ_3 9) (0 : Int32).toNatClampNeg (0 : Int32).toNatClampNeg (3 : Int32).toNatClampNeg)) fun σ_4 =>
  lt (uI σ_4 23 0) fun σ_5 =>
  lt (uI σ_5 24 0) fun σ_6 =>
  some σ_6
set_option maxHeartbeats 4000000 in
set_option maxRecDepth 20000 in
theorem c_Book_open {l : Launch} {g : GX} {q : Nat → Nat}  {σ : St} {σ2 : St} (hf : f_Book_open   σ = some σ2) : KK l y_Book_open prog_2_method_2_code 2 none 1 g (wX g q) σ [.ref (q 14), .ref (q 34)] none (wX g q) σ2 := by
  refine KK_of (plainFor_of_name (by decide)) (Nat.le_of_ble_eq_true rfl) (fun p e s m below meth c A ls C w hl => ?_)
  have hl : lv_has ls 2 [(0, .ref (q 14)), (1, .ref (q 34))] := hl
  obtain ⟨hx, hb, hml, hown, hts, hK, hA, hZ, hlocks, hr, hN⟩ := id C
  unfold f_Book_open at hf
  refine lv_aload_n hx hb d_Book_open_0 rfl (lv_at hl 0 rfl) ?_
  refine lv_iconst (v := 0) hx hb d_Book_open_1 (by decide) ?_
  refine xp_14_nights C w k335 d_Book_open_2 (fun σ_1 H locs eσ_1 w => ?_)
  have hf := lt_e eσ_1 hf
  refine lv_aload_n hx hb d_Book_open_5 rfl (lv_at hl 0 rfl) ?_
  refine lv_iconst (v := 0) hx hb d_Book_open_6 (by decide) ?_
  refine xp_14_takings C w k337 d_Book_open_7 (fun σ_2 H locs eσ_2 w => ?_)
  have hf := lt_e eσ_2 hf
  refine lv_aload_n hx hb d_Book_open_10 rfl (lv_at hl 0 rfl) ?_
  refine lv_iconst (v := 1) hx hb d_Book_open_11 (by decide) ?_
  refine lv_aload_n hx hb d_Book_open_12 rfl (lv_at hl 1 rfl) ?_
  refine xg_34_rules C w k277 d_Book_open_13 ?_
  refine lv_ishl hx hb d_Book_open_16 ?_
  refine lv_iconst (v := 1) hx hb d_Book_open_17 (by decide) ?_
  refine lv_isub hx hb d_Book_open_18 ?_
  refine xp_14_inForce C w k339 d_Book_open_19 (fun σ_3 H locs eσ_3 w => ?_)
  have hf := lt_e eσ_3 hf
  refine lv_aload_n hx hb d_Book_open_22 rfl (lv_at hl 1 rfl) ?_
  refine xg_34_settings C w k259 d_Book_open_23 ?_
  refine lv_iconst (v := 0) hx hb d_Book_open_26 (by decide) ?_
  refine lv_aload_n hx hb d_Book_open_27 rfl (lv_at hl 0 rfl) ?_
  refine xg_14_now C w k341 d_Book_open_28 ?_
  refine lv_iconst (v := 0) hx hb d_Book_open_31 (by decide) ?_
  refine lv_iconst (v := 3) hx hb d_Book_open_32 (by decide) ?_
  refine xc_39_15 C w hl.1 (by omega) (Nat.le_of_ble_eq_true rfl) (by decide) (by decide) (by decide) (by decide) (by decide) k334 d_Book_open_33 (fun σ_4 H locs eσ_4 w => ?_)
  have hf := lt_e eσ_4 hf
  refine lv_aload_n hx hb d_Book_open_36 rfl (lv_at hl 0 rfl) ?_
  refine lv_iconst (v := 0) hx hb d_Book_open_37 (by decide) ?_
  refine xp_14_acts C w k349 d_Book_open_38 (fun σ_5 H locs eσ_5 w => ?_)
  have hf := lt_e eσ_5 hf
  refine lv_aload_n hx hb d_Book_open_41 rfl (lv_at hl 0 rfl) ?_
  refine lv_iconst (v := 0) hx hb d_Book_open_42 (by decide) ?_
  refine xp_14_keptBlows C w k355 d_Book_open_43 (fun σ_6 H locs eσ_6 w => ?_)
  have hf := lt_e eσ_6 hf
  cases some_e hf
  exact k_vret C w d_Book_open_46
def f_BH_fault (x1 : Int32) (σ : St) : Option (Int32) :=
  if x1 = 0 then
    some (sI σ 4)
  else
    if x1 = 1 then
      some (sI σ 5)
    else
      some (-1)
set_option maxHeartbeats 4000000 in
set_option maxRecDepth 20000 in
theorem c_BH_fault {l : Launch} {g : GX} {q : Nat → Nat} {x1 : Int32}  {σ : St} {r : Int32} (hf : f_BH_fault  x1 σ = some r) : KK l y_BH_fault prog_1_method_5_code 2 (some .int) 0 g (wX g q) σ [.ref (q 0), .int x1] (some (.int r)) (wX g q) σ := by
  refine KK_of (plainFor_of_name (by decide)) (Nat.le_of_ble_eq_true rfl) (fun p e s m below meth c A ls C w hl => ?_)
  have hl : lv_has ls 2 [(0, .ref (q 0)), (1, .int x1)] := hl
  obtain ⟨hx, hb, hml, hown, hts, hK, hA, hZ, hlocks, hr, hN⟩ := id C
  unfold f_BH_fault at hf
  refine lv_iload_n hx hb d_BH_fault_0 rfl (lv_at hl 1 rfl) ?_
  refine lv_if_ne (tgt := 12) hx hb d_BH_fault_1 (by decide) (fun cd => ?_) (fun cd => ?_)
  · have hf := if_e cd hf
    refine lv_iload_n hx hb d_BH_fault_12 rfl (lv_at hl 1 rfl) ?_
    refine lv_iconst (v := 1) hx hb d_BH_fault_13 (by decide) ?_
    refine lv_icmp_ne (tgt := 27) hx hb d_BH_fault_14 (by decide) (fun cd => ?_) (fun cd => ?_)
    · have hf := if_e cd hf
      refine lv_iconst (v := (-1)) hx hb d_BH_fault_27 (by decide) ?_
      cases some_e hf
      exact k_iret C w d_BH_fault_28
    · have hf := it_e cd hf
      refine lv_aload_n hx hb d_BH_fault_17 rfl (lv_at hl 0 rfl) ?_
      refine xg_0_parser C w k506 d_BH_fault_18 ?_
      refine xg_3_place C w k317 d_BH_fault_21 ?_
      refine lv_goto (tgt := 28) hx hb d_BH_fault_24 (by decide) ?_
      cases some_e hf
      exact k_iret C w d_BH_fault_28
  · have hf := it_e cd hf
    refine lv_aload_n hx hb d_BH_fault_4 rfl (lv_at hl 0 rfl) ?_
    refine xg_0_parser C w k506 d_BH_fault_5 ?_
    refine xg_3_fault C w k315 d_BH_fault_8 ?_
    cases some_e hf
    exact k_iret C w d_BH_fault_11
