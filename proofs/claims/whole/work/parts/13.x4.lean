variable {p : Program} {l : Launch} {e : Env} {s : State} {m : MethodId} {av : Array Value} {below : List Frame} {meth : Method} {c : Code} {g : GX} {q : Nat → Nat} {A : Nat → Prop}
theorem d_BH_leans_0 : decode prog_1_method_14_code 0 = .ok (.aload_n 0, 1) := by decide +kernel
theorem d_BH_leans_1 : decode prog_1_method_14_code 1 = .ok (.iload_n 1, 1) := by decide +kernel
theorem d_BH_leans_2 : decode prog_1_method_14_code 2 = .ok (.invokevirtual 144, 3) := by decide +kernel
theorem d_BH_leans_5 : decode prog_1_method_14_code 5 = .ok (.ifCond .eq 45, 3) := by decide +kernel
theorem d_BH_leans_8 : decode prog_1_method_14_code 8 = .ok (.iload_n 2, 1) := by decide +kernel
theorem d_BH_leans_9 : decode prog_1_method_14_code 9 = .ok (.sipush 999, 3) := by decide +kernel
theorem d_BH_leans_12 : decode prog_1_method_14_code 12 = .ok (.invokestatic 175, 3) := by decide +kernel
theorem d_BH_leans_15 : decode prog_1_method_14_code 15 = .ok (.ifCond .eq 35, 3) := by decide +kernel
theorem d_BH_leans_18 : decode prog_1_method_14_code 18 = .ok (.iload_n 3, 1) := by decide +kernel
theorem d_BH_leans_19 : decode prog_1_method_14_code 19 = .ok (.iconst 3, 1) := by decide +kernel
theorem d_BH_leans_20 : decode prog_1_method_14_code 20 = .ok (.invokestatic 175, 3) := by decide +kernel
theorem d_BH_leans_23 : decode prog_1_method_14_code 23 = .ok (.ifCond .eq 27, 3) := by decide +kernel
theorem d_BH_leans_26 : decode prog_1_method_14_code 26 = .ok (.iload 4, 2) := by decide +kernel
theorem d_BH_leans_28 : decode prog_1_method_14_code 28 = .ok (.bipush 99, 2) := by decide +kernel
theorem d_BH_leans_30 : decode prog_1_method_14_code 30 = .ok (.invokestatic 175, 3) := by decide +kernel
theorem d_BH_leans_33 : decode prog_1_method_14_code 33 = .ok (.ifCond .eq 17, 3) := by decide +kernel
theorem d_BH_leans_36 : decode prog_1_method_14_code 36 = .ok (.iload 5, 2) := by decide +kernel
theorem d_BH_leans_38 : decode prog_1_method_14_code 38 = .ok (.bipush 99, 2) := by decide +kernel
theorem d_BH_leans_40 : decode prog_1_method_14_code 40 = .ok (.invokestatic 175, 3) := by decide +kernel
theorem d_BH_leans_43 : decode prog_1_method_14_code 43 = .ok (.ifCond .eq 7, 3) := by decide +kernel
theorem d_BH_leans_46 : decode prog_1_method_14_code 46 = .ok (.iconst 1, 1) := by decide +kernel
theorem d_BH_leans_47 : decode prog_1_method_14_code 47 = .ok (.goto 4, 3) := by decide +kernel
theorem d_BH_leans_50 : decode prog_1_method_14_code 50 = .ok (.iconst 0, 1) := by decide +kernel
theorem d_BH_leans_51 : decode prog_1_method_14_code 51 = .ok (.istore 6, 2) := by decide +kernel
theorem d_BH_leans_53 : decode prog_1_method_14_code 53 = .ok (.iload 6, 2) := by decide +kernel
theorem d_BH_leans_55 : decode prog_1_method_14_code 55 = .ok (.ifCond .ne 5, 3) := by decide +kernel
theorem d_BH_leans_58 : decode prog_1_method_14_code 58 = .ok (.iconst (-1), 1) := by decide +kernel
theorem d_BH_leans_59 : decode prog_1_method_14_code 59 = .ok (.ireturn, 1) := by decide +kernel
theorem d_BH_leans_60 : decode prog_1_method_14_code 60 = .ok (.aload_n 0, 1) := by decide +kernel
theorem d_BH_leans_61 : decode prog_1_method_14_code 61 = .ok (.getfield 33, 3) := by decide +kernel
theorem d_BH_leans_64 : decode prog_1_method_14_code 64 = .ok (.iload_n 2, 1) := by decide +kernel
theorem d_BH_leans_65 : decode prog_1_method_14_code 65 = .ok (.iload_n 3, 1) := by decide +kernel
theorem d_BH_leans_66 : decode prog_1_method_14_code 66 = .ok (.iload 4, 2) := by decide +kernel
theorem d_BH_leans_68 : decode prog_1_method_14_code 68 = .ok (.iload 5, 2) := by decide +kernel
theorem d_BH_leans_70 : decode prog_1_method_14_code 70 = .ok (.invokevirtual 179, 3) := by decide +kernel
theorem d_BH_leans_73 : decode prog_1_method_14_code 73 = .ok (.aload_n 0, 1) := by decide +kernel
theorem d_BH_leans_74 : decode prog_1_method_14_code 74 = .ok (.getfield 33, 3) := by decide +kernel
theorem d_BH_leans_77 : decode prog_1_method_14_code 77 = .ok (.aload_n 0, 1) := by decide +kernel
theorem d_BH_leans_78 : decode prog_1_method_14_code 78 = .ok (.getfield 54, 3) := by decide +kernel
theorem d_BH_leans_81 : decode prog_1_method_14_code 81 = .ok (.iload_n 1, 1) := by decide +kernel
theorem d_BH_leans_82 : decode prog_1_method_14_code 82 = .ok (.iconst 5, 1) := by decide +kernel
theorem d_BH_leans_83 : decode prog_1_method_14_code 83 = .ok (.invokevirtual 150, 3) := by decide +kernel
theorem d_BH_leans_86 : decode prog_1_method_14_code 86 = .ok (.aload_n 0, 1) := by decide +kernel
theorem d_BH_leans_87 : decode prog_1_method_14_code 87 = .ok (.getfield 54, 3) := by decide +kernel
theorem d_BH_leans_90 : decode prog_1_method_14_code 90 = .ok (.iload_n 1, 1) := by decide +kernel
theorem d_BH_leans_91 : decode prog_1_method_14_code 91 = .ok (.iconst 3, 1) := by decide +kernel
theorem d_BH_leans_92 : decode prog_1_method_14_code 92 = .ok (.invokevirtual 150, 3) := by decide +kernel
theorem d_BH_leans_95 : decode prog_1_method_14_code 95 = .ok (.invokevirtual 183, 3) := by decide +kernel
theorem d_BH_leans_98 : decode prog_1_method_14_code 98 = .ok (.aload_n 0, 1) := by decide +kernel
theorem d_BH_leans_99 : decode prog_1_method_14_code 99 = .ok (.getfield 33, 3) := by decide +kernel
theorem d_BH_leans_102 : decode prog_1_method_14_code 102 = .ok (.aload_n 0, 1) := by decide +kernel
theorem d_BH_leans_103 : decode prog_1_method_14_code 103 = .ok (.getfield 54, 3) := by decide +kernel
theorem d_BH_leans_106 : decode prog_1_method_14_code 106 = .ok (.invokevirtual 187, 3) := by decide +kernel
theorem d_BH_leans_109 : decode prog_1_method_14_code 109 = .ok (.aload_n 0, 1) := by decide +kernel
theorem d_BH_leans_110 : decode prog_1_method_14_code 110 = .ok (.getfield 26, 3) := by decide +kernel
theorem d_BH_leans_113 : decode prog_1_method_14_code 113 = .ok (.getfield 111, 3) := by decide +kernel
theorem d_BH_leans_116 : decode prog_1_method_14_code 116 = .ok (.iand, 1) := by decide +kernel
theorem d_BH_leans_117 : decode prog_1_method_14_code 117 = .ok (.ifCond .eq 7, 3) := by decide +kernel
theorem d_BH_leans_120 : decode prog_1_method_14_code 120 = .ok (.iconst 1, 1) := by decide +kernel
theorem d_BH_leans_121 : decode prog_1_method_14_code 121 = .ok (.goto 4, 3) := by decide +kernel
theorem d_BH_leans_124 : decode prog_1_method_14_code 124 = .ok (.iconst 0, 1) := by decide +kernel
theorem d_BH_leans_125 : decode prog_1_method_14_code 125 = .ok (.ireturn, 1) := by decide +kernel
theorem d_Turn_coinsBehind_0 : decode prog_10_method_3_code 0 = .ok (.aload_n 0, 1) := by decide +kernel
theorem d_Turn_coinsBehind_1 : decode prog_10_method_3_code 1 = .ok (.getfield 31, 3) := by decide +kernel
theorem d_Turn_coinsBehind_4 : decode prog_10_method_3_code 4 = .ok (.iload_n 1, 1) := by decide +kernel
theorem d_Turn_coinsBehind_5 : decode prog_10_method_3_code 5 = .ok (.aload_n 0, 1) := by decide +kernel
theorem d_Turn_coinsBehind_6 : decode prog_10_method_3_code 6 = .ok (.getfield 46, 3) := by decide +kernel
theorem d_Turn_coinsBehind_9 : decode prog_10_method_3_code 9 = .ok (.imul, 1) := by decide +kernel
theorem d_Turn_coinsBehind_10 : decode prog_10_method_3_code 10 = .ok (.isub, 1) := by decide +kernel
theorem d_Turn_coinsBehind_11 : decode prog_10_method_3_code 11 = .ok (.ireturn, 1) := by decide +kernel
theorem d_Turn_isRing_0 : decode prog_10_method_6_code 0 = .ok (.iload_n 1, 1) := by decide +kernel
theorem d_Turn_isRing_1 : decode prog_10_method_6_code 1 = .ok (.aload_n 0, 1) := by decide +kernel
theorem d_Turn_isRing_2 : decode prog_10_method_6_code 2 = .ok (.getfield 40, 3) := by decide +kernel
theorem d_Turn_isRing_5 : decode prog_10_method_6_code 5 = .ok (.if_icmp .lt 7, 3) := by decide +kernel
theorem d_Turn_isRing_8 : decode prog_10_method_6_code 8 = .ok (.iconst 1, 1) := by decide +kernel
theorem d_Turn_isRing_9 : decode prog_10_method_6_code 9 = .ok (.goto 4, 3) := by decide +kernel
theorem d_Turn_isRing_12 : decode prog_10_method_6_code 12 = .ok (.iconst 0, 1) := by decide +kernel
theorem d_Turn_isRing_13 : decode prog_10_method_6_code 13 = .ok (.ireturn, 1) := by decide +kernel
theorem d_Turn_goesOn_0 : decode prog_10_method_4_code 0 = .ok (.iload_n 1, 1) := by decide +kernel
theorem d_Turn_goesOn_1 : decode prog_10_method_4_code 1 = .ok (.aload_n 0, 1) := by decide +kernel
theorem d_Turn_goesOn_2 : decode prog_10_method_4_code 2 = .ok (.getfield 52, 3) := by decide +kernel
theorem d_Turn_goesOn_5 : decode prog_10_method_4_code 5 = .ok (.if_icmp .ge 15, 3) := by decide +kernel
theorem d_Turn_goesOn_8 : decode prog_10_method_4_code 8 = .ok (.aload_n 0, 1) := by decide +kernel
theorem d_Turn_goesOn_9 : decode prog_10_method_4_code 9 = .ok (.iload_n 1, 1) := by decide +kernel
theorem d_Turn_goesOn_10 : decode prog_10_method_4_code 10 = .ok (.invokevirtual 67, 3) := by decide +kernel
theorem d_Turn_goesOn_13 : decode prog_10_method_4_code 13 = .ok (.aload_n 0, 1) := by decide +kernel
theorem d_Turn_goesOn_14 : decode prog_10_method_4_code 14 = .ok (.getfield 46, 3) := by decide +kernel
theorem d_Turn_goesOn_17 : decode prog_10_method_4_code 17 = .ok (.if_icmp .ge 5, 3) := by decide +kernel
theorem d_Turn_goesOn_20 : decode prog_10_method_4_code 20 = .ok (.iconst 0, 1) := by decide +kernel
theorem d_Turn_goesOn_21 : decode prog_10_method_4_code 21 = .ok (.ireturn, 1) := by decide +kernel
theorem d_Turn_goesOn_22 : decode prog_10_method_4_code 22 = .ok (.iload_n 1, 1) := by decide +kernel
theorem d_Turn_goesOn_23 : decode prog_10_method_4_code 23 = .ok (.ifCond .eq 24, 3) := by decide +kernel
theorem d_Turn_goesOn_26 : decode prog_10_method_4_code 26 = .ok (.aload_n 0, 1) := by decide +kernel
theorem d_Turn_goesOn_27 : decode prog_10_method_4_code 27 = .ok (.iload_n 2, 1) := by decide +kernel
theorem d_Turn_goesOn_28 : decode prog_10_method_4_code 28 = .ok (.invokevirtual 71, 3) := by decide +kernel
theorem d_Turn_goesOn_31 : decode prog_10_method_4_code 31 = .ok (.ifCond .ne 20, 3) := by decide +kernel
theorem d_Turn_goesOn_34 : decode prog_10_method_4_code 34 = .ok (.aload_n 0, 1) := by decide +kernel
theorem d_Turn_goesOn_35 : decode prog_10_method_4_code 35 = .ok (.getfield 40, 3) := by decide +kernel
theorem d_Turn_goesOn_38 : decode prog_10_method_4_code 38 = .ok (.iload_n 2, 1) := by decide +kernel
theorem d_Turn_goesOn_39 : decode prog_10_method_4_code 39 = .ok (.isub, 1) := by decide +kernel
theorem d_Turn_goesOn_40 : decode prog_10_method_4_code 40 = .ok (.aload_n 0, 1) := by decide +kernel
theorem d_Turn_goesOn_41 : decode prog_10_method_4_code 41 = .ok (.getfield 34, 3) := by decide +kernel
theorem d_Turn_goesOn_44 : decode prog_10_method_4_code 44 = .ok (.if_icmp .gt 7, 3) := by decide +kernel
theorem d_Turn_goesOn_47 : decode prog_10_method_4_code 47 = .ok (.iconst 1, 1) := by decide +kernel
theorem d_Turn_goesOn_48 : decode prog_10_method_4_code 48 = .ok (.goto 4, 3) := by decide +kernel
theorem d_Turn_goesOn_51 : decode prog_10_method_4_code 51 = .ok (.iconst 0, 1) := by decide +kernel
theorem d_Turn_goesOn_52 : decode prog_10_method_4_code 52 = .ok (.ireturn, 1) := by decide +kernel
theorem d_Tree_shareOf_0 : decode prog_9_method_7_code 0 = .ok (.aload_n 0, 1) := by decide +kernel
theorem d_Tree_shareOf_1 : decode prog_9_method_7_code 1 = .ok (.getfield 14, 3) := by decide +kernel
theorem d_Tree_shareOf_4 : decode prog_9_method_7_code 4 = .ok (.getfield 113, 3) := by decide +kernel
theorem d_Tree_shareOf_7 : decode prog_9_method_7_code 7 = .ok (.iconst 1, 1) := by decide +kernel
theorem d_Tree_shareOf_8 : decode prog_9_method_7_code 8 = .ok (.iadd, 1) := by decide +kernel
theorem d_Tree_shareOf_9 : decode prog_9_method_7_code 9 = .ok (.istore_n 3, 1) := by decide +kernel
theorem d_Tree_shareOf_10 : decode prog_9_method_7_code 10 = .ok (.iload_n 3, 1) := by decide +kernel
theorem d_Tree_shareOf_11 : decode prog_9_method_7_code 11 = .ok (.ifCond .gt 7, 3) := by decide +kernel
theorem d_Tree_shareOf_14 : decode prog_9_method_7_code 14 = .ok (.lconst 0, 1) := by decide +kernel
theorem d_Tree_shareOf_15 : decode prog_9_method_7_code 15 = .ok (.goto 7, 3) := by decide +kernel
theorem d_Tree_shareOf_18 : decode prog_9_method_7_code 18 = .ok (.lload_n 1, 1) := by decide +kernel
theorem d_Tree_shareOf_19 : decode prog_9_method_7_code 19 = .ok (.iload_n 3, 1) := by decide +kernel
theorem d_Tree_shareOf_20 : decode prog_9_method_7_code 20 = .ok (.i2l, 1) := by decide +kernel
theorem d_Tree_shareOf_21 : decode prog_9_method_7_code 21 = .ok (.ldiv, 1) := by decide +kernel
theorem d_Tree_shareOf_22 : decode prog_9_method_7_code 22 = .ok (.lreturn, 1) := by decide +kernel
theorem d_Turn_isNear_0 : decode prog_10_method_7_code 0 = .ok (.iload_n 1, 1) := by decide +kernel
theorem d_Turn_isNear_1 : decode prog_10_method_7_code 1 = .ok (.aload_n 0, 1) := by decide +kernel
theorem d_Turn_isNear_2 : decode prog_10_method_7_code 2 = .ok (.getfield 40, 3) := by decide +kernel
theorem d_Turn_isNear_5 : decode prog_10_method_7_code 5 = .ok (.if_icmp .ge 20, 3) := by decide +kernel
theorem d_Turn_isNear_8 : decode prog_10_method_7_code 8 = .ok (.aload_n 0, 1) := by decide +kernel
theorem d_Turn_isNear_9 : decode prog_10_method_7_code 9 = .ok (.getfield 40, 3) := by decide +kernel
theorem d_Turn_isNear_12 : decode prog_10_method_7_code 12 = .ok (.iload_n 1, 1) := by decide +kernel
theorem d_Turn_isNear_13 : decode prog_10_method_7_code 13 = .ok (.isub, 1) := by decide +kernel
theorem d_Turn_isNear_14 : decode prog_10_method_7_code 14 = .ok (.aload_n 0, 1) := by decide +kernel
theorem d_Turn_isNear_15 : decode prog_10_method_7_code 15 = .ok (.getfield 55, 3) := by decide +kernel
theorem d_Turn_isNear_18 : decode prog_10_method_7_code 18 = .ok (.if_icmp .gt 7, 3) := by decide +kernel
theorem d_Turn_isNear_21 : decode prog_10_method_7_code 21 = .ok (.iconst 1, 1) := by decide +kernel
theorem d_Turn_isNear_22 : decode prog_10_method_7_code 22 = .ok (.goto 4, 3) := by decide +kernel
theorem d_Turn_isNear_25 : decode prog_10_method_7_code 25 = .ok (.iconst 0, 1) := by decide +kernel
theorem d_Turn_isNear_26 : decode prog_10_method_7_code 26 = .ok (.ireturn, 1) := by decide +kernel
theorem d_Turn_brings_0 : decode prog_10_method_8_code 0 = .ok (.aload_n 0, 1) := by decide +kernel
theorem d_Turn_brings_1 : decode prog_10_method_8_code 1 = .ok (.iload_n 1, 1) := by decide +kernel
theorem d_Turn_brings_2 : decode prog_10_method_8_code 2 = .ok (.invokevirtual 71, 3) := by decide +kernel
theorem d_Turn_brings_5 : decode prog_10_method_8_code 5 = .ok (.ifCond .eq 10, 3) := by decide +kernel
theorem d_Turn_brings_8 : decode prog_10_method_8_code 8 = .ok (.aload_n 0, 1) := by decide +kernel
theorem d_Turn_brings_9 : decode prog_10_method_8_code 9 = .ok (.getfield 9, 3) := by decide +kernel
theorem d_Turn_brings_12 : decode prog_10_method_8_code 12 = .ok (.iconst 0, 1) := by decide +kernel
theorem d_Turn_brings_13 : decode prog_10_method_8_code 13 = .ok (.iaload, 1) := by decide +kernel
theorem d_Turn_brings_14 : decode prog_10_method_8_code 14 = .ok (.ireturn, 1) := by decide +kernel
theorem d_Turn_brings_15 : decode prog_10_method_8_code 15 = .ok (.aload_n 0, 1) := by decide +kernel
theorem d_Turn_brings_16 : decode prog_10_method_8_code 16 = .ok (.iload_n 1, 1) := by decide +kernel
theorem d_Turn_brings_17 : decode prog_10_method_8_code 17 = .ok (.invokevirtual 87, 3) := by decide +kernel
theorem d_Turn_brings_20 : decode prog_10_method_8_code 20 = .ok (.ifCond .eq 12, 3) := by decide +kernel
theorem d_Turn_brings_23 : decode prog_10_method_8_code 23 = .ok (.aload_n 0, 1) := by decide +kernel
theorem d_Turn_brings_24 : decode prog_10_method_8_code 24 = .ok (.getfield 9, 3) := by decide +kernel
theorem d_Turn_brings_27 : decode prog_10_method_8_code 27 = .ok (.iconst 1, 1) := by decide +kernel
theorem d_Turn_brings_28 : decode prog_10_method_8_code 28 = .ok (.iaload, 1) := by decide +kernel
theorem d_Turn_brings_29 : decode prog_10_method_8_code 29 = .ok (.goto 9, 3) := by decide +kernel
theorem d_Turn_brings_32 : decode prog_10_method_8_code 32 = .ok (.aload_n 0, 1) := by decide +kernel
theorem d_Turn_brings_33 : decode prog_10_method_8_code 33 = .ok (.getfield 9, 3) := by decide +kernel
theorem d_Turn_brings_36 : decode prog_10_method_8_code 36 = .ok (.iconst 2, 1) := by decide +kernel
theorem d_Turn_brings_37 : decode prog_10_method_8_code 37 = .ok (.iaload, 1) := by decide +kernel
theorem d_Turn_brings_38 : decode prog_10_method_8_code 38 = .ok (.ireturn, 1) := by decide +kernel
theorem d_Tree_goOn_0 : decode prog_9_method_6_code 0 = .ok (.iload_n 3, 1) := by decide +kernel
theorem d_Tree_goOn_1 : decode prog_9_method_6_code 1 = .ok (.iconst 4, 1) := by decide +kernel
theorem d_Tree_goOn_2 : decode prog_9_method_6_code 2 = .ok (.if_icmp .ge 16, 3) := by decide +kernel
theorem d_Tree_goOn_5 : decode prog_9_method_6_code 5 = .ok (.aload_n 0, 1) := by decide +kernel
theorem d_Tree_goOn_6 : decode prog_9_method_6_code 6 = .ok (.getfield 14, 3) := by decide +kernel
theorem d_Tree_goOn_9 : decode prog_9_method_6_code 9 = .ok (.iload_n 3, 1) := by decide +kernel
theorem d_Tree_goOn_10 : decode prog_9_method_6_code 10 = .ok (.iload 5, 2) := by decide +kernel
theorem d_Tree_goOn_12 : decode prog_9_method_6_code 12 = .ok (.invokevirtual 77, 3) := by decide +kernel
theorem d_Tree_goOn_15 : decode prog_9_method_6_code 15 = .ok (.ifCond .ne 43, 3) := by decide +kernel
theorem d_Tree_goOn_18 : decode prog_9_method_6_code 18 = .ok (.aload_n 0, 1) := by decide +kernel
theorem d_Tree_goOn_19 : decode prog_9_method_6_code 19 = .ok (.aload_n 0, 1) := by decide +kernel
theorem d_Tree_goOn_20 : decode prog_9_method_6_code 20 = .ok (.getfield 51, 3) := by decide +kernel
theorem d_Tree_goOn_23 : decode prog_9_method_6_code 23 = .ok (.iload_n 3, 1) := by decide +kernel
theorem d_Tree_goOn_24 : decode prog_9_method_6_code 24 = .ok (.invokestatic 81, 3) := by decide +kernel
theorem d_Tree_goOn_27 : decode prog_9_method_6_code 27 = .ok (.putfield 51, 3) := by decide +kernel
theorem d_Tree_goOn_30 : decode prog_9_method_6_code 30 = .ok (.aload_n 0, 1) := by decide +kernel
theorem d_Tree_goOn_31 : decode prog_9_method_6_code 31 = .ok (.aload_n 0, 1) := by decide +kernel
theorem d_Tree_goOn_32 : decode prog_9_method_6_code 32 = .ok (.getfield 54, 3) := by decide +kernel
theorem d_Tree_goOn_35 : decode prog_9_method_6_code 35 = .ok (.iload_n 3, 1) := by decide +kernel
theorem d_Tree_goOn_36 : decode prog_9_method_6_code 36 = .ok (.invokestatic 87, 3) := by decide +kernel
theorem d_Tree_goOn_39 : decode prog_9_method_6_code 39 = .ok (.putfield 54, 3) := by decide +kernel
theorem d_Tree_goOn_42 : decode prog_9_method_6_code 42 = .ok (.aload_n 0, 1) := by decide +kernel
theorem d_Tree_goOn_43 : decode prog_9_method_6_code 43 = .ok (.dup, 1) := by decide +kernel
theorem d_Tree_goOn_44 : decode prog_9_method_6_code 44 = .ok (.getfield 60, 3) := by decide +kernel
theorem d_Tree_goOn_47 : decode prog_9_method_6_code 47 = .ok (.lload 6, 2) := by decide +kernel
theorem d_Tree_goOn_49 : decode prog_9_method_6_code 49 = .ok (.iload 4, 2) := by decide +kernel
theorem d_Tree_goOn_51 : decode prog_9_method_6_code 51 = .ok (.i2l, 1) := by decide +kernel
theorem d_Tree_goOn_52 : decode prog_9_method_6_code 52 = .ok (.lmul, 1) := by decide +kernel
theorem d_Tree_goOn_53 : decode prog_9_method_6_code 53 = .ok (.ladd, 1) := by decide +kernel
theorem d_Tree_goOn_54 : decode prog_9_method_6_code 54 = .ok (.putfield 60, 3) := by decide +kernel
theorem d_Tree_goOn_57 : decode prog_9_method_6_code 57 = .ok (.return_, 1) := by decide +kernel
theorem d_Tree_goOn_58 : decode prog_9_method_6_code 58 = .ok (.aload_n 0, 1) := by decide +kernel
theorem d_Tree_goOn_59 : decode prog_9_method_6_code 59 = .ok (.getfield 21, 3) := by decide +kernel
theorem d_Tree_goOn_62 : decode prog_9_method_6_code 62 = .ok (.iload 4, 2) := by decide +kernel
theorem d_Tree_goOn_64 : decode prog_9_method_6_code 64 = .ok (.iload_n 3, 1) := by decide +kernel
theorem d_Tree_goOn_65 : decode prog_9_method_6_code 65 = .ok (.iload 5, 2) := by decide +kernel
theorem d_Tree_goOn_67 : decode prog_9_method_6_code 67 = .ok (.iconst 0, 1) := by decide +kernel
theorem d_Tree_goOn_68 : decode prog_9_method_6_code 68 = .ok (.invokevirtual 90, 3) := by decide +kernel
theorem d_Tree_goOn_71 : decode prog_9_method_6_code 71 = .ok (.aload_n 0, 1) := by decide +kernel
theorem d_Tree_goOn_72 : decode prog_9_method_6_code 72 = .ok (.getfield 21, 3) := by decide +kernel
theorem d_Tree_goOn_75 : decode prog_9_method_6_code 75 = .ok (.aload_n 0, 1) := by decide +kernel
theorem d_Tree_goOn_76 : decode prog_9_method_6_code 76 = .ok (.getfield 14, 3) := by decide +kernel
theorem d_Tree_goOn_79 : decode prog_9_method_6_code 79 = .ok (.getfield 94, 3) := by decide +kernel
theorem d_Tree_goOn_82 : decode prog_9_method_6_code 82 = .ok (.aload_n 0, 1) := by decide +kernel
theorem d_Tree_goOn_83 : decode prog_9_method_6_code 83 = .ok (.getfield 14, 3) := by decide +kernel
theorem d_Tree_goOn_86 : decode prog_9_method_6_code 86 = .ok (.iload_n 3, 1) := by decide +kernel
theorem d_Tree_goOn_87 : decode prog_9_method_6_code 87 = .ok (.invokevirtual 97, 3) := by decide +kernel
theorem d_Tree_goOn_90 : decode prog_9_method_6_code 90 = .ok (.invokevirtual 101, 3) := by decide +kernel
theorem d_Tree_goOn_93 : decode prog_9_method_6_code 93 = .ok (.iload_n 2, 1) := by decide +kernel
theorem d_Tree_goOn_94 : decode prog_9_method_6_code 94 = .ok (.ifCond .eq 20, 3) := by decide +kernel
theorem d_Tree_goOn_97 : decode prog_9_method_6_code 97 = .ok (.aload_n 0, 1) := by decide +kernel
theorem d_Tree_goOn_98 : decode prog_9_method_6_code 98 = .ok (.getfield 21, 3) := by decide +kernel
theorem d_Tree_goOn_101 : decode prog_9_method_6_code 101 = .ok (.aload_n 1, 1) := by decide +kernel
theorem d_Tree_goOn_102 : decode prog_9_method_6_code 102 = .ok (.invokevirtual 105, 3) := by decide +kernel
theorem d_Tree_goOn_105 : decode prog_9_method_6_code 105 = .ok (.iload_n 2, 1) := by decide +kernel
theorem d_Tree_goOn_106 : decode prog_9_method_6_code 106 = .ok (.iand, 1) := by decide +kernel
theorem d_Tree_goOn_107 : decode prog_9_method_6_code 107 = .ok (.ifCond .eq 7, 3) := by decide +kernel
theorem d_Tree_goOn_110 : decode prog_9_method_6_code 110 = .ok (.iconst 1, 1) := by decide +kernel
theorem d_Tree_goOn_111 : decode prog_9_method_6_code 111 = .ok (.goto 4, 3) := by decide +kernel
theorem d_Tree_goOn_114 : decode prog_9_method_6_code 114 = .ok (.iconst 0, 1) := by decide +kernel
theorem d_Tree_goOn_115 : decode prog_9_method_6_code 115 = .ok (.istore 9, 2) := by decide +kernel
theorem d_Tree_goOn_117 : decode prog_9_method_6_code 117 = .ok (.aload_n 0, 1) := by decide +kernel
theorem d_Tree_goOn_118 : decode prog_9_method_6_code 118 = .ok (.dup, 1) := by decide +kernel
theorem d_Tree_goOn_119 : decode prog_9_method_6_code 119 = .ok (.getfield 44, 3) := by decide +kernel
theorem d_Tree_goOn_122 : decode prog_9_method_6_code 122 = .ok (.lload 6, 2) := by decide +kernel
theorem d_Tree_goOn_124 : decode prog_9_method_6_code 124 = .ok (.ladd, 1) := by decide +kernel
theorem d_Tree_goOn_125 : decode prog_9_method_6_code 125 = .ok (.putfield 44, 3) := by decide +kernel
theorem d_Tree_goOn_128 : decode prog_9_method_6_code 128 = .ok (.iload 9, 2) := by decide +kernel
theorem d_Tree_goOn_130 : decode prog_9_method_6_code 130 = .ok (.ifCond .eq 19, 3) := by decide +kernel
theorem d_Tree_goOn_133 : decode prog_9_method_6_code 133 = .ok (.iload 8, 2) := by decide +kernel
theorem d_Tree_goOn_135 : decode prog_9_method_6_code 135 = .ok (.ifCond .ne 14, 3) := by decide +kernel
theorem d_Tree_goOn_138 : decode prog_9_method_6_code 138 = .ok (.aload_n 0, 1) := by decide +kernel
theorem d_Tree_goOn_139 : decode prog_9_method_6_code 139 = .ok (.dup, 1) := by decide +kernel
theorem d_Tree_goOn_140 : decode prog_9_method_6_code 140 = .ok (.getfield 57, 3) := by decide +kernel
theorem d_Tree_goOn_143 : decode prog_9_method_6_code 143 = .ok (.lload 6, 2) := by decide +kernel
theorem d_Tree_goOn_145 : decode prog_9_method_6_code 145 = .ok (.ladd, 1) := by decide +kernel
theorem d_Tree_goOn_146 : decode prog_9_method_6_code 146 = .ok (.putfield 57, 3) := by decide +kernel
theorem d_Tree_goOn_149 : decode prog_9_method_6_code 149 = .ok (.aload_n 0, 1) := by decide +kernel
theorem d_Tree_goOn_150 : decode prog_9_method_6_code 150 = .ok (.lload 6, 2) := by decide +kernel
theorem d_Tree_goOn_152 : decode prog_9_method_6_code 152 = .ok (.invokevirtual 109, 3) := by decide +kernel
theorem d_Tree_goOn_155 : decode prog_9_method_6_code 155 = .ok (.lstore 10, 2) := by decide +kernel
theorem d_Tree_goOn_157 : decode prog_9_method_6_code 157 = .ok (.iconst 0, 1) := by decide +kernel
theorem d_Tree_goOn_158 : decode prog_9_method_6_code 158 = .ok (.istore 12, 2) := by decide +kernel
theorem d_Tree_goOn_160 : decode prog_9_method_6_code 160 = .ok (.iload 12, 2) := by decide +kernel
theorem d_Tree_goOn_162 : decode prog_9_method_6_code 162 = .ok (.aload_n 0, 1) := by decide +kernel
theorem d_Tree_goOn_163 : decode prog_9_method_6_code 163 = .ok (.getfield 14, 3) := by decide +kernel
theorem d_Tree_goOn_166 : decode prog_9_method_6_code 166 = .ok (.getfield 113, 3) := by decide +kernel
theorem d_Tree_goOn_169 : decode prog_9_method_6_code 169 = .ok (.if_icmp .gt 96, 3) := by decide +kernel
theorem d_Tree_goOn_172 : decode prog_9_method_6_code 172 = .ok (.aload_n 0, 1) := by decide +kernel
theorem d_Tree_goOn_173 : decode prog_9_method_6_code 173 = .ok (.getfield 14, 3) := by decide +kernel
theorem d_Tree_goOn_176 : decode prog_9_method_6_code 176 = .ok (.iload_n 3, 1) := by decide +kernel
theorem d_Tree_goOn_177 : decode prog_9_method_6_code 177 = .ok (.iload 12, 2) := by decide +kernel
theorem d_Tree_goOn_179 : decode prog_9_method_6_code 179 = .ok (.iload 9, 2) := by decide +kernel
theorem d_Tree_goOn_181 : decode prog_9_method_6_code 181 = .ok (.invokevirtual 116, 3) := by decide +kernel
theorem d_Tree_goOn_184 : decode prog_9_method_6_code 184 = .ok (.istore 13, 2) := by decide +kernel
theorem d_Tree_goOn_186 : decode prog_9_method_6_code 186 = .ok (.aload_n 0, 1) := by decide +kernel
theorem d_Tree_goOn_187 : decode prog_9_method_6_code 187 = .ok (.getfield 14, 3) := by decide +kernel
theorem d_Tree_goOn_190 : decode prog_9_method_6_code 190 = .ok (.iload 13, 2) := by decide +kernel
theorem d_Tree_goOn_192 : decode prog_9_method_6_code 192 = .ok (.invokevirtual 120, 3) := by decide +kernel
theorem d_Tree_goOn_195 : decode prog_9_method_6_code 195 = .ok (.ifCond .eq 14, 3) := by decide +kernel
theorem d_Tree_goOn_198 : decode prog_9_method_6_code 198 = .ok (.aload_n 0, 1) := by decide +kernel
theorem d_Tree_goOn_199 : decode prog_9_method_6_code 199 = .ok (.dup, 1) := by decide +kernel
theorem d_Tree_goOn_200 : decode prog_9_method_6_code 200 = .ok (.getfield 36, 3) := by decide +kernel
theorem d_Tree_goOn_203 : decode prog_9_method_6_code 203 = .ok (.lload 10, 2) := by decide +kernel
theorem d_Tree_goOn_205 : decode prog_9_method_6_code 205 = .ok (.ladd, 1) := by decide +kernel
theorem d_Tree_goOn_206 : decode prog_9_method_6_code 206 = .ok (.putfield 36, 3) := by decide +kernel
theorem d_Tree_goOn_209 : decode prog_9_method_6_code 209 = .ok (.sipush 999, 3) := by decide +kernel
theorem d_Tree_goOn_212 : decode prog_9_method_6_code 212 = .ok (.iload 4, 2) := by decide +kernel
theorem d_Tree_goOn_214 : decode prog_9_method_6_code 214 = .ok (.aload_n 0, 1) := by decide +kernel
theorem d_Tree_goOn_215 : decode prog_9_method_6_code 215 = .ok (.getfield 14, 3) := by decide +kernel
theorem d_Tree_goOn_218 : decode prog_9_method_6_code 218 = .ok (.iload 13, 2) := by decide +kernel
theorem d_Tree_goOn_220 : decode prog_9_method_6_code 220 = .ok (.invokevirtual 124, 3) := by decide +kernel
theorem d_Tree_goOn_223 : decode prog_9_method_6_code 223 = .ok (.iadd, 1) := by decide +kernel
theorem d_Tree_goOn_224 : decode prog_9_method_6_code 224 = .ok (.invokestatic 81, 3) := by decide +kernel
theorem d_Tree_goOn_227 : decode prog_9_method_6_code 227 = .ok (.istore 14, 2) := by decide +kernel
theorem d_Tree_goOn_229 : decode prog_9_method_6_code 229 = .ok (.aload_n 0, 1) := by decide +kernel
theorem d_Tree_goOn_230 : decode prog_9_method_6_code 230 = .ok (.aload_n 1, 1) := by decide +kernel
theorem d_Tree_goOn_231 : decode prog_9_method_6_code 231 = .ok (.iload_n 2, 1) := by decide +kernel
theorem d_Tree_goOn_232 : decode prog_9_method_6_code 232 = .ok (.iload_n 3, 1) := by decide +kernel
theorem d_Tree_goOn_233 : decode prog_9_method_6_code 233 = .ok (.iconst 1, 1) := by decide +kernel
theorem d_Tree_goOn_234 : decode prog_9_method_6_code 234 = .ok (.iadd, 1) := by decide +kernel
theorem d_Tree_goOn_235 : decode prog_9_method_6_code 235 = .ok (.iload 14, 2) := by decide +kernel
theorem d_Tree_goOn_237 : decode prog_9_method_6_code 237 = .ok (.iload 13, 2) := by decide +kernel
theorem d_Tree_goOn_239 : decode prog_9_method_6_code 239 = .ok (.lload 10, 2) := by decide +kernel
theorem d_Tree_goOn_241 : decode prog_9_method_6_code 241 = .ok (.iload 8, 2) := by decide +kernel
theorem d_Tree_goOn_243 : decode prog_9_method_6_code 243 = .ok (.ifCond .ne 8, 3) := by decide +kernel
theorem d_Tree_goOn_246 : decode prog_9_method_6_code 246 = .ok (.iload 9, 2) := by decide +kernel
theorem d_Tree_goOn_248 : decode prog_9_method_6_code 248 = .ok (.ifCond .eq 7, 3) := by decide +kernel
theorem d_Tree_goOn_251 : decode prog_9_method_6_code 251 = .ok (.iconst 1, 1) := by decide +kernel
theorem d_Tree_goOn_252 : decode prog_9_method_6_code 252 = .ok (.goto 4, 3) := by decide +kernel
theorem d_Tree_goOn_255 : decode prog_9_method_6_code 255 = .ok (.iconst 0, 1) := by decide +kernel
theorem d_Tree_goOn_256 : decode prog_9_method_6_code 256 = .ok (.invokevirtual 73, 3) := by decide +kernel
theorem d_Tree_goOn_259 : decode prog_9_method_6_code 259 = .ok (.iinc 12 1, 3) := by decide +kernel
theorem d_Tree_goOn_262 : decode prog_9_method_6_code 262 = .ok (.goto (-102), 3) := by decide +kernel
theorem d_Tree_goOn_265 : decode prog_9_method_6_code 265 = .ok (.return_, 1) := by decide +kernel
theorem d_Tree_walk_0 : decode prog_9_method_5_code 0 = .ok (.aload_n 0, 1) := by decide +kernel
theorem d_Tree_walk_1 : decode prog_9_method_5_code 1 = .ok (.lconst 0, 1) := by decide +kernel
theorem d_Tree_walk_2 : decode prog_9_method_5_code 2 = .ok (.putfield 36, 3) := by decide +kernel
theorem d_Tree_walk_5 : decode prog_9_method_5_code 5 = .ok (.aload_n 0, 1) := by decide +kernel
theorem d_Tree_walk_6 : decode prog_9_method_5_code 6 = .ok (.lconst 0, 1) := by decide +kernel
theorem d_Tree_walk_7 : decode prog_9_method_5_code 7 = .ok (.putfield 44, 3) := by decide +kernel
theorem d_Tree_walk_10 : decode prog_9_method_5_code 10 = .ok (.aload_n 0, 1) := by decide +kernel
theorem d_Tree_walk_11 : decode prog_9_method_5_code 11 = .ok (.lconst 0, 1) := by decide +kernel
theorem d_Tree_walk_12 : decode prog_9_method_5_code 12 = .ok (.putfield 57, 3) := by decide +kernel
theorem d_Tree_walk_15 : decode prog_9_method_5_code 15 = .ok (.aload_n 0, 1) := by decide +kernel
theorem d_Tree_walk_16 : decode prog_9_method_5_code 16 = .ok (.lconst 0, 1) := by decide +kernel
theorem d_Tree_walk_17 : decode prog_9_method_5_code 17 = .ok (.putfield 60, 3) := by decide +kernel
theorem d_Tree_walk_20 : decode prog_9_method_5_code 20 = .ok (.aload_n 0, 1) := by decide +kernel
theorem d_Tree_walk_21 : decode prog_9_method_5_code 21 = .ok (.iconst 4, 1) := by decide +kernel
theorem d_Tree_walk_22 : decode prog_9_method_5_code 22 = .ok (.putfield 51, 3) := by decide +kernel
theorem d_Tree_walk_25 : decode prog_9_method_5_code 25 = .ok (.aload_n 0, 1) := by decide +kernel
theorem d_Tree_walk_26 : decode prog_9_method_5_code 26 = .ok (.iconst 0, 1) := by decide +kernel
theorem d_Tree_walk_27 : decode prog_9_method_5_code 27 = .ok (.putfield 54, 3) := by decide +kernel
theorem d_Tree_walk_30 : decode prog_9_method_5_code 30 = .ok (.aload_n 0, 1) := by decide +kernel
theorem d_Tree_walk_31 : decode prog_9_method_5_code 31 = .ok (.aload_n 1, 1) := by decide +kernel
theorem d_Tree_walk_32 : decode prog_9_method_5_code 32 = .ok (.iload_n 2, 1) := by decide +kernel
theorem d_Tree_walk_33 : decode prog_9_method_5_code 33 = .ok (.iconst 0, 1) := by decide +kernel
theorem d_Tree_walk_34 : decode prog_9_method_5_code 34 = .ok (.aload_n 0, 1) := by decide +kernel
theorem d_Tree_walk_35 : decode prog_9_method_5_code 35 = .ok (.getfield 14, 3) := by decide +kernel
theorem d_Tree_walk_38 : decode prog_9_method_5_code 38 = .ok (.getfield 70, 3) := by decide +kernel
theorem d_Tree_walk_41 : decode prog_9_method_5_code 41 = .ok (.iconst 0, 1) := by decide +kernel
theorem d_Tree_walk_42 : decode prog_9_method_5_code 42 = .ok (.ldc2_w 65, 3) := by decide +kernel
theorem d_Tree_walk_45 : decode prog_9_method_5_code 45 = .ok (.iconst 0, 1) := by decide +kernel
theorem d_Tree_walk_46 : decode prog_9_method_5_code 46 = .ok (.invokevirtual 73, 3) := by decide +kernel
theorem d_Tree_walk_49 : decode prog_9_method_5_code 49 = .ok (.return_, 1) := by decide +kernel
theorem d_Tree_thousandths_0 : decode prog_9_method_3_code 0 = .ok (.lload_n 0, 1) := by decide +kernel
theorem d_Tree_thousandths_1 : decode prog_9_method_3_code 1 = .ok (.ldc2_w 63, 3) := by decide +kernel
theorem d_Tree_thousandths_4 : decode prog_9_method_3_code 4 = .ok (.lmul, 1) := by decide +kernel
theorem d_Tree_thousandths_5 : decode prog_9_method_3_code 5 = .ok (.ldc2_w 65, 3) := by decide +kernel
theorem d_Tree_thousandths_8 : decode prog_9_method_3_code 8 = .ok (.ldiv, 1) := by decide +kernel
theorem d_Tree_thousandths_9 : decode prog_9_method_3_code 9 = .ok (.l2i, 1) := by decide +kernel
theorem d_Tree_thousandths_10 : decode prog_9_method_3_code 10 = .ok (.ireturn, 1) := by decide +kernel
theorem d_Tree_fact_0 : decode prog_9_method_2_code 0 = .ok (.iload_n 1, 1) := by decide +kernel
theorem d_Tree_fact_1 : decode prog_9_method_2_code 1 = .ok (.tableswitch 90 0 5 #[39, 47, 64, 69, 74, 82], 39) := by decide +kernel
theorem d_Tree_fact_40 : decode prog_9_method_2_code 40 = .ok (.aload_n 0, 1) := by decide +kernel
theorem d_Tree_fact_41 : decode prog_9_method_2_code 41 = .ok (.getfield 36, 3) := by decide +kernel
theorem d_Tree_fact_44 : decode prog_9_method_2_code 44 = .ok (.invokestatic 40, 3) := by decide +kernel
theorem d_Tree_fact_47 : decode prog_9_method_2_code 47 = .ok (.ireturn, 1) := by decide +kernel
theorem d_Tree_fact_48 : decode prog_9_method_2_code 48 = .ok (.aload_n 0, 1) := by decide +kernel
theorem d_Tree_fact_49 : decode prog_9_method_2_code 49 = .ok (.getfield 44, 3) := by decide +kernel
theorem d_Tree_fact_52 : decode prog_9_method_2_code 52 = .ok (.aload_n 0, 1) := by decide +kernel
theorem d_Tree_fact_53 : decode prog_9_method_2_code 53 = .ok (.getfield 14, 3) := by decide +kernel
theorem d_Tree_fact_56 : decode prog_9_method_2_code 56 = .ok (.getfield 47, 3) := by decide +kernel
theorem d_Tree_fact_59 : decode prog_9_method_2_code 59 = .ok (.i2l, 1) := by decide +kernel
theorem d_Tree_fact_60 : decode prog_9_method_2_code 60 = .ok (.lmul, 1) := by decide +kernel
theorem d_Tree_fact_61 : decode prog_9_method_2_code 61 = .ok (.invokestatic 40, 3) := by decide +kernel
theorem d_Tree_fact_64 : decode prog_9_method_2_code 64 = .ok (.ireturn, 1) := by decide +kernel
theorem d_Tree_fact_65 : decode prog_9_method_2_code 65 = .ok (.aload_n 0, 1) := by decide +kernel
theorem d_Tree_fact_66 : decode prog_9_method_2_code 66 = .ok (.getfield 51, 3) := by decide +kernel
theorem d_Tree_fact_69 : decode prog_9_method_2_code 69 = .ok (.ireturn, 1) := by decide +kernel
theorem d_Tree_fact_70 : decode prog_9_method_2_code 70 = .ok (.aload_n 0, 1) := by decide +kernel
theorem d_Tree_fact_71 : decode prog_9_method_2_code 71 = .ok (.getfield 54, 3) := by decide +kernel
theorem d_Tree_fact_74 : decode prog_9_method_2_code 74 = .ok (.ireturn, 1) := by decide +kernel
theorem d_Tree_fact_75 : decode prog_9_method_2_code 75 = .ok (.aload_n 0, 1) := by decide +kernel
theorem d_Tree_fact_76 : decode prog_9_method_2_code 76 = .ok (.getfield 57, 3) := by decide +kernel
theorem d_Tree_fact_79 : decode prog_9_method_2_code 79 = .ok (.invokestatic 40, 3) := by decide +kernel
theorem d_Tree_fact_82 : decode prog_9_method_2_code 82 = .ok (.ireturn, 1) := by decide +kernel
theorem d_Tree_fact_83 : decode prog_9_method_2_code 83 = .ok (.aload_n 0, 1) := by decide +kernel
theorem d_Tree_fact_84 : decode prog_9_method_2_code 84 = .ok (.getfield 60, 3) := by decide +kernel
theorem d_Tree_fact_87 : decode prog_9_method_2_code 87 = .ok (.invokestatic 40, 3) := by decide +kernel
theorem d_Tree_fact_90 : decode prog_9_method_2_code 90 = .ok (.ireturn, 1) := by decide +kernel
theorem d_Tree_fact_91 : decode prog_9_method_2_code 91 = .ok (.iconst (-1), 1) := by decide +kernel
theorem d_Tree_fact_92 : decode prog_9_method_2_code 92 = .ok (.ireturn, 1) := by decide +kernel
theorem d_BH_tree_0 : decode prog_1_method_15_code 0 = .ok (.aload_n 0, 1) := by decide +kernel
theorem d_BH_tree_1 : decode prog_1_method_15_code 1 = .ok (.iload_n 1, 1) := by decide +kernel
theorem d_BH_tree_2 : decode prog_1_method_15_code 2 = .ok (.invokevirtual 144, 3) := by decide +kernel
theorem d_BH_tree_5 : decode prog_1_method_15_code 5 = .ok (.ifCond .ne 5, 3) := by decide +kernel
theorem d_BH_tree_8 : decode prog_1_method_15_code 8 = .ok (.iconst (-1), 1) := by decide +kernel
theorem d_BH_tree_9 : decode prog_1_method_15_code 9 = .ok (.ireturn, 1) := by decide +kernel
theorem d_BH_tree_10 : decode prog_1_method_15_code 10 = .ok (.aload_n 0, 1) := by decide +kernel
theorem d_BH_tree_11 : decode prog_1_method_15_code 11 = .ok (.getfield 47, 3) := by decide +kernel
theorem d_BH_tree_14 : decode prog_1_method_15_code 14 = .ok (.getfield 191, 3) := by decide +kernel
theorem d_BH_tree_17 : decode prog_1_method_15_code 17 = .ok (.aload_n 0, 1) := by decide +kernel
theorem d_BH_tree_18 : decode prog_1_method_15_code 18 = .ok (.getfield 54, 3) := by decide +kernel
theorem d_BH_tree_21 : decode prog_1_method_15_code 21 = .ok (.iload_n 1, 1) := by decide +kernel
theorem d_BH_tree_22 : decode prog_1_method_15_code 22 = .ok (.aload_n 0, 1) := by decide +kernel
theorem d_BH_tree_23 : decode prog_1_method_15_code 23 = .ok (.getfield 26, 3) := by decide +kernel
theorem d_BH_tree_26 : decode prog_1_method_15_code 26 = .ok (.getfield 114, 3) := by decide +kernel
theorem d_BH_tree_29 : decode prog_1_method_15_code 29 = .ok (.invokevirtual 163, 3) := by decide +kernel
theorem d_BH_tree_32 : decode prog_1_method_15_code 32 = .ok (.aload_n 0, 1) := by decide +kernel
theorem d_BH_tree_33 : decode prog_1_method_15_code 33 = .ok (.getfield 47, 3) := by decide +kernel
theorem d_BH_tree_36 : decode prog_1_method_15_code 36 = .ok (.aload_n 0, 1) := by decide +kernel
theorem d_BH_tree_37 : decode prog_1_method_15_code 37 = .ok (.getfield 54, 3) := by decide +kernel
theorem d_BH_tree_40 : decode prog_1_method_15_code 40 = .ok (.aload_n 0, 1) := by decide +kernel
theorem d_BH_tree_41 : decode prog_1_method_15_code 41 = .ok (.getfield 26, 3) := by decide +kernel
theorem d_BH_tree_44 : decode prog_1_method_15_code 44 = .ok (.getfield 111, 3) := by decide +kernel
theorem d_BH_tree_47 : decode prog_1_method_15_code 47 = .ok (.invokevirtual 192, 3) := by decide +kernel
theorem d_BH_tree_50 : decode prog_1_method_15_code 50 = .ok (.aload_n 0, 1) := by decide +kernel
theorem d_BH_tree_51 : decode prog_1_method_15_code 51 = .ok (.getfield 47, 3) := by decide +kernel
theorem d_BH_tree_54 : decode prog_1_method_15_code 54 = .ok (.iload_n 2, 1) := by decide +kernel
theorem d_BH_tree_55 : decode prog_1_method_15_code 55 = .ok (.invokevirtual 196, 3) := by decide +kernel
theorem d_BH_tree_58 : decode prog_1_method_15_code 58 = .ok (.ireturn, 1) := by decide +kernel
theorem d_Arrays_fill_J_0 : decode prog_19_method_101_code 0 = .ok (.iconst 0, 1) := by decide +kernel
theorem d_Arrays_fill_J_1 : decode prog_19_method_101_code 1 = .ok (.istore_n 3, 1) := by decide +kernel
theorem d_Arrays_fill_J_2 : decode prog_19_method_101_code 2 = .ok (.aload_n 0, 1) := by decide +kernel
theorem d_Arrays_fill_J_3 : decode prog_19_method_101_code 3 = .ok (.arraylength, 1) := by decide +kernel
theorem d_Arrays_fill_J_4 : decode prog_19_method_101_code 4 = .ok (.istore 4, 2) := by decide +kernel
theorem d_Arrays_fill_J_6 : decode prog_19_method_101_code 6 = .ok (.iload_n 3, 1) := by decide +kernel
theorem d_Arrays_fill_J_7 : decode prog_19_method_101_code 7 = .ok (.iload 4, 2) := by decide +kernel
theorem d_Arrays_fill_J_9 : decode prog_19_method_101_code 9 = .ok (.if_icmp .ge 13, 3) := by decide +kernel
theorem d_Arrays_fill_J_12 : decode prog_19_method_101_code 12 = .ok (.aload_n 0, 1) := by decide +kernel
theorem d_Arrays_fill_J_13 : decode prog_19_method_101_code 13 = .ok (.iload_n 3, 1) := by decide +kernel
theorem d_Arrays_fill_J_14 : decode prog_19_method_101_code 14 = .ok (.lload_n 1, 1) := by decide +kernel
theorem d_Arrays_fill_J_15 : decode prog_19_method_101_code 15 = .ok (.lastore, 1) := by decide +kernel
theorem d_Arrays_fill_J_16 : decode prog_19_method_101_code 16 = .ok (.iinc 3 1, 3) := by decide +kernel
theorem d_Arrays_fill_J_19 : decode prog_19_method_101_code 19 = .ok (.goto (-13), 3) := by decide +kernel
theorem d_Arrays_fill_J_22 : decode prog_19_method_101_code 22 = .ok (.return_, 1) := by decide +kernel
theorem d_Arrays_fill_I_0 : decode prog_19_method_103_code 0 = .ok (.iconst 0, 1) := by decide +kernel
theorem d_Arrays_fill_I_1 : decode prog_19_method_103_code 1 = .ok (.istore_n 2, 1) := by decide +kernel
theorem d_Arrays_fill_I_2 : decode prog_19_method_103_code 2 = .ok (.aload_n 0, 1) := by decide +kernel
theorem d_Arrays_fill_I_3 : decode prog_19_method_103_code 3 = .ok (.arraylength, 1) := by decide +kernel
theorem d_Arrays_fill_I_4 : decode prog_19_method_103_code 4 = .ok (.istore_n 3, 1) := by decide +kernel
theorem d_Arrays_fill_I_5 : decode prog_19_method_103_code 5 = .ok (.iload_n 2, 1) := by decide +kernel
theorem d_Arrays_fill_I_6 : decode prog_19_method_103_code 6 = .ok (.iload_n 3, 1) := by decide +kernel
theorem d_Arrays_fill_I_7 : decode prog_19_method_103_code 7 = .ok (.if_icmp .ge 13, 3) := by decide +kernel
theorem d_Arrays_fill_I_10 : decode prog_19_method_103_code 10 = .ok (.aload_n 0, 1) := by decide +kernel
theorem d_Arrays_fill_I_11 : decode prog_19_method_103_code 11 = .ok (.iload_n 2, 1) := by decide +kernel
theorem d_Arrays_fill_I_12 : decode prog_19_method_103_code 12 = .ok (.iload_n 1, 1) := by decide +kernel
theorem d_Arrays_fill_I_13 : decode prog_19_method_103_code 13 = .ok (.iastore, 1) := by decide +kernel
theorem d_Arrays_fill_I_14 : decode prog_19_method_103_code 14 = .ok (.iinc 2 1, 3) := by decide +kernel
theorem d_Arrays_fill_I_17 : decode prog_19_method_103_code 17 = .ok (.goto (-12), 3) := by decide +kernel
theorem d_Arrays_fill_I_20 : decode prog_19_method_103_code 20 = .ok (.return_, 1) := by decide +kernel
theorem d_Turn_crowdBehind_0 : decode prog_10_method_9_code 0 = .ok (.sipush 999, 3) := by decide +kernel
theorem d_Turn_crowdBehind_3 : decode prog_10_method_9_code 3 = .ok (.aload_n 0, 1) := by decide +kernel
theorem d_Turn_crowdBehind_4 : decode prog_10_method_9_code 4 = .ok (.getfield 58, 3) := by decide +kernel
theorem d_Turn_crowdBehind_7 : decode prog_10_method_9_code 7 = .ok (.iload_n 2, 1) := by decide +kernel
theorem d_Turn_crowdBehind_8 : decode prog_10_method_9_code 8 = .ok (.aload_n 0, 1) := by decide +kernel
theorem d_Turn_crowdBehind_9 : decode prog_10_method_9_code 9 = .ok (.getfield 9, 3) := by decide +kernel
theorem d_Turn_crowdBehind_12 : decode prog_10_method_9_code 12 = .ok (.iconst 1, 1) := by decide +kernel
theorem d_Turn_crowdBehind_13 : decode prog_10_method_9_code 13 = .ok (.iaload, 1) := by decide +kernel
theorem d_Turn_crowdBehind_14 : decode prog_10_method_9_code 14 = .ok (.imul, 1) := by decide +kernel
theorem d_Turn_crowdBehind_15 : decode prog_10_method_9_code 15 = .ok (.iadd, 1) := by decide +kernel
theorem d_Turn_crowdBehind_16 : decode prog_10_method_9_code 16 = .ok (.iload_n 1, 1) := by decide +kernel
theorem d_Turn_crowdBehind_17 : decode prog_10_method_9_code 17 = .ok (.iload_n 2, 1) := by decide +kernel
theorem d_Turn_crowdBehind_18 : decode prog_10_method_9_code 18 = .ok (.isub, 1) := by decide +kernel
theorem d_Turn_crowdBehind_19 : decode prog_10_method_9_code 19 = .ok (.aload_n 0, 1) := by decide +kernel
theorem d_Turn_crowdBehind_20 : decode prog_10_method_9_code 20 = .ok (.getfield 9, 3) := by decide +kernel
theorem d_Turn_crowdBehind_23 : decode prog_10_method_9_code 23 = .ok (.iconst 2, 1) := by decide +kernel
theorem d_Turn_crowdBehind_24 : decode prog_10_method_9_code 24 = .ok (.iaload, 1) := by decide +kernel
theorem d_Turn_crowdBehind_25 : decode prog_10_method_9_code 25 = .ok (.imul, 1) := by decide +kernel
theorem d_Turn_crowdBehind_26 : decode prog_10_method_9_code 26 = .ok (.iadd, 1) := by decide +kernel
theorem d_Turn_crowdBehind_27 : decode prog_10_method_9_code 27 = .ok (.invokestatic 84, 3) := by decide +kernel
theorem d_Turn_crowdBehind_30 : decode prog_10_method_9_code 30 = .ok (.ireturn, 1) := by decide +kernel
def f_BH_leans_51 (x1 : Int32) (x2 : Int32) (x3 : Int32) (x4 : Int32) (x5 : Int32) (t0 : Int32) (σ : St) : Option (Int32 × St) :=
  if t0 = 0 then
    some ((-1), σ)
  else
    bp (f_Showman_look x2 x3 x4 x5 σ) fun σ_2 =>
    bp (f_Fair_trait x1 5 σ_2) fun r_4 =>
    bp (f_Fair_trait x1 3 σ_2) fun r_6 =>
    bp (f_Showman_lookAt r_4 r_6 σ_2) fun σ_8 =>
    bd (f_Showman_rulesThatHold σ_8) fun r_10 σ_11 =>
    if (r_10 &&& (sI σ_11 19)) = 0 then
      some (0, σ_11)
    else
      some (1, σ_11)
def f_BH_leans_50 (x1 : Int32) (x2 : Int32) (x3 : Int32) (x4 : Int32) (x5 : Int32) (σ : St) : Option (Int32 × St) :=
  f_BH_leans_51 x1 x2 x3 x4 x5 0 σ
def f_BH_leans (x1 : Int32) (x2 : Int32) (x3 : Int32) (x4 : Int32) (x5 : Int32) (σ : St) : Option (Int32 × St) :=
  bp (f_BH_isTrier x1 σ) fun r_2 =>
  if r_2 = 0 then
    f_BH_leans_50 x1 x2 x3 x4 x5 σ
  else
    bp (f_BH_isWithin x2 999 σ) fun r_4 =>
    if r_4 = 0 then
      f_BH_leans_50 x1 x2 x3 x4 x5 σ
    else
      bp (f_BH_isWithin x3 3 σ) fun r_6 =>
      if r_6 = 0 then
        f_BH_leans_50 x1 x2 x3 x4 x5 σ
      else
        bp (f_BH_isWithin x4 99 σ) fun r_8 =>
        if r_8 = 0 then
          f_BH_leans_50 x1 x2 x3 x4 x5 σ
        else
          bp (f_BH_isWithin x5 99 σ) fun r_10 =>
          if r_10 = 0 then
            f_BH_leans_50 x1 x2 x3 x4 x5 σ
          else
            f_BH_leans_51 x1 x2 x3 x4 x5 1 σ
set_option maxHeartbeats 4000000 in
set_option maxRecDepth 20000 in
theorem t_BH_leans_51 {r : Int32} {σ2 : St} (C : Cx g A p s m av meth c prog_1_method_14_code 7 "BellHammer" (some .int))  {x1 : Int32} {x2 : Int32} {x3 : Int32} {x4 : Int32} {x5 : Int32} {t0 : Int32} {σ : St} {H : Heap} {locs : List Loc} {ls : Array Slot} (hf : f_BH_leans_51   x1 x2 x3 x4 x5 t0 σ = some (r, σ2)) (w : Wd g (wX g q) A s σ H locs) (hl : lv_has ls 7 [(0, .ref (q 0)), (1, .int x1), (2, .int x2), (3, .int x3), (4, .int x4), (5, .int x5)]) : WK p l e s m av below meth c 4 g (wX g q) A (some (.int r)) σ2 H locs (F0 m 51 ls [.int t0]) := by
  obtain ⟨hx, hb, hml, hown, hts, hK, hA, hZ, hlocks, hr, hN⟩ := id C
  unfold f_BH_leans_51 at hf
  refine lv_istore (lv' := [(6, .int t0), (0, .ref (q 0)), (1, .int x1), (2, .int x2), (3, .int x3), (4, .int x4), (5, .int x5)]) hx hb d_BH_leans_51 hl (by decide) rfl (fun ls hl => ?_)
  refine lv_iload hx hb d_BH_leans_53 (lv_at hl 0 rfl) ?_
  refine lv_if_ne (tgt := 60) hx hb d_BH_leans_55 (by decide) (fun cd => ?_) (fun cd => ?_)
  · have hf := if_e cd hf
    refine lv_aload_n hx hb d_BH_leans_60 rfl (lv_at hl 1 rfl) ?_
    refine xg_0_showman C w k508 d_BH_leans_61 ?_
    refine lv_iload_n hx hb d_BH_leans_64 rfl (lv_at hl 3 rfl) ?_
    refine lv_iload_n hx hb d_BH_leans_65 rfl (lv_at hl 4 rfl) ?_
    refine lv_iload hx hb d_BH_leans_66 (lv_at hl 5 rfl) ?_
    refine lv_iload hx hb d_BH_leans_68 (lv_at hl 6 rfl) ?_
    obtain ⟨σ_2, h_1, hf⟩ := bp_e hf
    refine k_callV (As := [.int x2, .int x3, .int x4, .int x5]) (rest := []) C w (c_Showman_look (q := q) h_1) cv_Showman_look k794 (xr_20 C w) (by decide) hl.1 rfl (Nat.le_of_ble_eq_true rfl) d_BH_leans_70 (fun H locs w => ?_)
    show WK p l e s m av below meth c 4 g (wX g q) A (some (.int r)) σ2 H locs (F0 m 73 ls [])
    refine lv_aload_n hx hb d_BH_leans_73 rfl (lv_at hl 1 rfl) ?_
    refine xg_0_showman C w k508 d_BH_leans_74 ?_
    refine lv_aload_n hx hb d_BH_leans_77 rfl (lv_at hl 1 rfl) ?_
    refine xg_0_fair C w k511 d_BH_leans_78 ?_
    refine lv_iload_n hx hb d_BH_leans_81 rfl (lv_at hl 2 rfl) ?_
    refine lv_iconst (v := 5) hx hb d_BH_leans_82 (by decide) ?_
    obtain ⟨r_4, h_3, hf⟩ := bp_e hf
    refine k_callV (As := [.int x1, .int 5]) (rest := [.ref (q 20)]) C w (c_Fair_trait (q := q) h_3) cv_Fair_trait k734 (xr_34 C w) (by decide) hl.1 rfl (Nat.le_of_ble_eq_true rfl) d_BH_leans_83 (fun H locs w => ?_)
    show WK p l e s m av below meth c 4 g (wX g q) A (some (.int r)) σ2 H locs (F0 m 86 ls [.int r_4, .ref (q 20)])
    refine lv_aload_n hx hb d_BH_leans_86 rfl (lv_at hl 1 rfl) ?_
    refine xg_0_fair C w k511 d_BH_leans_87 ?_
    refine lv_iload_n hx hb d_BH_leans_90 rfl (lv_at hl 2 rfl) ?_
    refine lv_iconst (v := 3) hx hb d_BH_leans_91 (by decide) ?_
    obtain ⟨r_6, h_5, hf⟩ := bp_e hf
    refine k_callV (As := [.int x1, .int 3]) (rest := [.int r_4, .ref (q 20)]) C w (c_Fair_trait (q := q) h_5) cv_Fair_trait k734 (xr_34 C w) (by decide) hl.1 rfl (Nat.le_of_ble_eq_true rfl) d_BH_leans_92 (fun H locs w => ?_)
    show WK p l e s m av below meth c 4 g (wX g q) A (some (.int r)) σ2 H locs (F0 m 95 ls [.int r_6, .int r_4, .ref (q 20)])
    obtain ⟨σ_8, h_7, hf⟩ := bp_e hf
    refine k_callV (As := [.int r_4, .int r_6]) (rest := []) C w (c_Showman_lookAt (q := q) h_7) cv_Showman_lookAt k798 (xr_20 C w) (by decide) hl.1 rfl (Nat.le_of_ble_eq_true rfl) d_BH_leans_95 (fun H locs w => ?_)
    show WK p l e s m av below meth c 4 g (wX g q) A (some (.int r)) σ2 H locs (F0 m 98 ls [])
    refine lv_aload_n hx hb d_BH_leans_98 rfl (lv_at hl 1 rfl) ?_
    refine xg_0_showman C w k508 d_BH_leans_99 ?_
    refine lv_aload_n hx hb d_BH_leans_102 rfl (lv_at hl 1 rfl) ?_
    refine xg_0_fair C w k511 d_BH_leans_103 ?_
    obtain ⟨r_10, σ_11, h_9, hf⟩ := bd_e hf
    refine k_callV (As := [.ref (q 34)]) (rest := []) C w (c_Showman_rulesThatHold (q := q) h_9) cv_Showman_rulesThatHold k802 (xr_20 C w) (by decide) hl.1 rfl (Nat.le_of_ble_eq_true rfl) d_BH_leans_106 (fun H locs w => ?_)
    show WK p l e s m av below meth c 4 g (wX g q) A (some (.int r)) σ2 H locs (F0 m 109 ls [.int r_10])
    refine lv_aload_n hx hb d_BH_leans_109 rfl (lv_at hl 1 rfl) ?_
    refine xg_0_book C w k507 d_BH_leans_110 ?_
    refine xg_14_inForce C w k340 d_BH_leans_113 ?_
    refine lv_iand hx hb d_BH_leans_116 ?_
    refine lv_if_eq (tgt := 124) hx hb d_BH_leans_117 (by decide) (fun cd => ?_) (fun cd => ?_)
    · have hf := it_e cd hf
      refine lv_iconst (v := 0) hx hb d_BH_leans_124 (by decide) ?_
      obtain ⟨rfl, rfl⟩ := some2_e hf
      exact k_iret C w d_BH_leans_125
    · have hf := if_e cd hf
      refine lv_iconst (v := 1) hx hb d_BH_leans_120 (by decide) ?_
      refine lv_goto (tgt := 125) hx hb d_BH_leans_121 (by decide) ?_
      obtain ⟨rfl, rfl⟩ := some2_e hf
      exact k_iret C w d_BH_leans_125
  · have hf := it_e cd hf
    refine lv_iconst (v := (-1)) hx hb d_BH_leans_58 (by decide) ?_
    obtain ⟨rfl, rfl⟩ := some2_e hf
    exact k_iret C w d_BH_leans_59
set_option maxHeartbeats 4000000 in
set_option maxRecDepth 20000 in
theorem t_BH_leans_50 {r : Int32} {σ2 : St} (C : Cx g A p s m av meth c prog_1_method_14_code 7 "BellHammer" (some .int))  {x1 : Int32} {x2 : Int32} {x3 : Int32} {x4 : Int32} {x5 : Int32} {σ : St} {H : Heap} {locs : List Loc} {ls : Array Slot} (hf : f_BH_leans_50   x1 x2 x3 x4 x5 σ = some (r, σ2)) (w : Wd g (wX g q) A s σ H locs) (hl : lv_has ls 7 [(0, .ref (q 0)), (1, .int x1), (2, .int x2), (3, .int x3), (4, .int x4), (5, .int x5)]) : WK p l e s m av below meth c 4 g (wX g q) A (some (.int r)) σ2 H locs (F0 m 50 ls []) := by
  obtain ⟨hx, hb, hml, hown, hts, hK, hA, hZ, hlocks, hr, hN⟩ := id C
  unfold f_BH_leans_50 at hf
  refine lv_iconst (v := 0) hx hb d_BH_leans_50 (by decide) ?_
  exact t_BH_leans_51 C  hf w (lv_sub hl [0, 1, 2, 3, 4, 5] rfl)
set_option maxHeartbeats 4000000 in
set_option maxRecDepth 20000 in
theorem c_BH_leans {l : Launch} {g : GX} {q : Nat → Nat} {x1 : Int32} {x2 : Int32} {x3 : Int32} {x4 : Int32} {x5 : Int32}  {σ : St} {r : Int32} {σ2 : St} (hf : f_BH_leans  x1 x2 x3 x4 x5 σ = some (r, σ2)) : KK l y_BH_leans prog_1_method_14_code 7 (some .int) 4 g (wX g q) σ [.ref (q 0), .int x1, .int x2, .int x3, .int x4, .int x5] (some (.int r)) (wX g q) σ2 := by
  refine KK_of (plainFor_of_name (by decide)) (Nat.le_of_ble_eq_true rfl) (fun p e s m below meth c A ls C w hl => ?_)
  have hl : lv_has ls 7 [(0, .ref (q 0)), (1, .int x1), (2, .int x2), (3, .int x3), (4, .int x4), (5, .int x5)] := hl
  obtain ⟨hx, hb, hml, hown, hts, hK, hA, hZ, hlocks, hr, hN⟩ := id C
  unfold f_BH_leans at hf
  refine lv_aload_n hx hb d_BH_leans_0 rfl (lv_at hl 0 rfl) ?_
  refine lv_iload_n hx hb d_BH_leans_1 rfl (lv_at hl 1 rfl) ?_
  obtain ⟨r_2, h_1, hf⟩ := bp_e hf
  refine k_callV (As := [.int x1]) (rest := []) C w (c_BH_isTrier (q := q) h_1) cv_BH_isTrier k726 (xr_0 C w) (by decide) hl.1 rfl (Nat.le_of_ble_eq_true rfl) d_BH_leans_2 (fun H locs w => ?_)
  show WK p l e s m _ below meth c 4 g (wX g q) A (some (.int r)) σ2 H locs (F0 m 5 ls [.int r_2])
  refine lv_if_eq (tgt := 50) hx hb d_BH_leans_5 (by decide) (fun cd => ?_) (fun cd => ?_)
  · have hf := it_e cd hf
    exact t_BH_leans_50 C  hf w (lv_sub hl [0, 1, 2, 3, 4, 5] rfl)
  · have hf := if_e cd hf
    refine lv_iload_n hx hb d_BH_leans_8 rfl (lv_at hl 2 rfl) ?_
    refine lv_sipush (v := 999) hx hb d_BH_leans_9 (by decide) ?_
    obtain ⟨r_4, h_3, hf⟩ := bp_e hf
    refine k_callS (As := [.int x2, .int 999]) (rest := []) C w (c_BH_isWithin (q := q) h_3) cv_BH_isWithin k757 (by decide) hl.1 rfl (Nat.le_of_ble_eq_true rfl) d_BH_leans_12 (fun H locs w => ?_)
    show WK p l e s m _ below meth c 4 g (wX g q) A (some (.int r)) σ2 H locs (F0 m 15 ls [.int r_4])
    refine lv_if_eq (tgt := 50) hx hb d_BH_leans_15 (by decide) (fun cd => ?_) (fun cd => ?_)
    · have hf := it_e cd hf
      exact t_BH_leans_50 C  hf w (lv_sub hl [0, 1, 2, 3, 4, 5] rfl)
    · have hf := if_e cd hf
      refine lv_iload_n hx hb d_BH_leans_18 rfl (lv_at hl 3 rfl) ?_
      refine lv_iconst (v := 3) hx hb d_BH_leans_19 (by decide) ?_
      obtain ⟨r_6, h_5, hf⟩ := bp_e hf
      refine k_callS (As := [.int x3, .int 3]) (rest := []) C w (c_BH_isWithin (q := q) h_5) cv_BH_isWithin k757 (by decide) hl.1 rfl (Nat.le_of_ble_eq_true rfl) d_BH_leans_20 (fun H locs w => ?_)
      show WK p l e s m _ below meth c 4 g (wX g q) A (some (.int r)) σ2 H locs (F0 m 23 ls [.int r_6])
      refine lv_if_eq (tgt := 50) hx hb d_BH_leans_23 (by decide) (fun cd => ?_) (fun cd => ?_)
      · have hf := it_e cd hf
        exact t_BH_leans_50 C  hf w (lv_sub hl [0, 1, 2, 3, 4, 5] rfl)
      · have hf := if_e cd hf
        refine lv_iload hx hb d_BH_leans_26 (lv_at hl 4 rfl) ?_
        refine lv_bipush (v := 99) hx hb d_BH_leans_28 (by decide) ?_
        obtain ⟨r_8, h_7, hf⟩ := bp_e hf
        refine k_callS (As := [.int x4, .int 99]) (rest := []) C w (c_BH_isWithin (q := q) h_7) cv_BH_isWithin k757 (by decide) hl.1 rfl (Nat.le_of_ble_eq_true rfl) d_BH_leans_30 (fun H locs w => ?_)
        show WK p l e s m _ below meth c 4 g (wX g q) A (some (.int r)) σ2 H locs (F0 m 33 ls [.int r_8])
        refine lv_if_eq (tgt := 50) hx hb d_BH_leans_33 (by decide) (fun cd => ?_) (fun cd => ?_)
        · have hf := it_e cd hf
          exact t_BH_leans_50 C  hf w (lv_sub hl [0, 1, 2, 3, 4, 5] rfl)
        · have hf := if_e cd hf
          refine lv_iload hx hb d_BH_leans_36 (lv_at hl 5 rfl) ?_
          refine lv_bipush (v := 99) hx hb d_BH_leans_38 (by decide) ?_
          obtain ⟨r_10, h_9, hf⟩ := bp_e hf
          refine k_callS (As := [.int x5, .int 99]) (rest := []) C w (c_BH_isWithin (q := q) h_9) cv_BH_isWithin k757 (by decide) hl.1 rfl (Nat.le_of_ble_eq_true rfl) d_BH_leans_40 (fun H locs w => ?_)
          show WK p l e s m _ below meth c 4 g (wX g q) A (some (.int r)) σ2 H locs (F0 m 43 ls [.int r_10])
          refine lv_if_eq (tgt := 50) hx hb d_BH_leans_43 (by decide) (fun cd => ?_) (fun cd => ?_)
          · have hf := it_e cd hf
            exact t_BH_leans_50 C  hf w (lv_sub hl [0, 1, 2, 3, 4, 5] rfl)
          · have hf := if_e cd hf
            refine lv_iconst (v := 1) hx hb d_BH_leans_46 (by decide) ?_
            refine lv_goto (tgt := 51) hx hb d_BH_leans_47 (by decide) ?_
            exact t_BH_leans_51 C  hf w (lv_sub hl [0, 1, 2, 3, 4, 5] rfl)
def f_Turn_load_2 (x2 : Int32) (σ : St) : Option (St) :=
  bp (f_Fair_trait x2 0 σ) fun r_2 =>
  lt (uI σ 40 r_2) fun σ_3 =>
  bp (f_Fair_trait x2 1 σ_3) fun r_5 =>
  lt (uI σ_3 41 r_5) fun σ_6 =>
  bp (f_Fair_trait x2 2 σ_6) fun r_8 =>
  lt (uI σ_6 42 r_8) fun σ_9 =>
  bp (f_Fair_trait x2 3 σ_9) fun r_11 =>
  lt (uI σ_9 43 r_11) fun σ_12 =>
  bp (f_Fair_trait x2 4 σ_12) fun r_14 =>
  lt (uI σ_12 44 r_14) fun σ_15 =>
  bp (f_Fair_trait x2 5 σ_15) fun r_17 =>
  lt (uI σ_15 45 r_17) fun σ_18 =>
  lt (uI σ_18 46 (sA σ_18 9 (0 : Int32).toNatClampNeg)) fun σ_19 =>
  lt (uI σ_19 47 (sA σ_19 9 (1 : Int32).toNatClampNeg)) fun σ_20 =>
  lt (uI σ_20 48 (sA σ_20 9 (2 : Int32).toNatClampNeg)) fun σ_21 =>
  lt (uI σ_21 49 (sA σ_21 25 (3 : Int32).toNatClampNeg)) fun σ_22 =>
  lt (uI σ_22 50 (sA σ_22 25 (5 : Int32).toNatClampNeg)) fun σ_23 =>
  lt (uI σ_23 51 (sA σ_23 25 (4 : Int32).toNatClampNeg)) fun σ_24 =>
  lt (uA σ_24 17 (va_cpy (sA σ_24 25) (sA σ_24 17) (6 : Int32).toNatClampNeg (0 : Int32).toNatClampNeg (3 : Int32).toNatClampNeg)) fun σ_25 =>
  some σ_25
set_option maxHeartbeats 4000000 in
set_option maxRecDepth 20000 in
theorem c_Turn_load_2 {l : Launch} {g : GX} {q : Nat → Nat} {x2 : Int32}  {σ : St} {σ2 : St} (hf : f_Turn_load_2  x2 σ = some σ2) : KK l y_Turn_load prog_10_method_2_code 4 none 1 g (wX g q) σ [.ref (q 26), .ref (q 34), .int x2, .ref (q 15)] none (wX g q) σ2 := by
  refine KK_of (plainFor_of_name (by decide)) (Nat.le_of_ble_eq_true rfl) (fun p e s m below meth c A ls C w hl => ?_)
  have hl : lv_has ls 4 [(0, .ref (q 26)), (1, .ref (q 34)), (2, .int x2), (3, .ref (q 15))] := hl
  obtain ⟨hx, hb, hml, hown, hts, hK, hA, hZ, hlocks, hr, hN⟩ := id C
  unfold f_Turn_load_2 at hf
  refine lv_aload_n hx hb d_Turn_load_0 rfl (lv_at hl 0 rfl) ?_
  refine lv_aload_n hx hb d_Turn_load_1 rfl (lv_at hl 1 rfl) ?_
  refine lv_iload_n hx hb d_Turn_load_2 rfl (lv_at hl 2 rfl) ?_
  refine lv_iconst (v := 0) hx hb d_Turn_load_3 (by decide) ?_
  obtain ⟨r_2, h_1, hf⟩ := bp_e hf
  refine k_callV (As := [.int x2, .int 0]) (rest := [.ref (q 26)]) C w (c_Fair_trait (q := q) h_1) cv_Fair_trait k764 (xr_34 C w) (by decide) hl.1 rfl (Nat.le_of_ble_eq_true rfl) d_Turn_load_4 (fun H locs w => ?_)
  show WK p l e s m _ below meth c 1 g (wX g q) A none σ2 H locs (F0 m 7 ls [.int r_2, .ref (q 26)])
  refine xp_26_force C w k402 d_Turn_load_7 (fun σ_3 H locs eσ_3 w => ?_)
  have hf := lt_e eσ_3 hf
  refine lv_aload_n hx hb d_Turn_load_10 rfl (lv_at hl 0 rfl) ?_
  refine lv_aload_n hx hb d_Turn_load_11 rfl (lv_at hl 1 rfl) ?_
  refine lv_iload_n hx hb d_Turn_load_12 rfl (lv_at hl 2 rfl) ?_
  refine lv_iconst (v := 1) hx hb d_Turn_load_13 (by decide) ?_
  obtain ⟨r_5, h_4, hf⟩ := bp_e hf
  refine k_callV (As := [.int x2, .int 1]) (rest := [.ref (q 26)]) C w (c_Fair_trait (q := q) h_4) cv_Fair_trait k764 (xr_34 C w) (by decide) hl.1 rfl (Nat.le_of_ble_eq_true rfl) d_Turn_load_14 (fun H locs w => ?_)
  show WK p l e s m _ below meth c 1 g (wX g q) A none σ2 H locs (F0 m 17 ls [.int r_5, .ref (q 26)])
  refine xp_26_aim C w k404 d_Turn_load_17 (fun σ_6 H locs eσ_6 w => ?_)
  have hf := lt_e eσ_6 hf
  refine lv_aload_n hx hb d_Turn_load_20 rfl (lv_at hl 0 rfl) ?_
  refine lv_aload_n hx hb d_Turn_load_21 rfl (lv_at hl 1 rfl) ?_
  refine lv_iload_n hx hb d_Turn_load_22 rfl (lv_at hl 2 rfl) ?_
  refine lv_iconst (v := 2) hx hb d_Turn_load_23 (by decide) ?_
  obtain ⟨r_8, h_7, hf⟩ := bp_e hf
  refine k_callV (As := [.int x2, .int 2]) (rest := [.ref (q 26)]) C w (c_Fair_trait (q := q) h_7) cv_Fair_trait k764 (xr_34 C w) (by decide) hl.1 rfl (Nat.le_of_ble_eq_true rfl) d_Turn_load_24 (fun H locs w => ?_)
  show WK p l e s m _ below meth c 1 g (wX g q) A none σ2 H locs (F0 m 27 ls [.int r_8, .ref (q 26)])
  refine xp_26_tires C w k407 d_Turn_load_27 (fun σ_9 H locs eσ_9 w => ?_)
  have hf := lt_e eσ_9 hf
  refine lv_aload_n hx hb d_Turn_load_30 rfl (lv_at hl 0 rfl) ?_
  refine lv_aload_n hx hb d_Turn_load_31 rfl (lv_at hl 1 rfl) ?_
  refine lv_iload_n hx hb d_Turn_load_32 rfl (lv_at hl 2 rfl) ?_
  refine lv_iconst (v := 3) hx hb d_Turn_load_33 (by decide) ?_
  obtain ⟨r_11, h_10, hf⟩ := bp_e hf
  refine k_callV (As := [.int x2, .int 3]) (rest := [.ref (q 26)]) C w (c_Fair_trait (q := q) h_10) cv_Fair_trait k764 (xr_34 C w) (by decide) hl.1 rfl (Nat.le_of_ble_eq_true rfl) d_Turn_load_34 (fun H locs w => ?_)
  show WK p l e s m _ below meth c 1 g (wX g q) A none σ2 H locs (F0 m 37 ls [.int r_11, .ref (q 26)])
  refine xp_26_coins C w k408 d_Turn_load_37 (fun σ_12 H locs eσ_12 w => ?_)
  have hf := lt_e eσ_12 hf
  refine lv_aload_n hx hb d_Turn_load_40 rfl (lv_at hl 0 rfl) ?_
  refine lv_aload_n hx hb d_Turn_load_41 rfl (lv_at hl 1 rfl) ?_
  refine lv_iload_n hx hb d_Turn_load_42 rfl (lv_at hl 2 rfl) ?_
  refine lv_iconst (v := 4) hx hb d_Turn_load_43 (by decide) ?_
  obtain ⟨r_14, h_13, hf⟩ := bp_e hf
  refine k_callV (As := [.int x2, .int 4]) (rest := [.ref (q 26)]) C w (c_Fair_trait (q := q) h_13) cv_Fair_trait k764 (xr_34 C w) (by decide) hl.1 rfl (Nat.le_of_ble_eq_true rfl) d_Turn_load_44 (fun H locs w => ?_)
  show WK p l e s m _ below meth c 1 g (wX g q) A none σ2 H locs (F0 m 47 ls [.int r_14, .ref (q 26)])
  refine xp_26_stays C w k409 d_Turn_load_47 (fun σ_15 H locs eσ_15 w => ?_)
  have hf := lt_e eσ_15 hf
  refine lv_aload_n hx hb d_Turn_load_50 rfl (lv_at hl 0 rfl) ?_
  refine lv_aload_n hx hb d_Turn_load_51 rfl (lv_at hl 1 rfl) ?_
  refine lv_iload_n hx hb d_Turn_load_52 rfl (lv_at hl 2 rfl) ?_
  refine lv_iconst (v := 5) hx hb d_Turn_load_53 (by decide) ?_
  obtain ⟨r_17, h_16, hf⟩ := bp_e hf
  refine k_callV (As := [.int x2, .int 5]) (rest := [.ref (q 26)]) C w (c_Fair_trait (q := q) h_16) cv_Fair_trait k764 (xr_34 C w) (by decide) hl.1 rfl (Nat.le_of_ble_eq_true rfl) d_Turn_load_54 (fun H locs w => ?_)
  show WK p l e s m _ below meth c 1 g (wX g q) A none σ2 H locs (F0 m 57 ls [.int r_17, .ref (q 26)])
  refine xp_26_lady C w k410 d_Turn_load_57 (fun σ_18 H locs eσ_18 w => ?_)
  have hf := lt_e eσ_18 hf
  refine lv_aload_n hx hb d_Turn_load_60 rfl (lv_at hl 0 rfl) ?_
  refine lv_aload_n hx hb d_Turn_load_61 rfl (lv_at hl 3 rfl) ?_
  refine lv_iconst (v := 0) hx hb d_Turn_load_62 (by decide) ?_
  refine xl_15 C w (by decide) d_Turn_load_63 ?_
  refine xp_26_bell C w k413 d_Turn_load_64 (fun σ_19 H locs eσ_19 w => ?_)
  have hf := lt_e eσ_19 hf
  refine lv_aload_n hx hb d_Turn_load_67 rfl (lv_at hl 0 rfl) ?_
  refine lv_aload_n hx hb d_Turn_load_68 rfl (lv_at hl 3 rfl) ?_
  refine lv_iconst (v := 1) hx hb d_Turn_load_69 (by decide) ?_
  refine xl_15 C w (by decide) d_Turn_load_70 ?_
  refine xp_26_slack C w k415 d_Turn_load_71 (fun σ_20 H locs eσ_20 w => ?_)
  have hf := lt_e eσ_20 hf
  refine lv_aload_n hx hb d_Turn_load_74 rfl (lv_at hl 0 rfl) ?_
  refine lv_aload_n hx hb d_Turn_load_75 rfl (lv_at hl 3 rfl) ?_
  refine lv_iconst (v := 2) hx hb d_Turn_load_76 (by decide) ?_
  refine xl_15 C w (by decide) d_Turn_load_77 ?_
  refine xp_26_price C w k417 d_Turn_load_78 (fun σ_21 H locs eσ_21 w => ?_)
  have hf := lt_e eσ_21 hf
  refine lv_aload_n hx hb d_Turn_load_81 rfl (lv_at hl 0 rfl) ?_
  refine lv_aload_n hx hb d_Turn_load_82 rfl (lv_at hl 1 rfl) ?_
  refine xg_34_settings C w k260 d_Turn_load_83 ?_
  refine lv_iconst (v := 3) hx hb d_Turn_load_86 (by decide) ?_
  refine xl_39 C w (by decide) d_Turn_load_87 ?_
  refine xp_26_tries C w k418 d_Turn_load_88 (fun σ_22 H locs eσ_22 w => ?_)
  have hf := lt_e eσ_22 hf
  refine lv_aload_n hx hb d_Turn_load_91 rfl (lv_at hl 0 rfl) ?_
  refine lv_aload_n hx hb d_Turn_load_92 rfl (lv_at hl 1 rfl) ?_
  refine xg_34_settings C w k260 d_Turn_load_93 ?_
  refine lv_iconst (v := 5) hx hb d_Turn_load_96 (by decide) ?_
  refine xl_39 C w (by decide) d_Turn_load_97 ?_
  refine xp_26_near C w k419 d_Turn_load_98 (fun σ_23 H locs eσ_23 w => ?_)
  have hf := lt_e eσ_23 hf
  refine lv_aload_n hx hb d_Turn_load_101 rfl (lv_at hl 0 rfl) ?_
  refine lv_aload_n hx hb d_Turn_load_102 rfl (lv_at hl 1 rfl) ?_
  refine xg_34_settings C w k260 d_Turn_load_103 ?_
  refine lv_iconst (v := 4) hx hb d_Turn_load_106 (by decide) ?_
  refine xl_39 C w (by decide) d_Turn_load_107 ?_
  refine xp_26_crowd C w k420 d_Turn_load_108 (fun σ_24 H locs eσ_24 w => ?_)
  have hf := lt_e eσ_24 hf
  refine lv_aload_n hx hb d_Turn_load_111 rfl (lv_at hl 1 rfl) ?_
  refine xg_34_settings C w k260 d_Turn_load_112 ?_
  refine lv_bipush (v := 6) hx hb d_Turn_load_115 (by decide) ?_
  refine lv_aload_n hx hb d_Turn_load_117 rfl (lv_at hl 0 rfl) ?_
  refine xg_26_comes C w k422 d_Turn_load_118 ?_
  refine lv_iconst (v := 0) hx hb d_Turn_load_121 (by decide) ?_
  refine lv_aload_n hx hb d_Turn_load_122 rfl (lv_at hl 0 rfl) ?_
  refine xg_26_comes C w k422 d_Turn_load_123 ?_
  refine xn_27 C w d_Turn_load_126 ?_
  refine xc_39_27 C w hl.1 (by omega) (Nat.le_of_ble_eq_true rfl) (by decide) (by decide) (by decide) (by decide) (by decide) k765 d_Turn_load_127 (fun σ_25 H locs eσ_25 w => ?_)
  have hf := lt_e eσ_25 hf
  cases some_e hf
  exact k_vret C w d_Turn_load_130
def f_Turn_coinsBehind (x1 : Int32) (σ : St) : Option (Int32) :=
  some ((sI σ 43) - (x1 * (sI σ 48)))
set_option maxHeartbeats 4000000 in
set_option maxRecDepth 20000 in
theorem c_Turn_coinsBehind {l : Launch} {g : GX} {q : Nat → Nat} {x1 : Int32}  {σ : St} {r : Int32} (hf : f_Turn_coinsBehind  x1 σ = some r) : KK l y_Turn_coinsBehind prog_10_method_3_code 2 (some .int) 0 g (wX g q) σ [.ref (q 26), .int x1] (some (.int r)) (wX g q) σ := by
  refine KK_of (plainFor_of_name (by decide)) (Nat.le_of_ble_eq_true rfl) (fun p e s m below meth c A ls C w hl => ?_)
  have hl : lv_has ls 2 [(0, .ref (q 26)), (1, .int x1)] := hl
  obtain ⟨hx, hb, hml, hown, hts, hK, hA, hZ, hlocks, hr, hN⟩ := id C
  unfold f_Turn_coinsBehind at hf
  refine lv_aload_n hx hb d_Turn_coinsBehind_0 rfl (lv_at hl 0 rfl) ?_
  refine xg_26_coins C w k408 d_Turn_coinsBehind_1 ?_
  refine lv_iload_n hx hb d_Turn_coinsBehind_4 rfl (lv_at hl 1 rfl) ?_
  refine lv_aload_n hx hb d_Turn_coinsBehind_5 rfl (lv_at hl 0 rfl) ?_
  refine xg_26_price C w k417 d_Turn_coinsBehind_6 ?_
  refine lv_imul hx hb d_Turn_coinsBehind_9 ?_
  refine lv_isub hx hb d_Turn_coinsBehind_10 ?_
  cases some_e hf
  exact k_iret C w d_Turn_coinsBehind_11
def f_Turn_isRing (x1 : Int32) (σ : St) : Option (Int32) :=
  if x1 < (sI σ 46) then
    some 0
  else
    some 1
set_option maxHeartbeats 4000000 in
set_option maxRecDepth 20000 in
theorem c_Turn_isRing {l : Launch} {g : GX} {q : Nat → Nat} {x1 : Int32}  {σ : St} {r : Int32} (hf : f_Turn_isRing  x1 σ = some r) : KK l y_Turn_isRing prog_10_method_6_code 2 (some .boolean) 0 g (wX g q) σ [.ref (q 26), .int x1] (some (.int r)) (wX g q) σ := by
  refine KK_of (plainFor_of_name (by decide)) (Nat.le_of_ble_eq_true rfl) (fun p e s m below meth c A ls C w hl => ?_)
  have hl : lv_has ls 2 [(0, .ref (q 26)), (1, .int x1)] := hl
  obtain ⟨hx, hb, hml, hown, hts, hK, hA, hZ, hlocks, hr, hN⟩ := id C
  unfold f_Turn_isRing at hf
  refine lv_iload_n hx hb d_Turn_isRing_0 rfl (lv_at hl 1 rfl) ?_
  refine lv_aload_n hx hb d_Turn_isRing_1 rfl (lv_at hl 0 rfl) ?_
  refine xg_26_bell C w k413 d_Turn_isRing_2 ?_
  refine lv_icmp_lt (tgt := 12) hx hb d_Turn_isRing_5 (by decide) (fun cd => ?_) (fun cd => ?_)
  · have hf := it_e cd hf
    refine lv_iconst (v := 0) hx hb d_Turn_isRing_12 (by decide) ?_
    cases some_e hf
    exact k_zret C w (by decide) d_Turn_isRing_13
  · have hf := if_e cd hf
    refine lv_iconst (v := 1) hx hb d_Turn_isRing_8 (by decide) ?_
    refine lv_goto (tgt := 13) hx hb d_Turn_isRing_9 (by decide) ?_
    cases some_e hf
    exact k_zret C w (by decide) d_Turn_isRing_13
def f_Turn_goesOn (x1 : Int32) (x2 : Int32) (σ : St) : Option (Int32) :=
  if (sI σ 49) ≤ x1 then
    some 0
  else
    bp (f_Turn_coinsBehind x1 σ) fun r_2 =>
    if (sI σ 48) ≤ r_2 then
      if x1 = 0 then
        some 1
      else
        bp (f_Turn_isRing x2 σ) fun r_4 =>
        if r_4 = 0 then
          if (sI σ 44) < ((sI σ 46) - x2) then
            some 0
          else
            some 1
        else
          some 0
    else
      some 0
set_option maxHeartbeats 4000000 in
set_option maxRecDepth 20000 in
theorem c_Turn_goesOn {l : Launch} {g : GX} {q : Nat → Nat} {x1 : Int32} {x2 : Int32}  {σ : St} {r : Int32} (hf : f_Turn_goesOn  x1 x2 σ = some r) : KK l y_Turn_goesOn prog_10_method_4_code 3 (some .boolean) 1 g (wX g q) σ [.ref (q 26), .int x1, .int x2] (some (.int r)) (wX g q) σ := by
  refine KK_of (plainFor_of_name (by decide)) (Nat.le_of_ble_eq_true rfl) (fun p e s m below meth c A ls C w hl => ?_)
  have hl : lv_has ls 3 [(0, .ref (q 26)), (1, .int x1), (2, .int x2)] := hl
  obtain ⟨hx, hb, hml, hown, hts, hK, hA, hZ, hlocks, hr, hN⟩ := id C
  unfold f_Turn_goesOn at hf
  refine lv_iload_n hx hb d_Turn_goesOn_0 rfl (lv_at hl 1 rfl) ?_
  refine lv_aload_n hx hb d_Turn_goesOn_1 rfl (lv_at hl 0 rfl) ?_
  refine xg_26_tries C w k418 d_Turn_goesOn_2 ?_
  refine lv_icmp_ge (tgt := 20) hx hb d_Turn_goesOn_5 (by decide) (fun cd => ?_) (fun cd => ?_)
  · have hf := it_e cd hf
    refine lv_iconst (v := 0) hx hb d_Turn_goesOn_20 (by decide) ?_
    cases some_e hf
    exact k_zret C w (by decide) d_Turn_goesOn_21
  · have hf := if_e cd hf
    refine lv_aload_n hx hb d_Turn_goesOn_8 rfl (lv_at hl 0 rfl) ?_
    refine lv_iload_n hx hb d_Turn_goesOn_9 rfl (lv_at hl 1 rfl) ?_
    obtain ⟨r_2, h_1, hf⟩ := bp_e hf
    refine k_callV (As := [.int x1]) (rest := []) C w (c_Turn_coinsBehind (q := q) h_1) cv_Turn_coinsBehind k844 (xr_26 C w) (by decide) hl.1 rfl (Nat.le_of_ble_eq_true rfl) d_Turn_goesOn_10 (fun H locs w => ?_)
    show WK p l e s m _ below meth c 1 g (wX g q) A (some (.int r)) σ H locs (F0 m 13 ls [.int r_2])
    refine lv_aload_n hx hb d_Turn_goesOn_13 rfl (lv_at hl 0 rfl) ?_
    refine xg_26_price C w k417 d_Turn_goesOn_14 ?_
    refine lv_icmp_ge (tgt := 22) hx hb d_Turn_goesOn_17 (by decide) (fun cd => ?_) (fun cd => ?_)
    · have hf := it_e cd hf
      refine lv_iload_n hx hb d_Turn_goesOn_22 rfl (lv_at hl 1 rfl) ?_
      refine lv_if_eq (tgt := 47) hx hb d_Turn_goesOn_23 (by decide) (fun cd => ?_) (fun cd => ?_)
      · have hf := it_e cd hf
        refine lv_iconst (v := 1) hx hb d_Turn_goesOn_47 (by decide) ?_
        refine lv_goto (tgt := 52) hx hb d_Turn_goesOn_48 (by decide) ?_
        cases some_e hf
        exact k_zret C w (by decide) d_Turn_goesOn_52
      · have hf := if_e cd hf
        refine lv_aload_n hx hb d_Turn_goesOn_26 rfl (lv_at hl 0 rfl) ?_
        refine lv_iload_n hx hb d_Turn_goesOn_27 rfl (lv_at hl 2 rfl) ?_
        obtain ⟨r_4, h_3, hf⟩ := bp_e hf
        refine k_callV (As := [.int x2]) (rest := []) C w (c_Turn_isRing (q := q) h_3) cv_Turn_isRing k848 (xr_26 C w) (by decide) hl.1 rfl (Nat.le_of_ble_eq_true rfl) d_Turn_goesOn_28 (fun H locs w => ?_)
        show WK p l e s m _ below meth c 1 g (wX g q) A (some (.int r)) σ H locs (F0 m 31 ls [.int r_4])
        refine lv_if_ne (tgt := 51) hx hb d_Turn_goesOn_31 (by decide) (fun cd => ?_) (fun cd => ?_)
        · have hf := if_e cd hf
          refine lv_iconst (v := 0) hx hb d_Turn_goesOn_51 (by decide) ?_
          cases some_e hf
          exact k_zret C w (by decide) d_Turn_goesOn_52
        · have hf := it_e cd hf
          refine lv_aload_n hx hb d_Turn_goesOn_34 rfl (lv_at hl 0 rfl) ?_
          refine xg_26_bell C w k413 d_Turn_goesOn_35 ?_
          refine lv_iload_n hx hb d_Turn_goesOn_38 rfl (lv_at hl 2 rfl) ?_
          refine lv_isub hx hb d_Turn_goesOn_39 ?_
          refine lv_aload_n hx hb d_Turn_goesOn_40 rfl (lv_at hl 0 rfl) ?_
          refine xg_26_stays C w k409 d_Turn_goesOn_41 ?_
          refine lv_icmp_gt (tgt := 51) hx hb d_Turn_goesOn_44 (by decide) (fun cd => ?_) (fun cd => ?_)
          · have hf := it_e cd hf
            refine lv_iconst (v := 0) hx hb d_Turn_goesOn_51 (by decide) ?_
            cases some_e hf
            exact k_zret C w (by decide) d_Turn_goesOn_52
          · have hf := if_e cd hf
            refine lv_iconst (v := 1) hx hb d_Turn_goesOn_47 (by decide) ?_
            refine lv_goto (tgt := 52) hx hb d_Turn_goesOn_48 (by decide) ?_
            cases some_e hf
            exact k_zret C w (by decide) d_Turn_goesOn_52
    · have hf := if_e cd hf
      refine lv_iconst (v := 0) hx hb d_Turn_goesOn_20 (by decide) ?_
      cases some_e hf
      exact k_zret C w (by decide) d_Turn_goesOn_21
def f_Showman_look_2 (x1 : Int32) (x2 : Int32) (x3 : Int32) (x4 : Int32) (σ : St) : Option (St) :=
  lt (uA σ 18 (upd (sA σ 18) (0 : Int32).toNatClampNeg x1)) fun σ_1 =>
  lt (uA σ_1 18 (upd (sA σ_1 18) (1 : Int32).toNatClampNeg x2)) fun σ_2 =>
  lt (uA σ_2 18 (upd (sA σ_2 18) (2 : Int32).toNatClampNeg x3)) fun σ_3 =>
  lt (uA σ_3 18 (upd (sA σ_3 18) (4 : Int32).toNatClampNeg x4)) fun σ_4 =>
  some σ_4
set_option maxHeartbeats 4000000 in
set_option maxRecDepth 20000 in
theorem c_Showman_look_2 {l : Launch} {g : GX} {q : Nat → Nat} {x1 : Int32} {x2 : Int32} {x3 : Int32} {x4 : Int32}  {σ : St} {σ2 : St} (hf : f_Showman_look_2  x1 x2 x3 x4 σ = some σ2) : KK l y_Showman_look prog_7_method_2_code 5 none 0 g (wX g q) σ [.ref (q 28), .int x1, .int x2, .int x3, .int x4] none (wX g q) σ2 := by
  refine KK_of (plainFor_of_name (by decide)) (Nat.le_of_ble_eq_true rfl) (fun p e s m below meth c A ls C w hl => ?_)
  have hl : lv_has ls 5 [(0, .ref (q 28)), (1, .int x1), (2, .int x2), (3, .int x3), (4, .int x4)] := hl
  obtain ⟨hx, hb, hml, hown, hts, hK, hA, hZ, hlocks, hr, hN⟩ := id C
  unfold f_Showman_look_2 at hf
  refine lv_aload_n hx hb d_Showman_look_0 rfl (lv_at hl 0 rfl) ?_
  refine xg_28_facts C w k389 d_Showman_look_1 ?_
  refine lv_iconst (v := 0) hx hb d_Showman_look_4 (by decide) ?_
  refine lv_iload_n hx hb d_Showman_look_5 rfl (lv_at hl 1 rfl) ?_
  refine xs_29 C w (by decide) d_Showman_look_6 (fun σ_1 H locs eσ_1 w => ?_)
  have hf := lt_e eσ_1 hf
  refine lv_aload_n hx hb d_Showman_look_7 rfl (lv_at hl 0 rfl) ?_
  refine xg_28_facts C w k389 d_Showman_look_8 ?_
  refine lv_iconst (v := 1) hx hb d_Showman_look_11 (by decide) ?_
  refine lv_iload_n hx hb d_Showman_look_12 rfl (lv_at hl 2 rfl) ?_
  refine xs_29 C w (by decide) d_Showman_look_13 (fun σ_2 H locs eσ_2 w => ?_)
  have hf := lt_e eσ_2 hf
  refine lv_aload_n hx hb d_Showman_look_14 rfl (lv_at hl 0 rfl) ?_
  refine xg_28_facts C w k389 d_Showman_look_15 ?_
  refine lv_iconst (v := 2) hx hb d_Showman_look_18 (by decide) ?_
  refine lv_iload_n hx hb d_Showman_look_19 rfl (lv_at hl 3 rfl) ?_
  refine xs_29 C w (by decide) d_Showman_look_20 (fun σ_3 H locs eσ_3 w => ?_)
  have hf := lt_e eσ_3 hf
  refine lv_aload_n hx hb d_Showman_look_21 rfl (lv_at hl 0 rfl) ?_
  refine xg_28_facts C w k389 d_Showman_look_22 ?_
  refine lv_iconst (v := 4) hx hb d_Showman_look_25 (by decide) ?_
  refine lv_iload hx hb d_Showman_look_26 (lv_at hl 4 rfl) ?_
  refine xs_29 C w (by decide) d_Showman_look_28 (fun σ_4 H locs eσ_4 w => ?_)
  have hf := lt_e eσ_4 hf
  cases some_e hf
  exact k_vret C w d_Showman_look_29
def f_Showman_lookAt_2 (x1 : Int32) (x2 : Int32) (σ : St) : Option (St) :=
  lt (uA σ 18 (upd (sA σ 18) (3 : Int32).toNatClampNeg x1)) fun σ_1 =>
  lt (uA σ_1 18 (upd (sA σ_1 18) (5 : Int32).toNatClampNeg x2)) fun σ_2 =>
  some σ_2
set_option maxHeartbeats 4000000 in
set_option maxRecDepth 20000 in
theorem c_Showman_lookAt_2 {l : Launch} {g : GX} {q : Nat → Nat} {x1 : Int32} {x2 : Int32}  {σ : St} {σ2 : St} (hf : f_Showman_lookAt_2  x1 x2 σ = some σ2) : KK l y_Showman_lookAt prog_7_method_3_code 3 none 0 g (wX g q) σ [.ref (q 28), .int x1, .int x2] none (wX g q) σ2 := by
  refine KK_of (plainFor_of_name (by decide)) (Nat.le_of_ble_eq_true rfl) (fun p e s m below meth c A ls C w hl => ?_)
  have hl : lv_has ls 3 [(0, .ref (q 28)), (1, .int x1), (2, .int x2)] := hl
  obtain ⟨hx, hb, hml, hown, hts, hK, hA, hZ, hlocks, hr, hN⟩ := id C
  unfold f_Showman_lookAt_2 at hf
  refine lv_aload_n hx hb d_Showman_lookAt_0 rfl (lv_at hl 0 rfl) ?_
  refine xg_28_facts C w k389 d_Showman_lookAt_1 ?_
  refine lv_iconst (v := 3) hx hb d_Showman_lookAt_4 (by decide) ?_
  refine lv_iload_n hx hb d_Showman_lookAt_5 rfl (lv_at hl 1 rfl) ?_
  refine xs_29 C w (by decide) d_Showman_lookAt_6 (fun σ_1 H locs eσ_1 w => ?_)
  have hf := lt_e eσ_1 hf
  refine lv_aload_n hx hb d_Showman_lookAt_7 rfl (lv_at hl 0 rfl) ?_
  refine xg_28_facts C w k389 d_Showman_lookAt_8 ?_
  refine lv_iconst (v := 5) hx hb d_Showman_lookAt_11 (by decide) ?_
  refine lv_iload_n hx hb d_Showman_lookAt_12 rfl (lv_at hl 2 rfl) ?_
  refine xs_29 C w (by decide) d_Showman_lookAt_13 (fun σ_2 H locs eσ_2 w => ?_)
  have hf := lt_e eσ_2 hf
  cases some_e hf
  exact k_vret C w d_Showman_lookAt_14
def f_Tree_shareOf (x1 : Int64) (σ : St) : Option (Int64) :=
  lt (((sI σ 41) + 1)) fun x_1 =>
  if 0 < x_1 then
    gd (nzJ (x_1).toInt64) <|
    some (x1 / (x_1).toInt64)
  else
    some 0
set_option maxHeartbeats 4000000 in
set_option maxRecDepth 20000 in
theorem c_Tree_shareOf {l : Launch} {g : GX} {q : Nat → Nat} {x1 : Int64}  {σ : St} {r : Int64} (hf : f_Tree_shareOf  x1 σ = some r) : KK l y_Tree_shareOf prog_9_method_7_code 4 (some .long) 0 g (wX g q) σ [.ref (q 25), .long x1] (some (.long r)) (wX g q) σ := by
  refine KK_of (plainFor_of_name (by decide)) (Nat.le_of_ble_eq_true rfl) (fun p e s m below meth c A ls C w hl => ?_)
  have hl : lv_has ls 4 [(0, .ref (q 25)), (1, .long x1)] := hl
  obtain ⟨hx, hb, hml, hown, hts, hK, hA, hZ, hlocks, hr, hN⟩ := id C
  unfold f_Tree_shareOf at hf
  refine lv_aload_n hx hb d_Tree_shareOf_0 rfl (lv_at hl 0 rfl) ?_
  refine xg_25_turn C w k460 d_Tree_shareOf_1 ?_
  refine xg_26_aim C w k405 d_Tree_shareOf_4 ?_
  refine lv_iconst (v := 1) hx hb d_Tree_shareOf_7 (by decide) ?_
  refine lv_iadd hx hb d_Tree_shareOf_8 ?_
  refine lv_topi (fun x_1 ex_1 => ?_)
  have hf := lt_e ex_1 hf
  refine lv_istore_n (lv' := [(3, .int x_1), (0, .ref (q 25)), (1, .long x1)]) hx hb d_Tree_shareOf_9 rfl hl (by decide) rfl (fun ls hl => ?_)
  refine lv_iload_n hx hb d_Tree_shareOf_10 rfl (lv_at hl 0 rfl) ?_
  refine lv_if_gt (tgt := 18) hx hb d_Tree_shareOf_11 (by decide) (fun cd => ?_) (fun cd => ?_)
  · have hf := it_e cd hf
    refine lv_lload_n hx hb d_Tree_shareOf_18 rfl (lv_at hl 2 rfl) ?_
    refine lv_iload_n hx hb d_Tree_shareOf_19 rfl (lv_at hl 0 rfl) ?_
    refine lv_i2l hx hb d_Tree_shareOf_20 rfl ?_
    obtain ⟨g_2, hf⟩ := gd_e hf
    refine lv_ldiv hx hb d_Tree_shareOf_21 (nzJ_e g_2) ?_
    cases some_e hf
    exact k_lret C w d_Tree_shareOf_22
  · have hf := if_e cd hf
    refine lv_lconst (v := 0) hx hb d_Tree_shareOf_14 (by decide) ?_
    refine lv_goto (tgt := 22) hx hb d_Tree_shareOf_15 (by decide) ?_
    cases some_e hf
    exact k_lret C w d_Tree_shareOf_22
def f_Turn_height_2_36 (t0 : Int32) (t1 : Int32) (t2 : Int32) (t3 : Int32) (σ : St) : Option (Int32) :=
  bp (f_BH_rise t2 t1 t0 σ) fun r_2 =>
  some (iMin t3 r_2)
def f_Turn_height_2 (x1 : Int32) (x2 : Int32) (x3 : Int32) (σ : St) : Option (Int32) :=
  lt ((iMax 1 ((sI σ 40) - (x1 * (sI σ 42))))) fun x_1 =>
  if x3 = 0 then
    f_Turn_height_2_36 0 x2 x_1 (sI σ 46) σ
  else
    f_Turn_height_2_36 (sI σ 47) x2 x_1 (sI σ 46) σ
set_option maxHeartbeats 4000000 in
set_option maxRecDepth 20000 in
theorem t_Turn_height_2_36 {r : Int32} {σ : St} (C : Cx g A p s m av meth c prog_10_method_5_code 5 "BellHammer$Turn" (some .int))  {t0 : Int32} {t1 : Int32} {t2 : Int32} {t3 : Int32} {H : Heap} {locs : List Loc} {ls : Array Slot} (hf : f_Turn_height_2_36   t0 t1 t2 t3 σ = some r) (w : Wd g (wX g q) A s σ H locs) (hl : lv_has ls 5 []) : WK p l e s m av below meth c 1 g (wX g q) A (some (.int r)) σ H locs (F0 m 36 ls [.int t0, .int t1, .int t2, .int t3]) := by
  obtain ⟨hx, hb, hml, hown, hts, hK, hA, hZ, hlocks, hr, hN⟩ := id C
  unfold f_Turn_height_2_36 at hf
  obtain ⟨r_2, h_1, hf⟩ := bp_e hf
  refine k_callSN (As := [.int t2, .int t1, .int t0]) (rest := [.int t3]) C w (c_BH_rise (q := q) h_1) cv_BH_rise (List.mem_of_getElem? (l := nestM) (i := 7) rfl) (by decide) hl.1 rfl (Nat.le_of_ble_eq_true rfl) d_Turn_height_36 (fun H locs w => ?_)
  show WK p l e s m av below meth c 1 g (wX g q) A (some (.int r)) σ H locs (F0 m 39 ls [.int r_2, .int t3])
  refine r_min C hl.1 (by omega) (Nat.le_of_ble_eq_true rfl) k776 d_Turn_height_39 ?_
  cases some_e hf
  exact k_iret C w d_Turn_height_42
set_option maxHeartbeats 4000000 in
set_option maxRecDepth 20000 in
theorem c_Turn_height_2 {l : Launch} {g : GX} {q : Nat → Nat} {x1 : Int32} {x2 : Int32} {x3 : Int32}  {σ : St} {r : Int32} (hf : f_Turn_height_2  x1 x2 x3 σ = some r) : KK l y_Turn_height prog_10_method_5_code 5 (some .int) 1 g (wX g q) σ [.ref (q 26), .int x1, .int x2, .int x3] (some (.int r)) (wX g q) σ := by
  refine KK_of (plainFor_of_name (by decide)) (Nat.le_of_ble_eq_true rfl) (fun p e s m below meth c A ls C w hl => ?_)
  have hl : lv_has ls 5 [(0, .ref (q 26)), (1, .int x1), (2, .int x2), (3, .int x3)] := hl
  obtain ⟨hx, hb, hml, hown, hts, hK, hA, hZ, hlocks, hr, hN⟩ := id C
  unfold f_Turn_height_2 at hf
  refine lv_iconst (v := 1) hx hb d_Turn_height_0 (by decide) ?_
  refine lv_aload_n hx hb d_Turn_height_1 rfl (lv_at hl 0 rfl) ?_
  refine xg_26_force C w k402 d_Turn_height_2 ?_
  refine lv_iload_n hx hb d_Turn_height_5 rfl (lv_at hl 1 rfl) ?_
  refine lv_aload_n hx hb d_Turn_height_6 rfl (lv_at hl 0 rfl) ?_
  refine xg_26_tires C w k407 d_Turn_height_7 ?_
  refine lv_imul hx hb d_Turn_height_10 ?_
  refine lv_isub hx hb d_Turn_height_11 ?_
  refine r_max C hl.1 (by omega) (Nat.le_of_ble_eq_true rfl) k770 d_Turn_height_12 ?_
  refine lv_topi (fun x_1 ex_1 => ?_)
  have hf := lt_e ex_1 hf
  refine lv_istore (lv' := [(4, .int x_1), (0, .ref (q 26)), (1, .int x1), (2, .int x2), (3, .int x3)]) hx hb d_Turn_height_15 hl (by decide) rfl (fun ls hl => ?_)
  refine lv_aload_n hx hb d_Turn_height_17 rfl (lv_at hl 1 rfl) ?_
  refine xg_26_bell C w k413 d_Turn_height_18 ?_
  refine lv_iload hx hb d_Turn_height_21 (lv_at hl 0 rfl) ?_
  refine lv_iload_n hx hb d_Turn_height_23 rfl (lv_at hl 3 rfl) ?_
  refine lv_iload_n hx hb d_Turn_height_24 rfl (lv_at hl 4 rfl) ?_
  refine lv_if_eq (tgt := 35) hx hb d_Turn_height_25 (by decide) (fun cd => ?_) (fun cd => ?_)
  · have hf := it_e cd hf
    refine lv_iconst (v := 0) hx hb d_Turn_height_35 (by decide) ?_
    exact t_Turn_height_2_36 C  hf w (lv_sub hl [] rfl)
  · have hf := if_e cd hf
    refine lv_aload_n hx hb d_Turn_height_28 rfl (lv_at hl 1 rfl) ?_
    refine xg_26_slack C w k415 d_Turn_height_29 ?_
    refine lv_goto (tgt := 36) hx hb d_Turn_height_32 (by decide) ?_
    exact t_Turn_height_2_36 C  hf w (lv_sub hl [] rfl)
def f_Turn_isNear (x1 : Int32) (σ : St) : Option (Int32) :=
  if (sI σ 46) ≤ x1 then
    some 0
  else
    if (sI σ 50) < ((sI σ 46) - x1) then
      some 0
    else
      some 1
set_option maxHeartbeats 4000000 in
set_option maxRecDepth 20000 in
theorem c_Turn_isNear {l : Launch} {g : GX} {q : Nat → Nat} {x1 : Int32}  {σ : St} {r : Int32} (hf : f_Turn_isNear  x1 σ = some r) : KK l y_Turn_isNear prog_10_method_7_code 2 (some .boolean) 0 g (wX g q) σ [.ref (q 26), .int x1] (some (.int r)) (wX g q) σ := by
  refine KK_of (plainFor_of_name (by decide)) (Nat.le_of_ble_eq_true rfl) (fun p e s m below meth c A ls C w hl => ?_)
  have hl : lv_has ls 2 [(0, .ref (q 26)), (1, .int x1)] := hl
  obtain ⟨hx, hb, hml, hown, hts, hK, hA, hZ, hlocks, hr, hN⟩ := id C
  unfold f_Turn_isNear at hf
  refine lv_iload_n hx hb d_Turn_isNear_0 rfl (lv_at hl 1 rfl) ?_
  refine lv_aload_n hx hb d_Turn_isNear_1 rfl (lv_at hl 0 rfl) ?_
  refine xg_26_bell C w k413 d_Turn_isNear_2 ?_
  refine lv_icmp_ge (tgt := 25) hx hb d_Turn_isNear_5 (by decide) (fun cd => ?_) (fun cd => ?_)
  · have hf := it_e cd hf
    refine lv_iconst (v := 0) hx hb d_Turn_isNear_25 (by decide) ?_
    cases some_e hf
    exact k_zret C w (by decide) d_Turn_isNear_26
  · have hf := if_e cd hf
    refine lv_aload_n hx hb d_Turn_isNear_8 rfl (lv_at hl 0 rfl) ?_
    refine xg_26_bell C w k413 d_Turn_isNear_9 ?_
    refine lv_iload_n hx hb d_Turn_isNear_12 rfl (lv_at hl 1 rfl) ?_
    refine lv_isub hx hb d_Turn_isNear_13 ?_
    refine lv_aload_n hx hb d_Turn_isNear_14 rfl (lv_at hl 0 rfl) ?_
    refine xg_26_near C w k419 d_Turn_isNear_15 ?_
    refine lv_icmp_gt (tgt := 25) hx hb d_Turn_isNear_18 (by decide) (fun cd => ?_) (fun cd => ?_)
    · have hf := it_e cd hf
      refine lv_iconst (v := 0) hx hb d_Turn_isNear_25 (by decide) ?_
      cases some_e hf
      exact k_zret C w (by decide) d_Turn_isNear_26
    · have hf := if_e cd hf
      refine lv_iconst (v := 1) hx hb d_Turn_isNear_21 (by decide) ?_
      refine lv_goto (tgt := 26) hx hb d_Turn_isNear_22 (by decide) ?_
      cases some_e hf
      exact k_zret C w (by decide) d_Turn_isNear_26
def f_Turn_brings (x1 : Int32) (σ : St) : Option (Int32) :=
  bp (f_Turn_isRing x1 σ) fun r_2 =>
  if r_2 = 0 then
    bp (f_Turn_isNear x1 σ) fun r_4 =>
    if r_4 = 0 then
      some (sA σ 17 (2 : Int32).toNatClampNeg)
    else
      some (sA σ 17 (1 : Int32).toNatClampNeg)
  else
    some (sA σ 17 (0 : Int32).toNatClampNeg)
set_option maxHeartbeats 4000000 in
set_option maxRecDepth 20000 in
theorem c_Turn_brings {l : Launch} {g : GX} {q : Nat → Nat} {x1 : Int32}  {σ : St} {r : Int32} (hf : f_Turn_brings  x1 σ = some r) : KK l y_Turn_brings prog_10_method_8_code 2 (some .int) 1 g (wX g q) σ [.ref (q 26), .int x1] (some (.int r)) (wX g q) σ := by
  refine KK_of (plainFor_of_name (by decide)) (Nat.le_of_ble_eq_true rfl) (fun p e s m below meth c A ls C w hl => ?_)
  have hl : lv_has ls 2 [(0, .ref (q 26)), (1, .int x1)] := hl
  obtain ⟨hx, hb, hml, hown, hts, hK, hA, hZ, hlocks, hr, hN⟩ := id C
  unfold f_Turn_brings at hf
  refine lv_aload_n hx hb d_Turn_brings_0 rfl (lv_at hl 0 rfl) ?_
  refine lv_iload_n hx hb d_Turn_brings_1 rfl (lv_at hl 1 rfl) ?_
  obtain ⟨r_2, h_1, hf⟩ := bp_e hf
  refine k_callV (As := [.int x1]) (rest := []) C w (c_Turn_isRing (q := q) h_1) cv_Turn_isRing k848 (xr_26 C w) (by decide) hl.1 rfl (Nat.le_of_ble_eq_true rfl) d_Turn_brings_2 (fun H locs w => ?_)
  show WK p l e s m _ below meth c 1 g (wX g q) A (some (.int r)) σ H locs (F0 m 5 ls [.int r_2])
  refine lv_if_eq (tgt := 15) hx hb d_Turn_brings_5 (by decide) (fun cd => ?_) (fun cd => ?_)
  · have hf := it_e cd hf
    refine lv_aload_n hx hb d_Turn_brings_15 rfl (lv_at hl 0 rfl) ?_
    refine lv_iload_n hx hb d_Turn_brings_16 rfl (lv_at hl 1 rfl) ?_
    obtain ⟨r_4, h_3, hf⟩ := bp_e hf
    refine k_callV (As := [.int x1]) (rest := []) C w (c_Turn_isNear (q := q) h_3) cv_Turn_isNear k868 (xr_26 C w) (by decide) hl.1 rfl (Nat.le_of_ble_eq_true rfl) d_Turn_brings_17 (fun H locs w => ?_)
    show WK p l e s m _ below meth c 1 g (wX g q) A (some (.int r)) σ H locs (F0 m 20 ls [.int r_4])
    refine lv_if_eq (tgt := 32) hx hb d_Turn_brings_20 (by decide) (fun cd => ?_) (fun cd => ?_)
    · have hf := it_e cd hf
      refine lv_aload_n hx hb d_Turn_brings_32 rfl (lv_at hl 0 rfl) ?_
      refine xg_26_comes C w k422 d_Turn_brings_33 ?_
      refine lv_iconst (v := 2) hx hb d_Turn_brings_36 (by decide) ?_
      refine xl_27 C w (by decide) d_Turn_brings_37 ?_
      cases some_e hf
      exact k_iret C w d_Turn_brings_38
    · have hf := if_e cd hf
      refine lv_aload_n hx hb d_Turn_brings_23 rfl (lv_at hl 0 rfl) ?_
      refine xg_26_comes C w k422 d_Turn_brings_24 ?_
      refine lv_iconst (v := 1) hx hb d_Turn_brings_27 (by decide) ?_
      refine xl_27 C w (by decide) d_Turn_brings_28 ?_
      refine lv_goto (tgt := 38) hx hb d_Turn_brings_29 (by decide) ?_
      cases some_e hf
      exact k_iret C w d_Turn_brings_38
  · have hf := if_e cd hf
    refine lv_aload_n hx hb d_Turn_brings_8 rfl (lv_at hl 0 rfl) ?_
    refine xg_26_comes C w k422 d_Turn_brings_9 ?_
    refine lv_iconst (v := 0) hx hb d_Turn_brings_12 (by decide) ?_
    refine xl_27 C w (by decide) d_Turn_brings_13 ?_
    cases some_e hf
    exact k_iret C w d_Turn_brings_14
def f_Showman_valueOf_2 (x1 : Int32) (σ : St) : Option (Int32) :=
  lt ((x1 - 10000)) fun x_1 =>
  if 0 ≤ x_1 then
    if 6 ≤ x_1 then
      some 0
    else
      gd (inB x_1 6) <|
      some (sA σ 18 x_1.toNatClampNeg)
  else
    some x1
set_option maxHeartbeats 4000000 in
set_option maxRecDepth 20000 in
theorem c_Showman_valueOf_2 {l : Launch} {g : GX} {q : Nat → Nat} {x1 : Int32}  {σ : St} {r : Int32} (hf : f_Showman_valueOf_2  x1 σ = some r) : KK l y_Showman_valueOf prog_7_method_6_code 3 (some .int) 0 g (wX g q) σ [.ref (q 28), .int x1] (some (.int r)) (wX g q) σ := by
  refine KK_of (plainFor_of_name (by decide)) (Nat.le_of_ble_eq_true rfl) (fun p e s m below meth c A ls C w hl => ?_)
  have hl : lv_has ls 3 [(0, .ref (q 28)), (1, .int x1)] := hl
  obtain ⟨hx, hb, hml, hown, hts, hK, hA, hZ, hlocks, hr, hN⟩ := id C
  unfold f_Showman_valueOf_2 at hf
  refine lv_iload_n hx hb d_Showman_valueOf_0 rfl (lv_at hl 1 rfl) ?_
  refine lv_sipush (v := 10000) hx hb d_Showman_valueOf_1 (by decide) ?_
  refine lv_isub hx hb d_Showman_valueOf_4 ?_
  refine lv_topi (fun x_1 ex_1 => ?_)
  have hf := lt_e ex_1 hf
  refine lv_istore_n (lv' := [(2, .int x_1), (0, .ref (q 28)), (1, .int x1)]) hx hb d_Showman_valueOf_5 rfl hl (by decide) rfl (fun ls hl => ?_)
  refine lv_iload_n hx hb d_Showman_valueOf_6 rfl (lv_at hl 0 rfl) ?_
  refine lv_if_ge (tgt := 12) hx hb d_Showman_valueOf_7 (by decide) (fun cd => ?_) (fun cd => ?_)
  · have hf := it_e cd hf
    refine lv_iload_n hx hb d_Showman_valueOf_12 rfl (lv_at hl 0 rfl) ?_
    refine lv_aload_n hx hb d_Showman_valueOf_13 rfl (lv_at hl 1 rfl) ?_
    refine xg_28_facts C w k389 d_Showman_valueOf_14 ?_
    refine xn_29 C w d_Showman_valueOf_17 ?_
    refine lv_icmp_ge (tgt := 30) hx hb d_Showman_valueOf_18 (by decide) (fun cd => ?_) (fun cd => ?_)
    · have hf := it_e cd hf
      refine lv_iconst (v := 0) hx hb d_Showman_valueOf_30 (by decide) ?_
      cases some_e hf
      exact k_iret C w d_Showman_valueOf_31
    · have hf := if_e cd hf
      refine lv_aload_n hx hb d_Showman_valueOf_21 rfl (lv_at hl 1 rfl) ?_
      refine xg_28_facts C w k389 d_Showman_valueOf_22 ?_
      refine lv_iload_n hx hb d_Showman_valueOf_25 rfl (lv_at hl 0 rfl) ?_
      obtain ⟨g_2, hf⟩ := gd_e hf
      refine xl_29 C w g_2 d_Showman_valueOf_26 ?_
      refine lv_goto (tgt := 31) hx hb d_Showman_valueOf_27 (by decide) ?_
      cases some_e hf
      exact k_iret C w d_Showman_valueOf_31
  · have hf := if_e cd hf
    refine lv_iload_n hx hb d_Showman_valueOf_10 rfl (lv_at hl 2 rfl) ?_
    cases some_e hf
    exact k_iret C w d_Showman_valueOf_11
def f_Showman_holds_2_145 (x4 : Int32) (σ : St) : Option (Int32 × St) :=
  if x4 ≤ 0 then
    some (0, σ)
  else
    gd (inB (x4 - 1) 64) <|
    if (sA σ 19 (x4 - 1).toNatClampNeg) = 0 then
      some (0, σ)
    else
      some (1, σ)
def f_Showman_holds_2_6b (k6 : Int32 → Int32 → Int32 → St → Option (Int32 × St)) (x3 : Int32) (x4 : Int32) (x5 : Int32) (σ : St) : Option (Int32 × St) :=
  if x3 ≤ x5 then
    f_Showman_holds_2_145 x4 σ
  else
    if 1600 ≤ x5 then
      f_Showman_holds_2_145 x4 σ
    else
      gd (inB x5 1600) <|
      lt ((sA σ 26 x5.toNatClampNeg)) fun x_2 =>
      if 10010 ≤ x_2 then
        if x_2 = 10010 then
          if x4 ≤ 0 then
            lt ((x5 + 1)) fun x_12 =>
            k6 x3 x4 x_12 σ
          else
            gd (inB (x4 - 1) 64) <|
            gd (inB (x4 - 1) 64) <|
            lt (uA σ 19 (upd (sA σ 19) (x4 - 1).toNatClampNeg (1 - (sA σ 19 (x4 - 1).toNatClampNeg)))) fun σ_15 =>
            lt ((x5 + 1)) fun x_16 =>
            k6 x3 x4 x_16 σ_15
        else
          if x4 ≤ 1 then
            lt ((x5 + 1)) fun x_3 =>
            k6 x3 x4 x_3 σ
          else
            gd (inB (x4 - 2) 64) <|
            gd (inB (x4 - 1) 64) <|
            bp (f_Showman_join x_2 (sA σ 19 (x4 - 2).toNatClampNeg) (sA σ 19 (x4 - 1).toNatClampNeg) σ) fun r_7 =>
            gd (inB (x4 - 2) 64) <|
            lt (uA σ 19 (upd (sA σ 19) (x4 - 2).toNatClampNeg r_7)) fun σ_9 =>
            lt ((x4 + (-1))) fun x_10 =>
            lt ((x5 + 1)) fun x_11 =>
            k6 x3 x_10 x_11 σ_9
      else
        if 64 ≤ x4 then
          lt ((x5 + 1)) fun x_17 =>
          k6 x3 x4 x_17 σ
        else
          bp (f_Showman_valueOf_2 x_2 σ) fun r_19 =>
          gd (inB x4 64) <|
          lt (uA σ 19 (upd (sA σ 19) x4.toNatClampNeg r_19)) fun σ_21 =>
          lt ((x4 + 1)) fun x_22 =>
          lt ((x5 + 1)) fun x_23 =>
          k6 x3 x_22 x_23 σ_21
def f_Showman_holds_2_6 : Nat → Int32 → Int32 → Int32 → St → Option (Int32 × St)
  | 0 => fun _ _ _ _ => none
  | n + 1 => f_Showman_holds_2_6b   (f_Showman_holds_2_6   n)
def f_Showman_holds_2 (x2 : Int32) (x3 : Int32) (σ : St) : Option (Int32 × St) :=
  f_Showman_holds_2_6 FU x3 0 x2 σ
set_option maxHeartbeats 4000000 in
set_option maxRecDepth 20000 in
theorem t_Showman_holds_2_145 {r : Int32} {σ2 : St} (C : Cx g A p s m av meth c prog_7_method_5_code 7 "BellHammer$Showman" (some .boolean))  {x4 : Int32} {σ : St} {H : Heap} {locs : List Loc} {ls : Array Slot} (hf : f_Showman_holds_2_145   x4 σ = some (r, σ2)) (w : Wd g (wX g q) A s σ H locs) (hl : lv_has ls 7 [(0, .ref (q 28)), (4, .int x4)]) : WK p l e s m av below meth c 2 g (wX g q) A (some (.int r)) σ2 H locs (F0 m 145 ls []) := by
  obtain ⟨hx, hb, hml, hown, hts, hK, hA, hZ, hlocks, hr, hN⟩ := id C
  unfold f_Showman_holds_2_145 at hf
  refine lv_iload hx hb d_Showman_holds_145 (lv_at hl 1 rfl) ?_
  refine lv_if_le (tgt := 166) hx hb d_Showman_holds_147 (by decide) (fun cd => ?_) (fun cd => ?_)
  · have hf := it_e cd hf
    refine lv_iconst (v := 0) hx hb d_Showman_holds_166 (by decide) ?_
    obtain ⟨rfl, rfl⟩ := some2_e hf
    exact k_zret C w (by decide) d_Showman_holds_167
  · have hf := if_e cd hf
    refine lv_aload_n hx hb d_Showman_holds_150 rfl (lv_at hl 0 rfl) ?_
    refine xg_28_stack C w k390 d_Showman_holds_151 ?_
    refine lv_iload hx hb d_Showman_holds_154 (lv_at hl 1 rfl) ?_
    refine lv_iconst (v := 1) hx hb d_Showman_holds_156 (by decide) ?_
    refine lv_isub hx hb d_Showman_holds_157 ?_
    obtain ⟨g_1, hf⟩ := gd_e hf
    refine xl_30 C w g_1 d_Showman_holds_158 ?_
    refine lv_if_eq (tgt := 166) hx hb d_Showman_holds_159 (by decide) (fun cd => ?_) (fun cd => ?_)
    · have hf := it_e cd hf
      refine lv_iconst (v := 0) hx hb d_Showman_holds_166 (by decide) ?_
      obtain ⟨rfl, rfl⟩ := some2_e hf
      exact k_zret C w (by decide) d_Showman_holds_167
    · have hf := if_e cd hf
      refine lv_iconst (v := 1) hx hb d_Showman_holds_162 (by decide) ?_
      refine lv_goto (tgt := 167) hx hb d_Showman_holds_163 (by decide) ?_
      obtain ⟨rfl, rfl⟩ := some2_e hf
      exact k_zret C w (by decide) d_Showman_holds_167
set_option maxHeartbeats 4000000 in
set_option maxRecDepth 20000 in
theorem t_Showman_holds_2_6b {r : Int32} {σ2 : St} (C : Cx g A p s m av meth c prog_7_method_5_code 7 "BellHammer$Showman" (some .boolean)) {k6 : Int32 → Int32 → Int32 → St → Option (Int32 × St)} (hk6 : ∀ (x3 : Int32) (x4 : Int32) (x5 : Int32) (σ : St) (H : Heap) (locs : List Loc) (ls : Array Slot), k6 x3 x4 x5 σ = some (r, σ2) → Wd g (wX g q) A s σ H locs → lv_has ls 7 [(0, .ref (q 28)), (1, .ref (q 40)), (3, .int x3), (4, .int x4), (5, .int x5)] → WK p l e s m av below meth c 2 g (wX g q) A (some (.int r)) σ2 H locs (F0 m 6 ls []))  {x3 : Int32} {x4 : Int32} {x5 : Int32} {σ : St} {H : Heap} {locs : List Loc} {ls : Array Slot} (hf : f_Showman_holds_2_6b  k6 x3 x4 x5 σ = some (r, σ2)) (w : Wd g (wX g q) A s σ H locs) (hl : lv_has ls 7 [(0, .ref (q 28)), (1, .ref (q 40)), (3, .int x3), (4, .int x4), (5, .int x5)]) : WK p l e s m av below meth c 2 g (wX g q) A (some (.int r)) σ2 H locs (F0 m 6 ls []) := by
  obtain ⟨hx, hb, hml, hown, hts, hK, hA, hZ, hlocks, hr, hN⟩ := id C
  unfold f_Showman_holds_2_6b at hf
  refine lv_iload hx hb d_Showman_holds_6 (lv_at hl 4 rfl) ?_
  refine lv_iload_n hx hb d_Showman_holds_8 rfl (lv_at hl 2 rfl) ?_
  refine lv_icmp_ge (tgt := 145) hx hb d_Showman_holds_9 (by decide) (fun cd => ?_) (fun cd => ?_)
  · have hf := it_e cd hf
    exact t_Showman_holds_2_145 C  hf w (lv_sub hl [0, 3] rfl)
  · have hf := if_e cd hf
    refine lv_iload hx hb d_Showman_holds_12 (lv_at hl 4 rfl) ?_
    refine lv_aload_n hx hb d_Showman_holds_14 rfl (lv_at hl 1 rfl) ?_
    refine xn_40 C w d_Showman_holds_15 ?_
    refine lv_icmp_ge (tgt := 145) hx hb d_Showman_holds_16 (by decide) (fun cd => ?_) (fun cd => ?_)
    · have hf := it_e cd hf
      exact t_Showman_holds_2_145 C  hf w (lv_sub hl [0, 3] rfl)
    · have hf := if_e cd hf
      refine lv_aload_n hx hb d_Showman_holds_19 rfl (lv_at hl 1 rfl) ?_
      refine lv_iload hx hb d_Showman_holds_20 (lv_at hl 4 rfl) ?_
      obtain ⟨g_1, hf⟩ := gd_e hf
      refine xl_40 C w g_1 d_Showman_holds_22 ?_
      refine lv_topi (fun x_2 ex_2 => ?_)
      have hf := lt_e ex_2 hf
      refine lv_istore (lv' := [(6, .int x_2), (0, .ref (q 28)), (1, .ref (q 40)), (3, .int x3), (4, .int x4), (5, .int x5)]) hx hb d_Showman_holds_23 hl (by decide) rfl (fun ls hl => ?_)
      refine lv_iload hx hb d_Showman_holds_25 (lv_at hl 0 rfl) ?_
      refine lv_sipush (v := 10010) hx hb d_Showman_holds_27 (by decide) ?_
      refine lv_icmp_ge (tgt := 62) hx hb d_Showman_holds_30 (by decide) (fun cd => ?_) (fun cd => ?_)
      · have hf := it_e cd hf
        refine lv_iload hx hb d_Showman_holds_62 (lv_at hl 0 rfl) ?_
        refine lv_sipush (v := 10010) hx hb d_Showman_holds_64 (by decide) ?_
        refine lv_icmp_ne (tgt := 98) hx hb d_Showman_holds_67 (by decide) (fun cd => ?_) (fun cd => ?_)
        · have hf := if_e cd hf
          refine lv_iload hx hb d_Showman_holds_98 (lv_at hl 4 rfl) ?_
          refine lv_iconst (v := 1) hx hb d_Showman_holds_100 (by decide) ?_
          refine lv_icmp_le (tgt := 139) hx hb d_Showman_holds_101 (by decide) (fun cd => ?_) (fun cd => ?_)
          · have hf := it_e cd hf
            obtain ⟨x_3, ex_3⟩ : ∃ y : Int32, y = (x5 + 1) := ⟨_, rfl⟩
            have hf := lt_e ex_3 hf
            refine lv_iinc (v := x_3) (lv' := [(5, .int x_3), (6, .int x_2), (0, .ref (q 28)), (1, .ref (q 40)), (3, .int x3), (4, .int x4)]) hx hb d_Showman_holds_139 hl (k := 5) rfl (by rw [ex_3]; rfl) (by decide) rfl (fun ls hl => ?_)
            refine lv_goto (tgt := 6) hx hb d_Showman_holds_142 (by decide) ?_
            exact hk6 x3 x4 x_3 σ _ _ _ hf w (lv_sub hl [2, 3, 4, 5, 0] rfl)
          · have hf := if_e cd hf
            refine lv_aload_n hx hb d_Showman_holds_104 rfl (lv_at hl 1 rfl) ?_
            refine xg_28_stack C w k390 d_Showman_holds_105 ?_
            refine lv_iload hx hb d_Showman_holds_108 (lv_at hl 4 rfl) ?_
            refine lv_iconst (v := 2) hx hb d_Showman_holds_110 (by decide) ?_
            refine lv_isub hx hb d_Showman_holds_111 ?_
            refine lv_iload hx hb d_Showman_holds_112 (lv_at hl 0 rfl) ?_
            refine lv_aload_n hx hb d_Showman_holds_114 rfl (lv_at hl 1 rfl) ?_
            refine xg_28_stack C w k390 d_Showman_holds_115 ?_
            refine lv_iload hx hb d_Showman_holds_118 (lv_at hl 4 rfl) ?_
            refine lv_iconst (v := 2) hx hb d_Showman_holds_120 (by decide) ?_
            refine lv_isub hx hb d_Showman_holds_121 ?_
            obtain ⟨g_4, hf⟩ := gd_e hf
            refine xl_30 C w g_4 d_Showman_holds_122 ?_
            refine lv_aload_n hx hb d_Showman_holds_123 rfl (lv_at hl 1 rfl) ?_
            refine xg_28_stack C w k390 d_Showman_holds_124 ?_
            refine lv_iload hx hb d_Showman_holds_127 (lv_at hl 4 rfl) ?_
            refine lv_iconst (v := 1) hx hb d_Showman_holds_129 (by decide) ?_
            refine lv_isub hx hb d_Showman_holds_130 ?_
            obtain ⟨g_5, hf⟩ := gd_e hf
            refine xl_30 C w g_5 d_Showman_holds_131 ?_
            obtain ⟨r_7, h_6, hf⟩ := bp_e hf
            refine k_callS (As := [.int x_2, .int (sA σ 19 (x4 - 2).toNatClampNeg), .int (sA σ 19 (x4 - 1).toNatClampNeg)]) (rest := [.int (x4 - 2), .ref (q 30)]) C w (c_Showman_join (q := q) h_6) cv_Showman_join k814 (by decide) hl.1 rfl (Nat.le_of_ble_eq_true rfl) d_Showman_holds_132 (fun H locs w => ?_)
            show WK p l e s m av below meth c 2 g (wX g q) A (some (.int r)) σ2 H locs (F0 m 135 ls [.int r_7, .int (x4 - 2), .ref (q 30)])
            obtain ⟨g_8, hf⟩ := gd_e hf
            refine xs_30 C w g_8 d_Showman_holds_135 (fun σ_9 H locs eσ_9 w => ?_)
            have hf := lt_e eσ_9 hf
            obtain ⟨x_10, ex_10⟩ : ∃ y : Int32, y = (x4 + (-1)) := ⟨_, rfl⟩
            have hf := lt_e ex_10 hf
            refine lv_iinc (v := x_10) (lv' := [(4, .int x_10), (6, .int x_2), (0, .ref (q 28)), (1, .ref (q 40)), (3, .int x3), (5, .int x5)]) hx hb d_Showman_holds_136 hl (k := 4) rfl (by rw [ex_10]; rfl) (by decide) rfl (fun ls hl => ?_)
            obtain ⟨x_11, ex_11⟩ : ∃ y : Int32, y = (x5 + 1) := ⟨_, rfl⟩
            have hf := lt_e ex_11 hf
            refine lv_iinc (v := x_11) (lv' := [(5, .int x_11), (4, .int x_10), (6, .int x_2), (0, .ref (q 28)), (1, .ref (q 40)), (3, .int x3)]) hx hb d_Showman_holds_139 hl (k := 5) rfl (by rw [ex_11]; rfl) (by decide) rfl (fun ls hl => ?_)
            refine lv_goto (tgt := 6) hx hb d_Showman_holds_142 (by decide) ?_
            exact hk6 x3 x_10 x_11 σ_9 _ _ _ hf w (lv_sub hl [3, 4, 5, 1, 0] rfl)
        · have hf := it_e cd hf
          refine lv_iload hx hb d_Showman_holds_70 (lv_at hl 4 rfl) ?_
          refine lv_if_le (tgt := 139) hx hb d_Showman_holds_72 (by decide) (fun cd => ?_) (fun cd => ?_)
          · have hf := it_e cd hf
            obtain ⟨x_12, ex_12⟩ : ∃ y : Int32, y = (x5 + 1) := ⟨_, rfl⟩
            have hf := lt_e ex_12 hf
            refine lv_iinc (v := x_12) (lv' := [(5, .int x_12), (6, .int x_2), (0, .ref (q 28)), (1, .ref (q 40)), (3, .int x3), (4, .int x4)]) hx hb d_Showman_holds_139 hl (k := 5) rfl (by rw [ex_12]; rfl) (by decide) rfl (fun ls hl => ?_)
            refine lv_goto (tgt := 6) hx hb d_Showman_holds_142 (by decide) ?_
            exact hk6 x3 x4 x_12 σ _ _ _ hf w (lv_sub hl [2, 3, 4, 5, 0] rfl)
          · have hf := if_e cd hf
            refine lv_aload_n hx hb d_Showman_holds_75 rfl (lv_at hl 1 rfl) ?_
            refine xg_28_stack C w k390 d_Showman_holds_76 ?_
            refine lv_iload hx hb d_Showman_holds_79 (lv_at hl 4 rfl) ?_
            refine lv_iconst (v := 1) hx hb d_Showman_holds_81 (by decide) ?_
            refine lv_isub hx hb d_Showman_holds_82 ?_
            refine lv_iconst (v := 1) hx hb d_Showman_holds_83 (by decide) ?_
            refine lv_aload_n hx hb d_Showman_holds_84 rfl (lv_at hl 1 rfl) ?_
            refine xg_28_stack C w k390 d_Showman_holds_85 ?_
            refine lv_iload hx hb d_Showman_holds_88 (lv_at hl 4 rfl) ?_
            refine lv_iconst (v := 1) hx hb d_Showman_holds_90 (by decide) ?_
            refine lv_isub hx hb d_Showman_holds_91 ?_
            obtain ⟨g_13, hf⟩ := gd_e hf
            refine xl_30 C w g_13 d_Showman_holds_92 ?_
            refine lv_isub hx hb d_Showman_holds_93 ?_
            obtain ⟨g_14, hf⟩ := gd_e hf
            refine xs_30 C w g_14 d_Showman_holds_94 (fun σ_15 H locs eσ_15 w => ?_)
            have hf := lt_e eσ_15 hf
            refine lv_goto (tgt := 139) hx hb d_Showman_holds_95 (by decide) ?_
            obtain ⟨x_16, ex_16⟩ : ∃ y : Int32, y = (x5 + 1) := ⟨_, rfl⟩
            have hf := lt_e ex_16 hf
            refine lv_iinc (v := x_16) (lv' := [(5, .int x_16), (6, .int x_2), (0, .ref (q 28)), (1, .ref (q 40)), (3, .int x3), (4, .int x4)]) hx hb d_Showman_holds_139 hl (k := 5) rfl (by rw [ex_16]; rfl) (by decide) rfl (fun ls hl => ?_)
            refine lv_goto (tgt := 6) hx hb d_Showman_holds_142 (by decide) ?_
            exact hk6 x3 x4 x_16 σ_15 _ _ _ hf w (lv_sub hl [2, 3, 4, 5, 0] rfl)
      · have hf := if_e cd hf
        refine lv_iload hx hb d_Showman_holds_33 (lv_at hl 4 rfl) ?_
        refine lv_aload_n hx hb d_Showman_holds_35 rfl (lv_at hl 1 rfl) ?_
        refine xg_28_stack C w k390 d_Showman_holds_36 ?_
        refine xn_30 C w d_Showman_holds_39 ?_
        refine lv_icmp_ge (tgt := 139) hx hb d_Showman_holds_40 (by decide) (fun cd => ?_) (fun cd => ?_)
        · have hf := it_e cd hf
          obtain ⟨x_17, ex_17⟩ : ∃ y : Int32, y = (x5 + 1) := ⟨_, rfl⟩
          have hf := lt_e ex_17 hf
          refine lv_iinc (v := x_17) (lv' := [(5, .int x_17), (6, .int x_2), (0, .ref (q 28)), (1, .ref (q 40)), (3, .int x3), (4, .int x4)]) hx hb d_Showman_holds_139 hl (k := 5) rfl (by rw [ex_17]; rfl) (by decide) rfl (fun ls hl => ?_)
          refine lv_goto (tgt := 6) hx hb d_Showman_holds_142 (by decide) ?_
          exact hk6 x3 x4 x_17 σ _ _ _ hf w (lv_sub hl [2, 3, 4, 5, 0] rfl)
        · have hf := if_e cd hf
          refine lv_aload_n hx hb d_Showman_holds_43 rfl (lv_at hl 1 rfl) ?_
          refine xg_28_stack C w k390 d_Showman_holds_44 ?_
          refine lv_iload hx hb d_Showman_holds_47 (lv_at hl 4 rfl) ?_
          refine lv_aload_n hx hb d_Showman_holds_49 rfl (lv_at hl 1 rfl) ?_
          refine lv_iload hx hb d_Showman_holds_50 (lv_at hl 0 rfl) ?_
          obtain ⟨r_19, h_18, hf⟩ := bp_e hf
          refine k_callV (As := [.int x_2]) (rest := [.int x4, .ref (q 30)]) C w (c_Showman_valueOf_2 (q := q) h_18) cv_Showman_valueOf k810 (xr_28 C w) (by decide) hl.1 rfl (Nat.le_of_ble_eq_true rfl) d_Showman_holds_52 (fun H locs w => ?_)
          show WK p l e s m av below meth c 2 g (wX g q) A (some (.int r)) σ2 H locs (F0 m 55 ls [.int r_19, .int x4, .ref (q 30)])
          obtain ⟨g_20, hf⟩ := gd_e hf
          refine xs_30 C w g_20 d_Showman_holds_55 (fun σ_21 H locs eσ_21 w => ?_)
          have hf := lt_e eσ_21 hf
          obtain ⟨x_22, ex_22⟩ : ∃ y : Int32, y = (x4 + 1) := ⟨_, rfl⟩
          have hf := lt_e ex_22 hf
          refine lv_iinc (v := x_22) (lv' := [(4, .int x_22), (6, .int x_2), (0, .ref (q 28)), (1, .ref (q 40)), (3, .int x3), (5, .int x5)]) hx hb d_Showman_holds_56 hl (k := 4) rfl (by rw [ex_22]; rfl) (by decide) rfl (fun ls hl => ?_)
          refine lv_goto (tgt := 139) hx hb d_Showman_holds_59 (by decide) ?_
          obtain ⟨x_23, ex_23⟩ : ∃ y : Int32, y = (x5 + 1) := ⟨_, rfl⟩
          have hf := lt_e ex_23 hf
          refine lv_iinc (v := x_23) (lv' := [(5, .int x_23), (4, .int x_22), (6, .int x_2), (0, .ref (q 28)), (1, .ref (q 40)), (3, .int x3)]) hx hb d_Showman_holds_139 hl (k := 5) rfl (by rw [ex_23]; rfl) (by decide) rfl (fun ls hl => ?_)
          refine lv_goto (tgt := 6) hx hb d_Showman_holds_142 (by decide) ?_
          exact hk6 x3 x_22 x_23 σ_21 _ _ _ hf w (lv_sub hl [3, 4, 5, 1, 0] rfl)
set_option maxHeartbeats 4000000 in
set_option maxRecDepth 20000 in
theorem t_Showman_holds_2_6 {r : Int32} {σ2 : St} (C : Cx g A p s m av meth c prog_7_method_5_code 7 "BellHammer$Showman" (some .boolean))  : ∀ (n : Nat) (x3 : Int32) (x4 : Int32) (x5 : Int32) (σ : St) (H : Heap) (locs : List Loc) (ls : Array Slot), f_Showman_holds_2_6   n x3 x4 x5 σ = some (r, σ2) → Wd g (wX g q) A s σ H locs → lv_has ls 7 [(0, .ref (q 28)), (1, .ref (q 40)), (3, .int x3), (4, .int x4), (5, .int x5)] → WK p l e s m av below meth c 2 g (wX g q) A (some (.int r)) σ2 H locs (F0 m 6 ls []) := by
  intro n
  induction n with
  | zero => intro x3 x4 x5 σ H locs ls hf; exact absurd hf (by intro z; cases z)
  | succ n ih => intro x3 x4 x5 σ H locs ls hf w hl; exact t_Showman_holds_2_6b C  ih hf w hl
set_option maxHeartbeats 4000000 in
set_option maxRecDepth 20000 in
theorem c_Showman_holds_2 {l : Launch} {g : GX} {q : Nat → Nat} {x2 : Int32} {x3 : Int32}  {σ : St} {r : Int32} {σ2 : St} (hf : f_Showman_holds_2  x2 x3 σ = some (r, σ2)) : KK l y_Showman_holds prog_7_method_5_code 7 (some .boolean) 2 g (wX g q) σ [.ref (q 28), .ref (q 40), .int x2, .int x3] (some (.int r)) (wX g q) σ2 := by
  refine KK_of (plainFor_of_name (by decide)) (Nat.le_of_ble_eq_true rfl) (fun p e s m below meth c A ls C w hl => ?_)
  have hl : lv_has ls 7 [(0, .ref (q 28)), (1, .ref (q 40)), (2, .int x2), (3, .int x3)] := hl
  obtain ⟨hx, hb, hml, hown, hts, hK, hA, hZ, hlocks, hr, hN⟩ := id C
  unfold f_Showman_holds_2 at hf
  refine lv_iconst (v := 0) hx hb d_Showman_holds_0 (by decide) ?_
  refine lv_istore (lv' := [(4, .int 0), (0, .ref (q 28)), (1, .ref (q 40)), (2, .int x2), (3, .int x3)]) hx hb d_Showman_holds_1 hl (by decide) rfl (fun ls hl => ?_)
  refine lv_iload_n hx hb d_Showman_holds_3 rfl (lv_at hl 3 rfl) ?_
  refine lv_istore (lv' := [(5, .int x2), (4, .int 0), (0, .ref (q 28)), (1, .ref (q 40)), (2, .int x2), (3, .int x3)]) hx hb d_Showman_holds_4 hl (by decide) rfl (fun ls hl => ?_)
  exact t_Showman_holds_2_6 C  FU x3 0 x2 σ _ _ _ hf w (lv_sub hl [2, 3, 5, 1, 0] rfl)
def f_Showman_rulesThatHold_2_42 (k7 : Int32 → Int32 → Int32 → St → Option (Int32 × St)) (x2 : Int32) (x4 : Int32) (σ : St) : Option (Int32 × St) :=
  gd (inB x4 6) <|
  lt ((sA σ 27 x4.toNatClampNeg)) fun x_2 =>
  lt ((x4 + 1)) fun x_3 =>
  k7 x2 x_2 x_3 σ
def f_Showman_rulesThatHold_2_7b (k7 : Int32 → Int32 → Int32 → St → Option (Int32 × St)) (x2 : Int32) (x3 : Int32) (x4 : Int32) (σ : St) : Option (Int32 × St) :=
  if (sI σ 55) ≤ x4 then
    some (x2, σ)
  else
    gd (inB x4 6) <|
    bd (f_Showman_holds_2 x3 (sA σ 27 x4.toNatClampNeg) σ) fun r_3 σ_4 =>
    if r_3 = 0 then
      f_Showman_rulesThatHold_2_42 k7 x2 x4 σ_4
    else
      lt ((x2 ||| (1 <<< (x4 &&& 31)))) fun x_5 =>
      f_Showman_rulesThatHold_2_42 k7 x_5 x4 σ_4
def f_Showman_rulesThatHold_2_7 : Nat → Int32 → Int32 → Int32 → St → Option (Int32 × St)
  | 0 => fun _ _ _ _ => none
  | n + 1 => f_Showman_rulesThatHold_2_7b   (f_Showman_rulesThatHold_2_7   n)
def f_Showman_rulesThatHold_2 (σ : St) : Option (Int32 × St) :=
  f_Showman_rulesThatHold_2_7 FU 0 0 0 σ
set_option maxHeartbeats 4000000 in
set_option maxRecDepth 20000 in
theorem t_Showman_rulesThatHold_2_42 {r : Int32} {σ2 : St} (C : Cx g A p s m av meth c prog_7_method_4_code 5 "BellHammer$Showman" (some .int)) {k7 : Int32 → Int32 → Int32 → St → Option (Int32 × St)} (hk7 : ∀ (x2 : Int32) (x3 : Int32) (x4 : Int32) (σ : St) (H : Heap) (locs : List Loc) (ls : Array Slot), k7 x2 x3 x4 σ = some (r, σ2) → Wd g (wX g q) A s σ H locs → lv_has ls 5 [(0, .ref (q 28)), (1, .ref (q 34)), (2, .int x2), (3, .int x3), (4, .int x4)] → WK p l e s m av below meth c 3 g (wX g q) A (some (.int r)) σ2 H locs (F0 m 7 ls []))  {x2 : Int32} {x4 : Int32} {σ : St} {H : Heap} {locs : List Loc} {ls : Array Slot} (hf : f_Showman_rulesThatHold_2_42  k7 x2 x4 σ = some (r, σ2)) (w : Wd g (wX g q) A s σ H locs) (hl : lv_has ls 5 [(0, .ref (q 28)), (1, .ref (q 34)), (2, .int x2), (4, .int x4)]) : WK p l e s m av below meth c 3 g (wX g q) A (some (.int r)) σ2 H locs (F0 m 42 ls []) := by
  obtain ⟨hx, hb, hml, hown, hts, hK, hA, hZ, hlocks, hr, hN⟩ := id C
  unfold f_Showman_rulesThatHold_2_42 at hf
  refine lv_aload_n hx hb d_Showman_rulesThatHold_42 rfl (lv_at hl 1 rfl) ?_
  refine xg_34_ruleEnd C w k266 d_Showman_rulesThatHold_43 ?_
  refine lv_iload hx hb d_Showman_rulesThatHold_46 (lv_at hl 3 rfl) ?_
  obtain ⟨g_1, hf⟩ := gd_e hf
  refine xl_41 C w g_1 d_Showman_rulesThatHold_48 ?_
  refine lv_topi (fun x_2 ex_2 => ?_)
  have hf := lt_e ex_2 hf
  refine lv_istore_n (lv' := [(3, .int x_2), (0, .ref (q 28)), (1, .ref (q 34)), (2, .int x2), (4, .int x4)]) hx hb d_Showman_rulesThatHold_49 rfl hl (by decide) rfl (fun ls hl => ?_)
  obtain ⟨x_3, ex_3⟩ : ∃ y : Int32, y = (x4 + 1) := ⟨_, rfl⟩
  have hf := lt_e ex_3 hf
  refine lv_iinc (v := x_3) (lv' := [(4, .int x_3), (3, .int x_2), (0, .ref (q 28)), (1, .ref (q 34)), (2, .int x2)]) hx hb d_Showman_rulesThatHold_50 hl (k := 4) rfl (by rw [ex_3]; rfl) (by decide) rfl (fun ls hl => ?_)
  refine lv_goto (tgt := 7) hx hb d_Showman_rulesThatHold_53 (by decide) ?_
  exact hk7 x2 x_2 x_3 σ _ _ _ hf w (lv_sub hl [2, 3, 4, 1, 0] rfl)
set_option maxHeartbeats 4000000 in
set_option maxRecDepth 20000 in
theorem t_Showman_rulesThatHold_2_7b {r : Int32} {σ2 : St} (C : Cx g A p s m av meth c prog_7_method_4_code 5 "BellHammer$Showman" (some .int)) {k7 : Int32 → Int32 → Int32 → St → Option (Int32 × St)} (hk7 : ∀ (x2 : Int32) (x3 : Int32) (x4 : Int32) (σ : St) (H : Heap) (locs : List Loc) (ls : Array Slot), k7 x2 x3 x4 σ = some (r, σ2) → Wd g (wX g q) A s σ H locs → lv_has ls 5 [(0, .ref (q 28)), (1, .ref (q 34)), (2, .int x2), (3, .int x3), (4, .int x4)] → WK p l e s m av below meth c 3 g (wX g q) A (some (.int r)) σ2 H locs (F0 m 7 ls []))  {x2 : Int32} {x3 : Int32} {x4 : Int32} {σ : St} {H : Heap} {locs : List Loc} {ls : Array Slot} (hf : f_Showman_rulesThatHold_2_7b  k7 x2 x3 x4 σ = some (r, σ2)) (w : Wd g (wX g q) A s σ H locs) (hl : lv_has ls 5 [(0, .ref (q 28)), (1, .ref (q 34)), (2, .int x2), (3, .int x3), (4, .int x4)]) : WK p l e s m av below meth c 3 g (wX g q) A (some (.int r)) σ2 H locs (F0 m 7 ls []) := by
  obtain ⟨hx, hb, hml, hown, hts, hK, hA, hZ, hlocks, hr, hN⟩ := id C
  unfold f_Showman_rulesThatHold_2_7b at hf
  refine lv_iload hx hb d_Showman_rulesThatHold_7 (lv_at hl 4 rfl) ?_
  refine lv_aload_n hx hb d_Showman_rulesThatHold_9 rfl (lv_at hl 1 rfl) ?_
  refine xg_34_rules C w k279 d_Showman_rulesThatHold_10 ?_
  refine lv_icmp_ge (tgt := 56) hx hb d_Showman_rulesThatHold_13 (by decide) (fun cd => ?_) (fun cd => ?_)
  · have hf := it_e cd hf
    refine lv_iload_n hx hb d_Showman_rulesThatHold_56 rfl (lv_at hl 2 rfl) ?_
    obtain ⟨rfl, rfl⟩ := some2_e hf
    exact k_iret C w d_Showman_rulesThatHold_57
  · have hf := if_e cd hf
    refine lv_aload_n hx hb d_Showman_rulesThatHold_16 rfl (lv_at hl 0 rfl) ?_
    refine lv_aload_n hx hb d_Showman_rulesThatHold_17 rfl (lv_at hl 1 rfl) ?_
    refine xg_34_code C w k264 d_Showman_rulesThatHold_18 ?_
    refine lv_iload_n hx hb d_Showman_rulesThatHold_21 rfl (lv_at hl 3 rfl) ?_
    refine lv_aload_n hx hb d_Showman_rulesThatHold_22 rfl (lv_at hl 1 rfl) ?_
    refine xg_34_ruleEnd C w k266 d_Showman_rulesThatHold_23 ?_
    refine lv_iload hx hb d_Showman_rulesThatHold_26 (lv_at hl 4 rfl) ?_
    obtain ⟨g_1, hf⟩ := gd_e hf
    refine xl_41 C w g_1 d_Showman_rulesThatHold_28 ?_
    obtain ⟨r_3, σ_4, h_2, hf⟩ := bd_e hf
    refine k_callV (As := [.ref (q 40), .int x3, .int (sA σ 27 x4.toNatClampNeg)]) (rest := []) C w (c_Showman_holds_2 (q := q) h_2) cv_Showman_holds k806 (xr_28 C w) (by decide) hl.1 rfl (Nat.le_of_ble_eq_true rfl) d_Showman_rulesThatHold_29 (fun H locs w => ?_)
    show WK p l e s m av below meth c 3 g (wX g q) A (some (.int r)) σ2 H locs (F0 m 32 ls [.int r_3])
    refine lv_if_eq (tgt := 42) hx hb d_Showman_rulesThatHold_32 (by decide) (fun cd => ?_) (fun cd => ?_)
    · have hf := it_e cd hf
      exact t_Showman_rulesThatHold_2_42 C hk7 hf w (lv_sub hl [0, 1, 2, 4] rfl)
    · have hf := if_e cd hf
      refine lv_iload_n hx hb d_Showman_rulesThatHold_35 rfl (lv_at hl 2 rfl) ?_
      refine lv_iconst (v := 1) hx hb d_Showman_rulesThatHold_36 (by decide) ?_
      refine lv_iload hx hb d_Showman_rulesThatHold_37 (lv_at hl 4 rfl) ?_
      refine lv_ishl hx hb d_Showman_rulesThatHold_39 ?_
      refine lv_ior hx hb d_Showman_rulesThatHold_40 ?_
      refine lv_topi (fun x_5 ex_5 => ?_)
      have hf := lt_e ex_5 hf
      refine lv_istore_n (lv' := [(2, .int x_5), (0, .ref (q 28)), (1, .ref (q 34)), (3, .int x3), (4, .int x4)]) hx hb d_Showman_rulesThatHold_41 rfl hl (by decide) rfl (fun ls hl => ?_)
      exact t_Showman_rulesThatHold_2_42 C hk7 hf w (lv_sub hl [1, 2, 0, 4] rfl)
set_option maxHeartbeats 4000000 in
set_option maxRecDepth 20000 in
theorem t_Showman_rulesThatHold_2_7 {r : Int32} {σ2 : St} (C : Cx g A p s m av meth c prog_7_method_4_code 5 "BellHammer$Showman" (some .int))  : ∀ (n : Nat) (x2 : Int32) (x3 : Int32) (x4 : Int32) (σ : St) (H : Heap) (locs : List Loc) (ls : Array Slot), f_Showman_rulesThatHold_2_7   n x2 x3 x4 σ = some (r, σ2) → Wd g (wX g q) A s σ H locs → lv_has ls 5 [(0, .ref (q 28)), (1, .ref (q 34)), (2, .int x2), (3, .int x3), (4, .int x4)] → WK p l e s m av below meth c 3 g (wX g q) A (some (.int r)) σ2 H locs (F0 m 7 ls []) := by
  intro n
  induction n with
  | zero => intro x2 x3 x4 σ H locs ls hf; exact absurd hf (by intro z; cases z)
  | succ n ih => intro x2 x3 x4 σ H locs ls hf w hl; exact t_Showman_rulesThatHold_2_7b C  ih hf w hl
set_option maxHeartbeats 4000000 in
set_option maxRecDepth 20000 in
theorem c_Showman_rulesThatHold_2 {l : Launch} {g : GX} {q : Nat → Nat}  {σ : St} {r : Int32} {σ2 : St} (hf : f_Showman_rulesThatHold_2   σ = some (r, σ2)) : KK l y_Showman_rulesThatHold prog_7_method_4_code 5 (some .int) 3 g (wX g q) σ [.ref (q 28), .ref (q 34)] (some (.int r)) (wX g q) σ2 := by
  refine KK_of (plainFor_of_name (by decide)) (Nat.le_of_ble_eq_true rfl) (fun p e s m below meth c A ls C w hl => ?_)
  have hl : lv_has ls 5 [(0, .ref (q 28)), (1, .ref (q 34))] := hl
  obtain ⟨hx, hb, hml, hown, hts, hK, hA, hZ, hlocks, hr, hN⟩ := id C
  unfold f_Showman_rulesThatHold_2 at hf
  refine lv_iconst (v := 0) hx hb d_Showman_rulesThatHold_0 (by decide) ?_
  refine lv_istore_n (lv' := [(2, .int 0), (0, .ref (q 28)), (1, .ref (q 34))]) hx hb d_Showman_rulesThatHold_1 rfl hl (by decide) rfl (fun ls hl => ?_)
  refine lv_iconst (v := 0) hx hb d_Showman_rulesThatHold_2 (by decide) ?_
  refine lv_istore_n (lv' := [(3, .int 0), (2, .int 0), (0, .ref (q 28)), (1, .ref (q 34))]) hx hb d_Showman_rulesThatHold_3 rfl hl (by decide) rfl (fun ls hl => ?_)
  refine lv_iconst (v := 0) hx hb d_Showman_rulesThatHold_4 (by decide) ?_
  refine lv_istore (lv' := [(4, .int 0), (3, .int 0), (2, .int 0), (0, .ref (q 28)), (1, .ref (q 34))]) hx hb d_Showman_rulesThatHold_5 hl (by decide) rfl (fun ls hl => ?_)
  exact t_Showman_rulesThatHold_2_7 C  FU 0 0 0 σ _ _ _ hf w (lv_sub hl [3, 4, 2, 1, 0] rfl)
def f_Tree_goOn_256 (kG : Int32 → Int32 → Int32 → Int32 → Int64 → Int32 → St → Option (St)) (k160 : Int32 → Int32 → Int32 → Int32 → Int32 → Int64 → Int32 → St → Option (St)) (x2 : Int32) (x3 : Int32) (x4 : Int32) (x8 : Int32) (x9 : Int32) (x10 : Int64) (x12 : Int32) (t0 : Int32) (t1 : Int64) (t2 : Int32) (t3 : Int32) (t4 : Int32) (t5 : Int32) (σ : St) : Option (St) :=
  bp (kG t5 t4 t3 t2 t1 t0 σ) fun σ_2 =>
  lt ((x12 + 1)) fun x_3 =>
  k160 x2 x3 x4 x8 x9 x10 x_3 σ_2
def f_Tree_goOn_251 (kG : Int32 → Int32 → Int32 → Int32 → Int64 → Int32 → St → Option (St)) (k160 : Int32 → Int32 → Int32 → Int32 → Int32 → Int64 → Int32 → St → Option (St)) (x2 : Int32) (x3 : Int32) (x4 : Int32) (x8 : Int32) (x9 : Int32) (x10 : Int64) (x12 : Int32) (t0 : Int64) (t1 : Int32) (t2 : Int32) (t3 : Int32) (t4 : Int32) (σ : St) : Option (St) :=
  f_Tree_goOn_256 kG k160 x2 x3 x4 x8 x9 x10 x12 1 t0 t1 t2 t3 t4 σ
def f_Tree_goOn_209 (kG : Int32 → Int32 → Int32 → Int32 → Int64 → Int32 → St → Option (St)) (k160 : Int32 → Int32 → Int32 → Int32 → Int32 → Int64 → Int32 → St → Option (St)) (x2 : Int32) (x3 : Int32) (x4 : Int32) (x8 : Int32) (x9 : Int32) (x10 : Int64) (x12 : Int32) (x13 : Int32) (σ : St) : Option (St) :=
  bp (f_Turn_brings x13 σ) fun r_2 =>
  lt ((iMin 999 (x4 + r_2))) fun x_3 =>
  if x8 = 0 then
    if x9 = 0 then
      f_Tree_goOn_256 kG k160 x2 x3 x4 x8 x9 x10 x12 0 x10 x13 x_3 (x3 + 1) x2 σ
    else
      f_Tree_goOn_251 kG k160 x2 x3 x4 x8 x9 x10 x12 x10 x13 x_3 (x3 + 1) x2 σ
  else
    f_Tree_goOn_251 kG k160 x2 x3 x4 x8 x9 x10 x12 x10 x13 x_3 (x3 + 1) x2 σ
def f_Tree_goOn_160b (kG : Int32 → Int32 → Int32 → Int32 → Int64 → Int32 → St → Option (St)) (k160 : Int32 → Int32 → Int32 → Int32 → Int32 → Int64 → Int32 → St → Option (St)) (x2 : Int32) (x3 : Int32) (x4 : Int32) (x8 : Int32) (x9 : Int32) (x10 : Int64) (x12 : Int32) (σ : St) : Option (St) :=
  if (sI σ 41) < x12 then
    some σ
  else
    bp (f_Turn_height_2 x3 x12 x9 σ) fun r_2 =>
    bp (f_Turn_isRing r_2 σ) fun r_4 =>
    if r_4 = 0 then
      f_Tree_goOn_209 kG k160 x2 x3 x4 x8 x9 x10 x12 r_2 σ
    else
      lt (uJ σ 0 ((sJ σ 0) + x10)) fun σ_5 =>
      f_Tree_goOn_209 kG k160 x2 x3 x4 x8 x9 x10 x12 r_2 σ_5
def f_Tree_goOn_160 (kG : Int32 → Int32 → Int32 → Int32 → Int64 → Int32 → St → Option (St)) : Nat → Int32 → Int32 → Int32 → Int32 → Int32 → Int64 → Int32 → St → Option (St)
  | 0 => fun _ _ _ _ _ _ _ _ => none
  | n + 1 => f_Tree_goOn_160b kG  (f_Tree_goOn_160 kG  n)
def f_Tree_goOn_149 (kG : Int32 → Int32 → Int32 → Int32 → Int64 → Int32 → St → Option (St)) (x2 : Int32) (x3 : Int32) (x4 : Int32) (x6 : Int64) (x8 : Int32) (x9 : Int32) (σ : St) : Option (St) :=
  bp (f_Tree_shareOf x6 σ) fun r_2 =>
  f_Tree_goOn_160 kG FU x2 x3 x4 x8 x9 r_2 0 σ
def f_Tree_goOn_115 (kG : Int32 → Int32 → Int32 → Int32 → Int64 → Int32 → St → Option (St)) (x2 : Int32) (x3 : Int32) (x4 : Int32) (x6 : Int64) (x8 : Int32) (t0 : Int32) (σ : St) : Option (St) :=
  lt (uJ σ 1 ((sJ σ 1) + x6)) fun σ_1 =>
  if t0 = 0 then
    f_Tree_goOn_149 kG x2 x3 x4 x6 x8 t0 σ_1
  else
    if x8 = 0 then
      lt (uJ σ_1 2 ((sJ σ_1 2) + x6)) fun σ_2 =>
      f_Tree_goOn_149 kG x2 x3 x4 x6 x8 t0 σ_2
    else
      f_Tree_goOn_149 kG x2 x3 x4 x6 x8 t0 σ_1
def f_Tree_goOn_114 (kG : Int32 → Int32 → Int32 → Int32 → Int64 → Int32 → St → Option (St)) (x2 : Int32) (x3 : Int32) (x4 : Int32) (x6 : Int64) (x8 : Int32) (σ : St) : Option (St) :=
  f_Tree_goOn_115 kG x2 x3 x4 x6 x8 0 σ
def f_Tree_goOn_18 (kG : Int32 → Int32 → Int32 → Int32 → Int64 → Int32 → St → Option (St)) (x3 : Int32) (x4 : Int32) (x6 : Int64) (σ : St) : Option (St) :=
  lt (uI σ 37 (iMin (sI σ 37) x3)) fun σ_1 =>
  lt (uI σ_1 38 (iMax (sI σ_1 38) x3)) fun σ_2 =>
  lt (uJ σ_2 3 ((sJ σ_2 3) + (x6 * (x4).toInt64))) fun σ_3 =>
  some σ_3
def f_Tree_goOnB (kG : Int32 → Int32 → Int32 → Int32 → Int64 → Int32 → St → Option (St)) (x2 : Int32) (x3 : Int32) (x4 : Int32) (x5 : Int32) (x6 : Int64) (x8 : Int32) (σ : St) : Option (St) :=
  if 4 ≤ x3 then
    f_Tree_goOn_18 kG x3 x4 x6 σ
  else
    bp (f_Turn_goesOn x3 x5 σ) fun r_2 =>
    if r_2 = 0 then
      f_Tree_goOn_18 kG x3 x4 x6 σ
    else
      bp (f_Showman_look_2 x4 x3 x5 0 σ) fun σ_4 =>
      bp (f_Turn_coinsBehind x3 σ_4) fun r_6 =>
      bp (f_Showman_lookAt_2 (sI σ_4 45) r_6 σ_4) fun σ_8 =>
      if x2 = 0 then
        f_Tree_goOn_114 kG x2 x3 x4 x6 x8 σ_8
      else
        bd (f_Showman_rulesThatHold_2 σ_8) fun r_10 σ_11 =>
        if (r_10 &&& x2) = 0 then
          f_Tree_goOn_114 kG x2 x3 x4 x6 x8 σ_11
        else
          f_Tree_goOn_115 kG x2 x3 x4 x6 x8 1 σ_11
def f_Tree_goOn : Nat → Int32 → Int32 → Int32 → Int32 → Int64 → Int32 → St → Option (St)
  | 0 => fun _ _ _ _ _ _ _ => none
  | d + 1 => f_Tree_goOnB (f_Tree_goOn d)
set_option maxHeartbeats 4000000 in
set_option maxRecDepth 20000 in
theorem t_Tree_goOn_256 {σ2 : St} (C : Cx g A p s m av meth c prog_9_method_6_code 15 "BellHammer$Tree" none) {nk : Nat} (hnk : 4 ≤ nk) {kG : Int32 → Int32 → Int32 → Int32 → Int64 → Int32 → St → Option (St)} (hkG : ∀ (a1 : Int32) (a2 : Int32) (a3 : Int32) (a4 : Int32) (a5 : Int64) (a6 : Int32) (σ : St) (σ2 : St), kG a1 a2 a3 a4 a5 a6 σ = some σ2 → KK l y_Tree_goOn prog_9_method_6_code 15 none nk g (wX g q) σ [.ref (q 25), .ref (q 34), .int a1, .int a2, .int a3, .int a4, .long a5, .int a6] none (wX g q) σ2) {k160 : Int32 → Int32 → Int32 → Int32 → Int32 → Int64 → Int32 → St → Option (St)} (hk160 : ∀ (x2 : Int32) (x3 : Int32) (x4 : Int32) (x8 : Int32) (x9 : Int32) (x10 : Int64) (x12 : Int32) (σ : St) (H : Heap) (locs : List Loc) (ls : Array Slot), k160 x2 x3 x4 x8 x9 x10 x12 σ = some σ2 → Wd g (wX g q) A s σ H locs → lv_has ls 15 [(0, .ref (q 25)), (1, .ref (q 34)), (2, .int x2), (3, .int x3), (4, .int x4), (8, .int x8), (9, .int x9), (10, .long x10), (12, .int x12)] → WK p l e s m av below meth c (nk + 2) g (wX g q) A none σ2 H locs (F0 m 160 ls []))  {x2 : Int32} {x3 : Int32} {x4 : Int32} {x8 : Int32} {x9 : Int32} {x10 : Int64} {x12 : Int32} {t0 : Int32} {t1 : Int64} {t2 : Int32} {t3 : Int32} {t4 : Int32} {t5 : Int32} {σ : St} {H : Heap} {locs : List Loc} {ls : Array Slot} (hf : f_Tree_goOn_256 kG k160 x2 x3 x4 x8 x9 x10 x12 t0 t1 t2 t3 t4 t5 σ = some σ2) (w : Wd g (wX g q) A s σ H locs) (hl : lv_has ls 15 [(0, .ref (q 25)), (1, .ref (q 34)), (2, .int x2), (3, .int x3), (4, .int x4), (8, .int x8), (9, .int x9), (10, .long x10), (12, .int x12)]) : WK p l e s m av below meth c (nk + 2) g (wX g q) A none σ2 H locs (F0 m 256 ls [.int t0, .long t1, .int t2, .int t3, .int t4, .int t5, .ref (q 34), .ref (q 25)]) := by
  obtain ⟨hx, hb, hml, hown, hts, hK, hA, hZ, hlocks, hr, hN⟩ := id C
  unfold f_Tree_goOn_256 at hf
  obtain ⟨σ_2, h_1, hf⟩ := bp_e hf
  refine k_callV (As := [.ref (q 34), .int t5, .int t4, .int t3, .int t2, .long t1, .int t0]) (rest := []) C w (hkG _ _ _ _ _ _ _ _ h_1) cv_Tree_goOn k836 (xr_25 C w) (by omega) hl.1 rfl (Nat.le_of_ble_eq_true rfl) d_Tree_goOn_256 (fun H locs w => ?_)
  show WK p l e s m av below meth c (nk + 2) g (wX g q) A none σ2 H locs (F0 m 259 ls [])
  obtain ⟨x_3, ex_3⟩ : ∃ y : Int32, y = (x12 + 1) := ⟨_, rfl⟩
  have hf := lt_e ex_3 hf
  refine lv_iinc (v := x_3) (lv' := [(12, .int x_3), (0, .ref (q 25)), (1, .ref (q 34)), (2, .int x2), (3, .int x3), (4, .int x4), (8, .int x8), (9, .int x9), (10, .long x10)]) hx hb d_Tree_goOn_259 hl (k := 8) rfl (by rw [ex_3]; rfl) (by decide) rfl (fun ls hl => ?_)
  refine lv_goto (tgt := 160) hx hb d_Tree_goOn_262 (by decide) ?_
  exact hk160 x2 x3 x4 x8 x9 x10 x_3 σ_2 _ _ _ hf w (lv_sub hl [1, 2, 3, 4, 5, 6, 7, 8, 0] rfl)
set_option maxHeartbeats 4000000 in
set_option maxRecDepth 20000 in
theorem t_Tree_goOn_251 {σ2 : St} (C : Cx g A p s m av meth c prog_9_method_6_code 15 "BellHammer$Tree" none) {nk : Nat} (hnk : 4 ≤ nk) {kG : Int32 → Int32 → Int32 → Int32 → Int64 → Int32 → St → Option (St)} (hkG : ∀ (a1 : Int32) (a2 : Int32) (a3 : Int32) (a4 : Int32) (a5 : Int64) (a6 : Int32) (σ : St) (σ2 : St), kG a1 a2 a3 a4 a5 a6 σ = some σ2 → KK l y_Tree_goOn prog_9_method_6_code 15 none nk g (wX g q) σ [.ref (q 25), .ref (q 34), .int a1, .int a2, .int a3, .int a4, .long a5, .int a6] none (wX g q) σ2) {k160 : Int32 → Int32 → Int32 → Int32 → Int32 → Int64 → Int32 → St → Option (St)} (hk160 : ∀ (x2 : Int32) (x3 : Int32) (x4 : Int32) (x8 : Int32) (x9 : Int32) (x10 : Int64) (x12 : Int32) (σ : St) (H : Heap) (locs : List Loc) (ls : Array Slot), k160 x2 x3 x4 x8 x9 x10 x12 σ = some σ2 → Wd g (wX g q) A s σ H locs → lv_has ls 15 [(0, .ref (q 25)), (1, .ref (q 34)), (2, .int x2), (3, .int x3), (4, .int x4), (8, .int x8), (9, .int x9), (10, .long x10), (12, .int x12)] → WK p l e s m av below meth c (nk + 2) g (wX g q) A none σ2 H locs (F0 m 160 ls []))  {x2 : Int32} {x3 : Int32} {x4 : Int32} {x8 : Int32} {x9 : Int32} {x10 : Int64} {x12 : Int32} {t0 : Int64} {t1 : Int32} {t2 : Int32} {t3 : Int32} {t4 : Int32} {σ : St} {H : Heap} {locs : List Loc} {ls : Array Slot} (hf : f_Tree_goOn_251 kG k160 x2 x3 x4 x8 x9 x10 x12 t0 t1 t2 t3 t4 σ = some σ2) (w : Wd g (wX g q) A s σ H locs) (hl : lv_has ls 15 [(0, .ref (q 25)), (1, .ref (q 34)), (2, .int x2), (3, .int x3), (4, .int x4), (8, .int x8), (9, .int x9), (10, .long x10), (12, .int x12)]) : WK p l e s m av below meth c (nk + 2) g (wX g q) A none σ2 H locs (F0 m 251 ls [.long t0, .int t1, .int t2, .int t3, .int t4, .ref (q 34), .ref (q 25)]) := by
  obtain ⟨hx, hb, hml, hown, hts, hK, hA, hZ, hlocks, hr, hN⟩ := id C
  unfold f_Tree_goOn_251 at hf
  refine lv_iconst (v := 1) hx hb d_Tree_goOn_251 (by decide) ?_
  refine lv_goto (tgt := 256) hx hb d_Tree_goOn_252 (by decide) ?_
  exact t_Tree_goOn_256 C hnk hkG hk160 hf w (lv_sub hl [0, 1, 2, 3, 4, 5, 6, 7, 8] rfl)
set_option maxHeartbeats 4000000 in
set_option maxRecDepth 20000 in
theorem t_Tree_goOn_209 {σ2 : St} (C : Cx g A p s m av meth c prog_9_method_6_code 15 "BellHammer$Tree" none) {nk : Nat} (hnk : 4 ≤ nk) {kG : Int32 → Int32 → Int32 → Int32 → Int64 → Int32 → St → Option (St)} (hkG : ∀ (a1 : Int32) (a2 : Int32) (a3 : Int32) (a4 : Int32) (a5 : Int64) (a6 : Int32) (σ : St) (σ2 : St), kG a1 a2 a3 a4 a5 a6 σ = some σ2 → KK l y_Tree_goOn prog_9_method_6_code 15 none nk g (wX g q) σ [.ref (q 25), .ref (q 34), .int a1, .int a2, .int a3, .int a4, .long a5, .int a6] none (wX g q) σ2) {k160 : Int32 → Int32 → Int32 → Int32 → Int32 → Int64 → Int32 → St → Option (St)} (hk160 : ∀ (x2 : Int32) (x3 : Int32) (x4 : Int32) (x8 : Int32) (x9 : Int32) (x10 : Int64) (x12 : Int32) (σ : St) (H : Heap) (locs : List Loc) (ls : Array Slot), k160 x2 x3 x4 x8 x9 x10 x12 σ = some σ2 → Wd g (wX g q) A s σ H locs → lv_has ls 15 [(0, .ref (q 25)), (1, .ref (q 34)), (2, .int x2), (3, .int x3), (4, .int x4), (8, .int x8), (9, .int x9), (10, .long x10), (12, .int x12)] → WK p l e s m av below meth c (nk + 2) g (wX g q) A none σ2 H locs (F0 m 160 ls []))  {x2 : Int32} {x3 : Int32} {x4 : Int32} {x8 : Int32} {x9 : Int32} {x10 : Int64} {x12 : Int32} {x13 : Int32} {σ : St} {H : Heap} {locs : List Loc} {ls : Array Slot} (hf : f_Tree_goOn_209 kG k160 x2 x3 x4 x8 x9 x10 x12 x13 σ = some σ2) (w : Wd g (wX g q) A s σ H locs) (hl : lv_has ls 15 [(0, .ref (q 25)), (1, .ref (q 34)), (2, .int x2), (3, .int x3), (4, .int x4), (8, .int x8), (9, .int x9), (10, .long x10), (12, .int x12), (13, .int x13)]) : WK p l e s m av below meth c (nk + 2) g (wX g q) A none σ2 H locs (F0 m 209 ls []) := by
  obtain ⟨hx, hb, hml, hown, hts, hK, hA, hZ, hlocks, hr, hN⟩ := id C
  unfold f_Tree_goOn_209 at hf
  refine lv_sipush (v := 999) hx hb d_Tree_goOn_209 (by decide) ?_
  refine lv_iload hx hb d_Tree_goOn_212 (lv_at hl 4 rfl) ?_
  refine lv_aload_n hx hb d_Tree_goOn_214 rfl (lv_at hl 0 rfl) ?_
  refine xg_25_turn C w k460 d_Tree_goOn_215 ?_
  refine lv_iload hx hb d_Tree_goOn_218 (lv_at hl 9 rfl) ?_
  obtain ⟨r_2, h_1, hf⟩ := bp_e hf
  refine k_callV (As := [.int x13]) (rest := [.int x4, .int 999]) C w (c_Turn_brings (q := q) h_1) cv_Turn_brings k864 (xr_26 C w) (by omega) hl.1 rfl (Nat.le_of_ble_eq_true rfl) d_Tree_goOn_220 (fun H locs w => ?_)
  show WK p l e s m av below meth c (nk + 2) g (wX g q) A none σ2 H locs (F0 m 223 ls [.int r_2, .int x4, .int 999])
  refine lv_iadd hx hb d_Tree_goOn_223 ?_
  refine r_min C hl.1 (by omega) (Nat.le_of_ble_eq_true rfl) k852 d_Tree_goOn_224 ?_
  refine lv_topi (fun x_3 ex_3 => ?_)
  have hf := lt_e ex_3 hf
  refine lv_istore (lv' := [(14, .int x_3), (0, .ref (q 25)), (1, .ref (q 34)), (2, .int x2), (3, .int x3), (4, .int x4), (8, .int x8), (9, .int x9), (10, .long x10), (12, .int x12), (13, .int x13)]) hx hb d_Tree_goOn_227 hl (by decide) rfl (fun ls hl => ?_)
  refine lv_aload_n hx hb d_Tree_goOn_229 rfl (lv_at hl 1 rfl) ?_
  refine lv_aload_n hx hb d_Tree_goOn_230 rfl (lv_at hl 2 rfl) ?_
  refine lv_iload_n hx hb d_Tree_goOn_231 rfl (lv_at hl 3 rfl) ?_
  refine lv_iload_n hx hb d_Tree_goOn_232 rfl (lv_at hl 4 rfl) ?_
  refine lv_iconst (v := 1) hx hb d_Tree_goOn_233 (by decide) ?_
  refine lv_iadd hx hb d_Tree_goOn_234 ?_
  refine lv_iload hx hb d_Tree_goOn_235 (lv_at hl 0 rfl) ?_
  refine lv_iload hx hb d_Tree_goOn_237 (lv_at hl 10 rfl) ?_
  refine lv_lload hx hb d_Tree_goOn_239 (lv_at hl 8 rfl) ?_
  refine lv_iload hx hb d_Tree_goOn_241 (lv_at hl 6 rfl) ?_
  refine lv_if_ne (tgt := 251) hx hb d_Tree_goOn_243 (by decide) (fun cd => ?_) (fun cd => ?_)
  · have hf := if_e cd hf
    exact t_Tree_goOn_251 C hnk hkG hk160 hf w (lv_sub hl [1, 2, 3, 4, 5, 6, 7, 8, 9] rfl)
  · have hf := it_e cd hf
    refine lv_iload hx hb d_Tree_goOn_246 (lv_at hl 7 rfl) ?_
    refine lv_if_eq (tgt := 255) hx hb d_Tree_goOn_248 (by decide) (fun cd => ?_) (fun cd => ?_)
    · have hf := it_e cd hf
      refine lv_iconst (v := 0) hx hb d_Tree_goOn_255 (by decide) ?_
      exact t_Tree_goOn_256 C hnk hkG hk160 hf w (lv_sub hl [1, 2, 3, 4, 5, 6, 7, 8, 9] rfl)
    · have hf := if_e cd hf
      exact t_Tree_goOn_251 C hnk hkG hk160 hf w (lv_sub hl [1, 2, 3, 4, 5, 6, 7, 8, 9] rfl)
set_option maxHeartbeats 4000000 in
set_option maxRecDepth 20000 in
theorem t_Tree_goOn_160b {σ2 : St} (C : Cx g A p s m av meth c prog_9_method_6_code 15 "BellHammer$Tree" none) {nk : Nat} (hnk : 4 ≤ nk) {kG : Int32 → Int32 → Int32 → Int32 → Int64 → Int32 → St → Option (St)} (hkG : ∀ (a1 : Int32) (a2 : Int32) (a3 : Int32) (a4 : Int32) (a5 : Int64) (a6 : Int32) (σ : St) (σ2 : St), kG a1 a2 a3 a4 a5 a6 σ = some σ2 → KK l y_Tree_goOn prog_9_method_6_code 15 none nk g (wX g q) σ [.ref (q 25), .ref (q 34), .int a1, .int a2, .int a3, .int a4, .long a5, .int a6] none (wX g q) σ2) {k160 : Int32 → Int32 → Int32 → Int32 → Int32 → Int64 → Int32 → St → Option (St)} (hk160 : ∀ (x2 : Int32) (x3 : Int32) (x4 : Int32) (x8 : Int32) (x9 : Int32) (x10 : Int64) (x12 : Int32) (σ : St) (H : Heap) (locs : List Loc) (ls : Array Slot), k160 x2 x3 x4 x8 x9 x10 x12 σ = some σ2 → Wd g (wX g q) A s σ H locs → lv_has ls 15 [(0, .ref (q 25)), (1, .ref (q 34)), (2, .int x2), (3, .int x3), (4, .int x4), (8, .int x8), (9, .int x9), (10, .long x10), (12, .int x12)] → WK p l e s m av below meth c (nk + 2) g (wX g q) A none σ2 H locs (F0 m 160 ls []))  {x2 : Int32} {x3 : Int32} {x4 : Int32} {x8 : Int32} {x9 : Int32} {x10 : Int64} {x12 : Int32} {σ : St} {H : Heap} {locs : List Loc} {ls : Array Slot} (hf : f_Tree_goOn_160b kG k160 x2 x3 x4 x8 x9 x10 x12 σ = some σ2) (w : Wd g (wX g q) A s σ H locs) (hl : lv_has ls 15 [(0, .ref (q 25)), (1, .ref (q 34)), (2, .int x2), (3, .int x3), (4, .int x4), (8, .int x8), (9, .int x9), (10, .long x10), (12, .int x12)]) : WK p l e s m av below meth c (nk + 2) g (wX g q) A none σ2 H locs (F0 m 160 ls []) := by
  obtain ⟨hx, hb, hml, hown, hts, hK, hA, hZ, hlocks, hr, hN⟩ := id C
  unfold f_Tree_goOn_160b at hf
  refine lv_iload hx hb d_Tree_goOn_160 (lv_at hl 8 rfl) ?_
  refine lv_aload_n hx hb d_Tree_goOn_162 rfl (lv_at hl 0 rfl) ?_
  refine xg_25_turn C w k460 d_Tree_goOn_163 ?_
  refine xg_26_aim C w k405 d_Tree_goOn_166 ?_
  refine lv_icmp_gt (tgt := 265) hx hb d_Tree_goOn_169 (by decide) (fun cd => ?_) (fun cd => ?_)
  · have hf := it_e cd hf
    cases some_e hf
    exact k_vret C w d_Tree_goOn_265
  · have hf := if_e cd hf
    refine lv_aload_n hx hb d_Tree_goOn_172 rfl (lv_at hl 0 rfl) ?_
    refine xg_25_turn C w k460 d_Tree_goOn_173 ?_
    refine lv_iload_n hx hb d_Tree_goOn_176 rfl (lv_at hl 3 rfl) ?_
    refine lv_iload hx hb d_Tree_goOn_177 (lv_at hl 8 rfl) ?_
    refine lv_iload hx hb d_Tree_goOn_179 (lv_at hl 6 rfl) ?_
    obtain ⟨r_2, h_1, hf⟩ := bp_e hf
    refine k_callV (As := [.int x3, .int x12, .int x9]) (rest := []) C w (c_Turn_height_2 (q := q) h_1) cv_Turn_height k862 (xr_26 C w) (by omega) hl.1 rfl (Nat.le_of_ble_eq_true rfl) d_Tree_goOn_181 (fun H locs w => ?_)
    show WK p l e s m av below meth c (nk + 2) g (wX g q) A none σ2 H locs (F0 m 184 ls [.int r_2])
    refine lv_istore (lv' := [(13, .int r_2), (0, .ref (q 25)), (1, .ref (q 34)), (2, .int x2), (3, .int x3), (4, .int x4), (8, .int x8), (9, .int x9), (10, .long x10), (12, .int x12)]) hx hb d_Tree_goOn_184 hl (by decide) rfl (fun ls hl => ?_)
    refine lv_aload_n hx hb d_Tree_goOn_186 rfl (lv_at hl 1 rfl) ?_
    refine xg_25_turn C w k460 d_Tree_goOn_187 ?_
    refine lv_iload hx hb d_Tree_goOn_190 (lv_at hl 0 rfl) ?_
    obtain ⟨r_4, h_3, hf⟩ := bp_e hf
    refine k_callV (As := [.int r_2]) (rest := []) C w (c_Turn_isRing (q := q) h_3) cv_Turn_isRing k863 (xr_26 C w) (by omega) hl.1 rfl (Nat.le_of_ble_eq_true rfl) d_Tree_goOn_192 (fun H locs w => ?_)
    show WK p l e s m av below meth c (nk + 2) g (wX g q) A none σ2 H locs (F0 m 195 ls [.int r_4])
    refine lv_if_eq (tgt := 209) hx hb d_Tree_goOn_195 (by decide) (fun cd => ?_) (fun cd => ?_)
    · have hf := it_e cd hf
      exact t_Tree_goOn_209 C hnk hkG hk160 hf w (lv_sub hl [1, 2, 3, 4, 5, 6, 7, 8, 9, 0] rfl)
    · have hf := if_e cd hf
      refine lv_aload_n hx hb d_Tree_goOn_198 rfl (lv_at hl 1 rfl) ?_
      refine lv_dup hx hb d_Tree_goOn_199 rfl ?_
      refine xg_25_rings C w k463 d_Tree_goOn_200 ?_
      refine lv_lload hx hb d_Tree_goOn_203 (lv_at hl 8 rfl) ?_
      refine lv_ladd hx hb d_Tree_goOn_205 ?_
      refine xp_25_rings C w k463 d_Tree_goOn_206 (fun σ_5 H locs eσ_5 w => ?_)
      have hf := lt_e eσ_5 hf
      exact t_Tree_goOn_209 C hnk hkG hk160 hf w (lv_sub hl [1, 2, 3, 4, 5, 6, 7, 8, 9, 0] rfl)
set_option maxHeartbeats 4000000 in
set_option maxRecDepth 20000 in
theorem t_Tree_goOn_160 {σ2 : St} (C : Cx g A p s m av meth c prog_9_method_6_code 15 "BellHammer$Tree" none) {nk : Nat} (hnk : 4 ≤ nk) {kG : Int32 → Int32 → Int32 → Int32 → Int64 → Int32 → St → Option (St)} (hkG : ∀ (a1 : Int32) (a2 : Int32) (a3 : Int32) (a4 : Int32) (a5 : Int64) (a6 : Int32) (σ : St) (σ2 : St), kG a1 a2 a3 a4 a5 a6 σ = some σ2 → KK l y_Tree_goOn prog_9_method_6_code 15 none nk g (wX g q) σ [.ref (q 25), .ref (q 34), .int a1, .int a2, .int a3, .int a4, .long a5, .int a6] none (wX g q) σ2)  : ∀ (n : Nat) (x2 : Int32) (x3 : Int32) (x4 : Int32) (x8 : Int32) (x9 : Int32) (x10 : Int64) (x12 : Int32) (σ : St) (H : Heap) (locs : List Loc) (ls : Array Slot), f_Tree_goOn_160 kG  n x2 x3 x4 x8 x9 x10 x12 σ = some σ2 → Wd g (wX g q) A s σ H locs → lv_has ls 15 [(0, .ref (q 25)), (1, .ref (q 34)), (2, .int x2), (3, .int x3), (4, .int x4), (8, .int x8), (9, .int x9), (10, .long x10), (12, .int x12)] → WK p l e s m av below meth c (nk + 2) g (wX g q) A none σ2 H locs (F0 m 160 ls []) := by
  intro n
  induction n with
  | zero => intro x2 x3 x4 x8 x9 x10 x12 σ H locs ls hf; exact absurd hf (by intro z; cases z)
  | succ n ih => intro x2 x3 x4 x8 x9 x10 x12 σ H locs ls hf w hl; exact t_Tree_goOn_160b C hnk hkG  ih hf w hl
set_option maxHeartbeats 4000000 in
set_option maxRecDepth 20000 in
theorem t_Tree_goOn_149 {σ2 : St} (C : Cx g A p s m av meth c prog_9_method_6_code 15 "BellHammer$Tree" none) {nk : Nat} (hnk : 4 ≤ nk) {kG : Int32 → Int32 → Int32 → Int32 → Int64 → Int32 → St → Option (St)} (hkG : ∀ (a1 : Int32) (a2 : Int32) (a3 : Int32) (a4 : Int32) (a5 : Int64) (a6 : Int32) (σ : St) (σ2 : St), kG a1 a2 a3 a4 a5 a6 σ = some σ2 → KK l y_Tree_goOn prog_9_method_6_code 15 none nk g (wX g q) σ [.ref (q 25), .ref (q 34), .int a1, .int a2, .int a3, .int a4, .long a5, .int a6] none (wX g q) σ2)  {x2 : Int32} {x3 : Int32} {x4 : Int32} {x6 : Int64} {x8 : Int32} {x9 : Int32} {σ : St} {H : Heap} {locs : List Loc} {ls : Array Slot} (hf : f_Tree_goOn_149 kG  x2 x3 x4 x6 x8 x9 σ = some σ2) (w : Wd g (wX g q) A s σ H locs) (hl : lv_has ls 15 [(0, .ref (q 25)), (1, .ref (q 34)), (2, .int x2), (3, .int x3), (4, .int x4), (6, .long x6), (8, .int x8), (9, .int x9)]) : WK p l e s m av below meth c (nk + 2) g (wX g q) A none σ2 H locs (F0 m 149 ls []) := by
  obtain ⟨hx, hb, hml, hown, hts, hK, hA, hZ, hlocks, hr, hN⟩ := id C
  unfold f_Tree_goOn_149 at hf
  refine lv_aload_n hx hb d_Tree_goOn_149 rfl (lv_at hl 0 rfl) ?_
  refine lv_lload hx hb d_Tree_goOn_150 (lv_at hl 5 rfl) ?_
  obtain ⟨r_2, h_1, hf⟩ := bp_e hf
  refine k_callV (As := [.long x6]) (rest := []) C w (c_Tree_shareOf (q := q) h_1) cv_Tree_shareOf k858 (xr_25 C w) (by omega) hl.1 rfl (Nat.le_of_ble_eq_true rfl) d_Tree_goOn_152 (fun H locs w => ?_)
  show WK p l e s m av below meth c (nk + 2) g (wX g q) A none σ2 H locs (F0 m 155 ls [.long r_2])
  refine lv_lstore (lv' := [(10, .long r_2), (0, .ref (q 25)), (1, .ref (q 34)), (2, .int x2), (3, .int x3), (4, .int x4), (6, .long x6), (8, .int x8), (9, .int x9)]) hx hb d_Tree_goOn_155 hl (by decide) rfl (fun ls hl => ?_)
  refine lv_iconst (v := 0) hx hb d_Tree_goOn_157 (by decide) ?_
  refine lv_istore (lv' := [(12, .int 0), (10, .long r_2), (0, .ref (q 25)), (1, .ref (q 34)), (2, .int x2), (3, .int x3), (4, .int x4), (6, .long x6), (8, .int x8), (9, .int x9)]) hx hb d_Tree_goOn_158 hl (by decide) rfl (fun ls hl => ?_)
  exact t_Tree_goOn_160 C hnk hkG  FU x2 x3 x4 x8 x9 r_2 0 σ _ _ _ hf w (lv_sub hl [2, 3, 4, 5, 6, 8, 9, 1, 0] rfl)
set_option maxHeartbeats 4000000 in
set_option maxRecDepth 20000 in
theorem t_Tree_goOn_115 {σ2 : St} (C : Cx g A p s m av meth c prog_9_method_6_code 15 "BellHammer$Tree" none) {nk : Nat} (hnk : 4 ≤ nk) {kG : Int32 → Int32 → Int32 → Int32 → Int64 → Int32 → St → Option (St)} (hkG : ∀ (a1 : Int32) (a2 : Int32) (a3 : Int32) (a4 : Int32) (a5 : Int64) (a6 : Int32) (σ : St) (σ2 : St), kG a1 a2 a3 a4 a5 a6 σ = some σ2 → KK l y_Tree_goOn prog_9_method_6_code 15 none nk g (wX g q) σ [.ref (q 25), .ref (q 34), .int a1, .int a2, .int a3, .int a4, .long a5, .int a6] none (wX g q) σ2)  {x2 : Int32} {x3 : Int32} {x4 : Int32} {x6 : Int64} {x8 : Int32} {t0 : Int32} {σ : St} {H : Heap} {locs : List Loc} {ls : Array Slot} (hf : f_Tree_goOn_115 kG  x2 x3 x4 x6 x8 t0 σ = some σ2) (w : Wd g (wX g q) A s σ H locs) (hl : lv_has ls 15 [(0, .ref (q 25)), (1, .ref (q 34)), (2, .int x2), (3, .int x3), (4, .int x4), (6, .long x6), (8, .int x8)]) : WK p l e s m av below meth c (nk + 2) g (wX g q) A none σ2 H locs (F0 m 115 ls [.int t0]) := by
  obtain ⟨hx, hb, hml, hown, hts, hK, hA, hZ, hlocks, hr, hN⟩ := id C
  unfold f_Tree_goOn_115 at hf
  refine lv_istore (lv' := [(9, .int t0), (0, .ref (q 25)), (1, .ref (q 34)), (2, .int x2), (3, .int x3), (4, .int x4), (6, .long x6), (8, .int x8)]) hx hb d_Tree_goOn_115 hl (by decide) rfl (fun ls hl => ?_)
  refine lv_aload_n hx hb d_Tree_goOn_117 rfl (lv_at hl 1 rfl) ?_
  refine lv_dup hx hb d_Tree_goOn_118 rfl ?_
  refine xg_25_blows C w k464 d_Tree_goOn_119 ?_
  refine lv_lload hx hb d_Tree_goOn_122 (lv_at hl 6 rfl) ?_
  refine lv_ladd hx hb d_Tree_goOn_124 ?_
  refine xp_25_blows C w k464 d_Tree_goOn_125 (fun σ_1 H locs eσ_1 w => ?_)
  have hf := lt_e eσ_1 hf
  refine lv_iload hx hb d_Tree_goOn_128 (lv_at hl 0 rfl) ?_
  refine lv_if_eq (tgt := 149) hx hb d_Tree_goOn_130 (by decide) (fun cd => ?_) (fun cd => ?_)
  · have hf := it_e cd hf
    exact t_Tree_goOn_149 C hnk hkG  hf w (lv_sub hl [1, 2, 3, 4, 5, 6, 7, 0] rfl)
  · have hf := if_e cd hf
    refine lv_iload hx hb d_Tree_goOn_133 (lv_at hl 7 rfl) ?_
    refine lv_if_ne (tgt := 149) hx hb d_Tree_goOn_135 (by decide) (fun cd => ?_) (fun cd => ?_)
    · have hf := if_e cd hf
      exact t_Tree_goOn_149 C hnk hkG  hf w (lv_sub hl [1, 2, 3, 4, 5, 6, 7, 0] rfl)
    · have hf := it_e cd hf
      refine lv_aload_n hx hb d_Tree_goOn_138 rfl (lv_at hl 1 rfl) ?_
      refine lv_dup hx hb d_Tree_goOn_139 rfl ?_
      refine xg_25_leans C w k465 d_Tree_goOn_140 ?_
      refine lv_lload hx hb d_Tree_goOn_143 (lv_at hl 6 rfl) ?_
      refine lv_ladd hx hb d_Tree_goOn_145 ?_
      refine xp_25_leans C w k465 d_Tree_goOn_146 (fun σ_2 H locs eσ_2 w => ?_)
      have hf := lt_e eσ_2 hf
      exact t_Tree_goOn_149 C hnk hkG  hf w (lv_sub hl [1, 2, 3, 4, 5, 6, 7, 0] rfl)
set_option maxHeartbeats 4000000 in
set_option maxRecDepth 20000 in
theorem t_Tree_goOn_114 {σ2 : St} (C : Cx g A p s m av meth c prog_9_method_6_code 15 "BellHammer$Tree" none) {nk : Nat} (hnk : 4 ≤ nk) {kG : Int32 → Int32 → Int32 → Int32 → Int64 → Int32 → St → Option (St)} (hkG : ∀ (a1 : Int32) (a2 : Int32) (a3 : Int32) (a4 : Int32) (a5 : Int64) (a6 : Int32) (σ : St) (σ2 : St), kG a1 a2 a3 a4 a5 a6 σ = some σ2 → KK l y_Tree_goOn prog_9_method_6_code 15 none nk g (wX g q) σ [.ref (q 25), .ref (q 34), .int a1, .int a2, .int a3, .int a4, .long a5, .int a6] none (wX g q) σ2)  {x2 : Int32} {x3 : Int32} {x4 : Int32} {x6 : Int64} {x8 : Int32} {σ : St} {H : Heap} {locs : List Loc} {ls : Array Slot} (hf : f_Tree_goOn_114 kG  x2 x3 x4 x6 x8 σ = some σ2) (w : Wd g (wX g q) A s σ H locs) (hl : lv_has ls 15 [(0, .ref (q 25)), (1, .ref (q 34)), (2, .int x2), (3, .int x3), (4, .int x4), (6, .long x6), (8, .int x8)]) : WK p l e s m av below meth c (nk + 2) g (wX g q) A none σ2 H locs (F0 m 114 ls []) := by
  obtain ⟨hx, hb, hml, hown, hts, hK, hA, hZ, hlocks, hr, hN⟩ := id C
  unfold f_Tree_goOn_114 at hf
  refine lv_iconst (v := 0) hx hb d_Tree_goOn_114 (by decide) ?_
  exact t_Tree_goOn_115 C hnk hkG  hf w (lv_sub hl [0, 1, 2, 3, 4, 5, 6] rfl)
set_option maxHeartbeats 4000000 in
set_option maxRecDepth 20000 in
theorem t_Tree_goOn_18 {σ2 : St} (C : Cx g A p s m av meth c prog_9_method_6_code 15 "BellHammer$Tree" none) {nk : Nat} (hnk : 4 ≤ nk) {kG : Int32 → Int32 → Int32 → Int32 → Int64 → Int32 → St → Option (St)} (hkG : ∀ (a1 : Int32) (a2 : Int32) (a3 : Int32) (a4 : Int32) (a5 : Int64) (a6 : Int32) (σ : St) (σ2 : St), kG a1 a2 a3 a4 a5 a6 σ = some σ2 → KK l y_Tree_goOn prog_9_method_6_code 15 none nk g (wX g q) σ [.ref (q 25), .ref (q 34), .int a1, .int a2, .int a3, .int a4, .long a5, .int a6] none (wX g q) σ2)  {x3 : Int32} {x4 : Int32} {x6 : Int64} {σ : St} {H : Heap} {locs : List Loc} {ls : Array Slot} (hf : f_Tree_goOn_18 kG  x3 x4 x6 σ = some σ2) (w : Wd g (wX g q) A s σ H locs) (hl : lv_has ls 15 [(0, .ref (q 25)), (3, .int x3), (4, .int x4), (6, .long x6)]) : WK p l e s m av below meth c (nk + 2) g (wX g q) A none σ2 H locs (F0 m 18 ls []) := by
  obtain ⟨hx, hb, hml, hown, hts, hK, hA, hZ, hlocks, hr, hN⟩ := id C
  unfold f_Tree_goOn_18 at hf
  refine lv_aload_n hx hb d_Tree_goOn_18 rfl (lv_at hl 0 rfl) ?_
  refine lv_aload_n hx hb d_Tree_goOn_19 rfl (lv_at hl 0 rfl) ?_
  refine xg_25_fewest C w k467 d_Tree_goOn_20 ?_
  refine lv_iload_n hx hb d_Tree_goOn_23 rfl (lv_at hl 1 rfl) ?_
  refine r_min C hl.1 (by omega) (Nat.le_of_ble_eq_true rfl) k852 d_Tree_goOn_24 ?_
  refine xp_25_fewest C w k467 d_Tree_goOn_27 (fun σ_1 H locs eσ_1 w => ?_)
  have hf := lt_e eσ_1 hf
  refine lv_aload_n hx hb d_Tree_goOn_30 rfl (lv_at hl 0 rfl) ?_
  refine lv_aload_n hx hb d_Tree_goOn_31 rfl (lv_at hl 0 rfl) ?_
  refine xg_25_most C w k468 d_Tree_goOn_32 ?_
  refine lv_iload_n hx hb d_Tree_goOn_35 rfl (lv_at hl 1 rfl) ?_
  refine r_max C hl.1 (by omega) (Nat.le_of_ble_eq_true rfl) k853 d_Tree_goOn_36 ?_
  refine xp_25_most C w k468 d_Tree_goOn_39 (fun σ_2 H locs eσ_2 w => ?_)
  have hf := lt_e eσ_2 hf
  refine lv_aload_n hx hb d_Tree_goOn_42 rfl (lv_at hl 0 rfl) ?_
  refine lv_dup hx hb d_Tree_goOn_43 rfl ?_
  refine xg_25_people C w k466 d_Tree_goOn_44 ?_
  refine lv_lload hx hb d_Tree_goOn_47 (lv_at hl 3 rfl) ?_
  refine lv_iload hx hb d_Tree_goOn_49 (lv_at hl 2 rfl) ?_
  refine lv_i2l hx hb d_Tree_goOn_51 rfl ?_
  refine lv_lmul hx hb d_Tree_goOn_52 ?_
  refine lv_ladd hx hb d_Tree_goOn_53 ?_
  refine xp_25_people C w k466 d_Tree_goOn_54 (fun σ_3 H locs eσ_3 w => ?_)
  have hf := lt_e eσ_3 hf
  cases some_e hf
  exact k_vret C w d_Tree_goOn_57
set_option maxHeartbeats 4000000 in
set_option maxRecDepth 20000 in
theorem c_Tree_goOnB {l : Launch} {g : GX} {q : Nat → Nat} {nk : Nat} (hnk : 4 ≤ nk) {kG : Int32 → Int32 → Int32 → Int32 → Int64 → Int32 → St → Option (St)} (hkG : ∀ (a1 : Int32) (a2 : Int32) (a3 : Int32) (a4 : Int32) (a5 : Int64) (a6 : Int32) (σ : St) (σ2 : St), kG a1 a2 a3 a4 a5 a6 σ = some σ2 → KK l y_Tree_goOn prog_9_method_6_code 15 none nk g (wX g q) σ [.ref (q 25), .ref (q 34), .int a1, .int a2, .int a3, .int a4, .long a5, .int a6] none (wX g q) σ2) {x2 : Int32} {x3 : Int32} {x4 : Int32} {x5 : Int32} {x6 : Int64} {x8 : Int32}  {σ : St} {σ2 : St} (hf : f_Tree_goOnB kG x2 x3 x4 x5 x6 x8 σ = some σ2) : KK l y_Tree_goOn prog_9_method_6_code 15 none (nk + 2) g (wX g q) σ [.ref (q 25), .ref (q 34), .int x2, .int x3, .int x4, .int x5, .long x6, .int x8] none (wX g q) σ2 := by
  refine KK_of (plainFor_of_name (by decide)) (Nat.le_of_ble_eq_true rfl) (fun p e s m below meth c A ls C w hl => ?_)
  have hl : lv_has ls 15 [(0, .ref (q 25)), (1, .ref (q 34)), (2, .int x2), (3, .int x3), (4, .int x4), (5, .int x5), (6, .long x6), (8, .int x8)] := hl
  obtain ⟨hx, hb, hml, hown, hts, hK, hA, hZ, hlocks, hr, hN⟩ := id C
  unfold f_Tree_goOnB at hf
  refine lv_iload_n hx hb d_Tree_goOn_0 rfl (lv_at hl 3 rfl) ?_
  refine lv_iconst (v := 4) hx hb d_Tree_goOn_1 (by decide) ?_
  refine lv_icmp_ge (tgt := 18) hx hb d_Tree_goOn_2 (by decide) (fun cd => ?_) (fun cd => ?_)
  · have hf := it_e cd hf
    exact t_Tree_goOn_18 C hnk hkG  hf w (lv_sub hl [0, 3, 4, 6] rfl)
  · have hf := if_e cd hf
    refine lv_aload_n hx hb d_Tree_goOn_5 rfl (lv_at hl 0 rfl) ?_
    refine xg_25_turn C w k460 d_Tree_goOn_6 ?_
    refine lv_iload_n hx hb d_Tree_goOn_9 rfl (lv_at hl 3 rfl) ?_
    refine lv_iload hx hb d_Tree_goOn_10 (lv_at hl 5 rfl) ?_
    obtain ⟨r_2, h_1, hf⟩ := bp_e hf
    refine k_callV (As := [.int x3, .int x5]) (rest := []) C w (c_Turn_goesOn (q := q) h_1) cv_Turn_goesOn k840 (xr_26 C w) (by omega) hl.1 rfl (Nat.le_of_ble_eq_true rfl) d_Tree_goOn_12 (fun H locs w => ?_)
    show WK p l e s m _ below meth c (nk + 2) g (wX g q) A none σ2 H locs (F0 m 15 ls [.int r_2])
    refine lv_if_ne (tgt := 58) hx hb d_Tree_goOn_15 (by decide) (fun cd => ?_) (fun cd => ?_)
    · have hf := if_e cd hf
      refine lv_aload_n hx hb d_Tree_goOn_58 rfl (lv_at hl 0 rfl) ?_
      refine xg_25_showman C w k462 d_Tree_goOn_59 ?_
      refine lv_iload hx hb d_Tree_goOn_62 (lv_at hl 4 rfl) ?_
      refine lv_iload_n hx hb d_Tree_goOn_64 rfl (lv_at hl 3 rfl) ?_
      refine lv_iload hx hb d_Tree_goOn_65 (lv_at hl 5 rfl) ?_
      refine lv_iconst (v := 0) hx hb d_Tree_goOn_67 (by decide) ?_
      obtain ⟨σ_4, h_3, hf⟩ := bp_e hf
      refine k_callV (As := [.int x4, .int x3, .int x5, .int 0]) (rest := []) C w (c_Showman_look_2 (q := q) h_3) cv_Showman_look k854 (xr_28 C w) (by omega) hl.1 rfl (Nat.le_of_ble_eq_true rfl) d_Tree_goOn_68 (fun H locs w => ?_)
      show WK p l e s m _ below meth c (nk + 2) g (wX g q) A none σ2 H locs (F0 m 71 ls [])
      refine lv_aload_n hx hb d_Tree_goOn_71 rfl (lv_at hl 0 rfl) ?_
      refine xg_25_showman C w k462 d_Tree_goOn_72 ?_
      refine lv_aload_n hx hb d_Tree_goOn_75 rfl (lv_at hl 0 rfl) ?_
      refine xg_25_turn C w k460 d_Tree_goOn_76 ?_
      refine xg_26_lady C w k411 d_Tree_goOn_79 ?_
      refine lv_aload_n hx hb d_Tree_goOn_82 rfl (lv_at hl 0 rfl) ?_
      refine xg_25_turn C w k460 d_Tree_goOn_83 ?_
      refine lv_iload_n hx hb d_Tree_goOn_86 rfl (lv_at hl 3 rfl) ?_
      obtain ⟨r_6, h_5, hf⟩ := bp_e hf
      refine k_callV (As := [.int x3]) (rest := [.int (sI σ_4 45), .ref (q 28)]) C w (c_Turn_coinsBehind (q := q) h_5) cv_Turn_coinsBehind k855 (xr_26 C w) (by omega) hl.1 rfl (Nat.le_of_ble_eq_true rfl) d_Tree_goOn_87 (fun H locs w => ?_)
      show WK p l e s m _ below meth c (nk + 2) g (wX g q) A none σ2 H locs (F0 m 90 ls [.int r_6, .int (sI σ_4 45), .ref (q 28)])
      obtain ⟨σ_8, h_7, hf⟩ := bp_e hf
      refine k_callV (As := [.int (sI σ_4 45), .int r_6]) (rest := []) C w (c_Showman_lookAt_2 (q := q) h_7) cv_Showman_lookAt k856 (xr_28 C w) (by omega) hl.1 rfl (Nat.le_of_ble_eq_true rfl) d_Tree_goOn_90 (fun H locs w => ?_)
      show WK p l e s m _ below meth c (nk + 2) g (wX g q) A none σ2 H locs (F0 m 93 ls [])
      refine lv_iload_n hx hb d_Tree_goOn_93 rfl (lv_at hl 2 rfl) ?_
      refine lv_if_eq (tgt := 114) hx hb d_Tree_goOn_94 (by decide) (fun cd => ?_) (fun cd => ?_)
      · have hf := it_e cd hf
        exact t_Tree_goOn_114 C hnk hkG  hf w (lv_sub hl [0, 1, 2, 3, 4, 6, 7] rfl)
      · have hf := if_e cd hf
        refine lv_aload_n hx hb d_Tree_goOn_97 rfl (lv_at hl 0 rfl) ?_
        refine xg_25_showman C w k462 d_Tree_goOn_98 ?_
        refine lv_aload_n hx hb d_Tree_goOn_101 rfl (lv_at hl 1 rfl) ?_
        obtain ⟨r_10, σ_11, h_9, hf⟩ := bd_e hf
        refine k_callV (As := [.ref (q 34)]) (rest := []) C w (c_Showman_rulesThatHold_2 (q := q) h_9) cv_Showman_rulesThatHold k857 (xr_28 C w) (by omega) hl.1 rfl (Nat.le_of_ble_eq_true rfl) d_Tree_goOn_102 (fun H locs w => ?_)
        show WK p l e s m _ below meth c (nk + 2) g (wX g q) A none σ2 H locs (F0 m 105 ls [.int r_10])
        refine lv_iload_n hx hb d_Tree_goOn_105 rfl (lv_at hl 2 rfl) ?_
        refine lv_iand hx hb d_Tree_goOn_106 ?_
        refine lv_if_eq (tgt := 114) hx hb d_Tree_goOn_107 (by decide) (fun cd => ?_) (fun cd => ?_)
        · have hf := it_e cd hf
          exact t_Tree_goOn_114 C hnk hkG  hf w (lv_sub hl [0, 1, 2, 3, 4, 6, 7] rfl)
        · have hf := if_e cd hf
          refine lv_iconst (v := 1) hx hb d_Tree_goOn_110 (by decide) ?_
          refine lv_goto (tgt := 115) hx hb d_Tree_goOn_111 (by decide) ?_
          exact t_Tree_goOn_115 C hnk hkG  hf w (lv_sub hl [0, 1, 2, 3, 4, 6, 7] rfl)
    · have hf := it_e cd hf
      exact t_Tree_goOn_18 C hnk hkG  hf w (lv_sub hl [0, 3, 4, 6] rfl)
set_option maxHeartbeats 4000000 in
set_option maxRecDepth 20000 in
theorem c_Tree_goOn {l : Launch} {g : GX} {q : Nat → Nat} : ∀ (d : Nat) (x2 : Int32) (x3 : Int32) (x4 : Int32) (x5 : Int32) (x6 : Int64) (x8 : Int32) (σ : St) (σ2 : St), f_Tree_goOn d x2 x3 x4 x5 x6 x8 σ = some σ2 → KK l y_Tree_goOn prog_9_method_6_code 15 none (4 + 2 * d) g (wX g q) σ [.ref (q 25), .ref (q 34), .int x2, .int x3, .int x4, .int x5, .long x6, .int x8] none (wX g q) σ2 := by
  intro d
  induction d with
  | zero => intro x2 x3 x4 x5 x6 x8 σ σ2 hf; exact absurd hf (by intro z; cases z)
  | succ d ih =>
    intro x2 x3 x4 x5 x6 x8 σ σ2 hf
    have := c_Tree_goOnB (l := l) (g := g) (q := q) (nk := 4 + 2 * d) (by omega) ih hf
    rw [show 4 + 2 * (d + 1) = 4 + 2 * d + 2 from by omega]
    exact this
def f_Tree_walk (x2 : Int32) (σ : St) : Option (St) :=
  lt (uJ σ 0 0) fun σ_1 =>
  lt (uJ σ_1 1 0) fun σ_2 =>
  lt (uJ σ_2 2 0) fun σ_3 =>
  lt (uJ σ_3 3 0) fun σ_4 =>
  lt (uI σ_4 37 4) fun σ_5 =>
  lt (uI σ_5 38 0) fun σ_6 =>
  bp (f_Tree_goOn 6 x2 0 (sI σ_6 51) 0 12960000 0 σ_6) fun σ_8 =>
  some σ_8
set_option maxHeartbeats 4000000 in
set_option maxRecDepth 20000 in
theorem c_Tree_walk {l : Launch} {g : GX} {q : Nat → Nat} {x2 : Int32}  {σ : St} {σ2 : St} (hf : f_Tree_walk  x2 σ = some σ2) : KK l y_Tree_walk prog_9_method_5_code 3 none 17 g (wX g q) σ [.ref (q 25), .ref (q 34), .int x2] none (wX g q) σ2 := by
  refine KK_of (plainFor_of_name (by decide)) (Nat.le_of_ble_eq_true rfl) (fun p e s m below meth c A ls C w hl => ?_)
  have hl : lv_has ls 3 [(0, .ref (q 25)), (1, .ref (q 34)), (2, .int x2)] := hl
  obtain ⟨hx, hb, hml, hown, hts, hK, hA, hZ, hlocks, hr, hN⟩ := id C
  unfold f_Tree_walk at hf
  refine lv_aload_n hx hb d_Tree_walk_0 rfl (lv_at hl 0 rfl) ?_
  refine lv_lconst (v := 0) hx hb d_Tree_walk_1 (by decide) ?_
  refine xp_25_rings C w k463 d_Tree_walk_2 (fun σ_1 H locs eσ_1 w => ?_)
  have hf := lt_e eσ_1 hf
  refine lv_aload_n hx hb d_Tree_walk_5 rfl (lv_at hl 0 rfl) ?_
  refine lv_lconst (v := 0) hx hb d_Tree_walk_6 (by decide) ?_
  refine xp_25_blows C w k464 d_Tree_walk_7 (fun σ_2 H locs eσ_2 w => ?_)
  have hf := lt_e eσ_2 hf
  refine lv_aload_n hx hb d_Tree_walk_10 rfl (lv_at hl 0 rfl) ?_
  refine lv_lconst (v := 0) hx hb d_Tree_walk_11 (by decide) ?_
  refine xp_25_leans C w k465 d_Tree_walk_12 (fun σ_3 H locs eσ_3 w => ?_)
  have hf := lt_e eσ_3 hf
  refine lv_aload_n hx hb d_Tree_walk_15 rfl (lv_at hl 0 rfl) ?_
  refine lv_lconst (v := 0) hx hb d_Tree_walk_16 (by decide) ?_
  refine xp_25_people C w k466 d_Tree_walk_17 (fun σ_4 H locs eσ_4 w => ?_)
  have hf := lt_e eσ_4 hf
  refine lv_aload_n hx hb d_Tree_walk_20 rfl (lv_at hl 0 rfl) ?_
  refine lv_iconst (v := 4) hx hb d_Tree_walk_21 (by decide) ?_
  refine xp_25_fewest C w k467 d_Tree_walk_22 (fun σ_5 H locs eσ_5 w => ?_)
  have hf := lt_e eσ_5 hf
  refine lv_aload_n hx hb d_Tree_walk_25 rfl (lv_at hl 0 rfl) ?_
  refine lv_iconst (v := 0) hx hb d_Tree_walk_26 (by decide) ?_
  refine xp_25_most C w k468 d_Tree_walk_27 (fun σ_6 H locs eσ_6 w => ?_)
  have hf := lt_e eσ_6 hf
  refine lv_aload_n hx hb d_Tree_walk_30 rfl (lv_at hl 0 rfl) ?_
  refine lv_aload_n hx hb d_Tree_walk_31 rfl (lv_at hl 1 rfl) ?_
  refine lv_iload_n hx hb d_Tree_walk_32 rfl (lv_at hl 2 rfl) ?_
  refine lv_iconst (v := 0) hx hb d_Tree_walk_33 (by decide) ?_
  refine lv_aload_n hx hb d_Tree_walk_34 rfl (lv_at hl 0 rfl) ?_
  refine xg_25_turn C w k460 d_Tree_walk_35 ?_
  refine xg_26_crowd C w k421 d_Tree_walk_38 ?_
  refine lv_iconst (v := 0) hx hb d_Tree_walk_41 (by decide) ?_
  refine lv_ldc2 (v := 12960000) hx hb hown (hts _ k835) d_Tree_walk_42 ?_
  refine lv_iconst (v := 0) hx hb d_Tree_walk_45 (by decide) ?_
  obtain ⟨σ_8, h_7, hf⟩ := bp_e hf
  refine k_callV (As := [.ref (q 34), .int x2, .int 0, .int (sI σ_6 51), .int 0, .long 12960000, .int 0]) (rest := []) C w (c_Tree_goOn (q := q) 6 _ _ _ _ _ _ _ _ h_7) cv_Tree_goOn k836 (xr_25 C w) (by decide) hl.1 rfl (Nat.le_of_ble_eq_true rfl) d_Tree_walk_46 (fun H locs w => ?_)
  show WK p l e s m _ below meth c 17 g (wX g q) A none σ2 H locs (F0 m 49 ls [])
  cases some_e hf
  exact k_vret C w d_Tree_walk_49
def f_Tree_thousandths (x0 : Int64) (σ : St) : Option (Int32) :=
  some (((x0 * 1000) / 12960000)).toInt32
set_option maxHeartbeats 4000000 in
set_option maxRecDepth 20000 in
theorem c_Tree_thousandths {l : Launch} {g : GX} {q : Nat → Nat} {x0 : Int64}  {σ : St} {r : Int32} (hf : f_Tree_thousandths  x0 σ = some r) : KK l y_Tree_thousandths prog_9_method_3_code 2 (some .int) 0 g (wX g q) σ [.long x0] (some (.int r)) (wX g q) σ := by
  refine KK_of (plainFor_of_name (by decide)) (Nat.le_of_ble_eq_true rfl) (fun p e s m below meth c A ls C w hl => ?_)
  have hl : lv_has ls 2 [(0, .long x0)] := hl
  obtain ⟨hx, hb, hml, hown, hts, hK, hA, hZ, hlocks, hr, hN⟩ := id C
  unfold f_Tree_thousandths at hf
  refine lv_lload_n hx hb d_Tree_thousandths_0 rfl (lv_at hl 0 rfl) ?_
  refine lv_ldc2 (v := 1000) hx hb hown (hts _ k879) d_Tree_thousandths_1 ?_
  refine lv_lmul hx hb d_Tree_thousandths_4 ?_
  refine lv_ldc2 (v := 12960000) hx hb hown (hts _ k835) d_Tree_thousandths_5 ?_
  refine lv_ldiv hx hb d_Tree_thousandths_8 (by decide) ?_
  refine lv_l2i hx hb d_Tree_thousandths_9 rfl ?_
  cases some_e hf
  exact k_iret C w d_Tree_thousandths_10
def f_Tree_fact (x1 : Int32) (σ : St) : Option (Int32) :=
  if x1 = 0 then
    bp (f_Tree_thousandths (sJ σ 0) σ) fun r_2 =>
    some r_2
  else
    if x1 = 1 then
      bp (f_Tree_thousandths ((sJ σ 1) * ((sI σ 48)).toInt64) σ) fun r_4 =>
      some r_4
    else
      if x1 = 2 then
        some (sI σ 37)
      else
        if x1 = 3 then
          some (sI σ 38)
        else
          if x1 = 4 then
            bp (f_Tree_thousandths (sJ σ 2) σ) fun r_6 =>
            some r_6
          else
            if x1 = 5 then
              bp (f_Tree_thousandths (sJ σ 3) σ) fun r_8 =>
              some r_8
            else
              some (-1)
set_option maxHeartbeats 4000000 in
set_option maxRecDepth 20000 in
theorem c_Tree_fact {l : Launch} {g : GX} {q : Nat → Nat} {x1 : Int32}  {σ : St} {r : Int32} (hf : f_Tree_fact  x1 σ = some r) : KK l y_Tree_fact prog_9_method_2_code 2 (some .int) 1 g (wX g q) σ [.ref (q 25), .int x1] (some (.int r)) (wX g q) σ := by
  refine KK_of (plainFor_of_name (by decide)) (Nat.le_of_ble_eq_true rfl) (fun p e s m below meth c A ls C w hl => ?_)
  have hl : lv_has ls 2 [(0, .ref (q 25)), (1, .int x1)] := hl
  obtain ⟨hx, hb, hml, hown, hts, hK, hA, hZ, hlocks, hr, hN⟩ := id C
  unfold f_Tree_fact at hf
  refine lv_iload_n hx hb d_Tree_fact_0 rfl (lv_at hl 1 rfl) ?_
  by_cases c0 : x1 = 0
  · have hf := it_e c0 hf
    refine lv_tableIn (tgt := 40) hx hb d_Tree_fact_1 (by rw [c0]; decide) (by rw [c0]; decide) (by rw [c0]; rfl) (by decide) ?_
    refine lv_aload_n hx hb d_Tree_fact_40 rfl (lv_at hl 0 rfl) ?_
    refine xg_25_rings C w k463 d_Tree_fact_41 ?_
    obtain ⟨r_2, h_1, hf⟩ := bp_e hf
    refine k_callS (As := [.long (sJ σ 0)]) (rest := []) C w (c_Tree_thousandths (q := q) h_1) cv_Tree_thousandths k876 (by decide) hl.1 rfl (Nat.le_of_ble_eq_true rfl) d_Tree_fact_44 (fun H locs w => ?_)
    show WK p l e s m _ below meth c 1 g (wX g q) A (some (.int r)) σ H locs (F0 m 47 ls [.int r_2])
    cases some_e hf
    exact k_iret C w d_Tree_fact_47
  have hf := if_e c0 hf
  have n0 := lv_neT c0 (a := 0) rfl
  by_cases c1 : x1 = 1
  · have hf := it_e c1 hf
    refine lv_tableIn (tgt := 48) hx hb d_Tree_fact_1 (by rw [c1]; decide) (by rw [c1]; decide) (by rw [c1]; rfl) (by decide) ?_
    refine lv_aload_n hx hb d_Tree_fact_48 rfl (lv_at hl 0 rfl) ?_
    refine xg_25_blows C w k464 d_Tree_fact_49 ?_
    refine lv_aload_n hx hb d_Tree_fact_52 rfl (lv_at hl 0 rfl) ?_
    refine xg_25_turn C w k460 d_Tree_fact_53 ?_
    refine xg_26_price C w k416 d_Tree_fact_56 ?_
    refine lv_i2l hx hb d_Tree_fact_59 rfl ?_
    refine lv_lmul hx hb d_Tree_fact_60 ?_
    obtain ⟨r_4, h_3, hf⟩ := bp_e hf
    refine k_callS (As := [.long ((sJ σ 1) * ((sI σ 48)).toInt64)]) (rest := []) C w (c_Tree_thousandths (q := q) h_3) cv_Tree_thousandths k876 (by decide) hl.1 rfl (Nat.le_of_ble_eq_true rfl) d_Tree_fact_61 (fun H locs w => ?_)
    show WK p l e s m _ below meth c 1 g (wX g q) A (some (.int r)) σ H locs (F0 m 64 ls [.int r_4])
    cases some_e hf
    exact k_iret C w d_Tree_fact_64
  have hf := if_e c1 hf
  have n1 := lv_neT c1 (a := 1) rfl
  by_cases c2 : x1 = 2
  · have hf := it_e c2 hf
    refine lv_tableIn (tgt := 65) hx hb d_Tree_fact_1 (by rw [c2]; decide) (by rw [c2]; decide) (by rw [c2]; rfl) (by decide) ?_
    refine lv_aload_n hx hb d_Tree_fact_65 rfl (lv_at hl 0 rfl) ?_
    refine xg_25_fewest C w k467 d_Tree_fact_66 ?_
    cases some_e hf
    exact k_iret C w d_Tree_fact_69
  have hf := if_e c2 hf
  have n2 := lv_neT c2 (a := 2) rfl
  by_cases c3 : x1 = 3
  · have hf := it_e c3 hf
    refine lv_tableIn (tgt := 70) hx hb d_Tree_fact_1 (by rw [c3]; decide) (by rw [c3]; decide) (by rw [c3]; rfl) (by decide) ?_
    refine lv_aload_n hx hb d_Tree_fact_70 rfl (lv_at hl 0 rfl) ?_
    refine xg_25_most C w k468 d_Tree_fact_71 ?_
    cases some_e hf
    exact k_iret C w d_Tree_fact_74
  have hf := if_e c3 hf
  have n3 := lv_neT c3 (a := 3) rfl
  by_cases c4 : x1 = 4
  · have hf := it_e c4 hf
    refine lv_tableIn (tgt := 75) hx hb d_Tree_fact_1 (by rw [c4]; decide) (by rw [c4]; decide) (by rw [c4]; rfl) (by decide) ?_
    refine lv_aload_n hx hb d_Tree_fact_75 rfl (lv_at hl 0 rfl) ?_
    refine xg_25_leans C w k465 d_Tree_fact_76 ?_
    obtain ⟨r_6, h_5, hf⟩ := bp_e hf
    refine k_callS (As := [.long (sJ σ 2)]) (rest := []) C w (c_Tree_thousandths (q := q) h_5) cv_Tree_thousandths k876 (by decide) hl.1 rfl (Nat.le_of_ble_eq_true rfl) d_Tree_fact_79 (fun H locs w => ?_)
    show WK p l e s m _ below meth c 1 g (wX g q) A (some (.int r)) σ H locs (F0 m 82 ls [.int r_6])
    cases some_e hf
    exact k_iret C w d_Tree_fact_82
  have hf := if_e c4 hf
  have n4 := lv_neT c4 (a := 4) rfl
  by_cases c5 : x1 = 5
  · have hf := it_e c5 hf
    refine lv_tableIn (tgt := 83) hx hb d_Tree_fact_1 (by rw [c5]; decide) (by rw [c5]; decide) (by rw [c5]; rfl) (by decide) ?_
    refine lv_aload_n hx hb d_Tree_fact_83 rfl (lv_at hl 0 rfl) ?_
    refine xg_25_people C w k466 d_Tree_fact_84 ?_
    obtain ⟨r_8, h_7, hf⟩ := bp_e hf
    refine k_callS (As := [.long (sJ σ 3)]) (rest := []) C w (c_Tree_thousandths (q := q) h_7) cv_Tree_thousandths k876 (by decide) hl.1 rfl (Nat.le_of_ble_eq_true rfl) d_Tree_fact_87 (fun H locs w => ?_)
    show WK p l e s m _ below meth c 1 g (wX g q) A (some (.int r)) σ H locs (F0 m 90 ls [.int r_8])
    cases some_e hf
    exact k_iret C w d_Tree_fact_90
  have hf := if_e c5 hf
  have n5 := lv_neT c5 (a := 5) rfl
  refine lv_tableOut (tgt := 91) hx hb d_Tree_fact_1 (by omega) (by decide) ?_
  refine lv_iconst (v := (-1)) hx hb d_Tree_fact_91 (by decide) ?_
  cases some_e hf
  exact k_iret C w d_Tree_fact_92
def f_BH_tree (x1 : Int32) (x2 : Int32) (σ : St) : Option (Int32 × St) :=
  bp (f_BH_isTrier x1 σ) fun r_2 =>
  if r_2 = 0 then
    some ((-1), σ)
  else
    bp (f_Turn_load_2 x1 σ) fun σ_4 =>
    bp (f_Tree_walk (sI σ_4 19) σ_4) fun σ_6 =>
    bp (f_Tree_fact x2 σ_6) fun r_8 =>
    some (r_8, σ_6)
set_option maxHeartbeats 4000000 in
set_option maxRecDepth 20000 in
theorem c_BH_tree {l : Launch} {g : GX} {q : Nat → Nat} {x1 : Int32} {x2 : Int32}  {σ : St} {r : Int32} {σ2 : St} (hf : f_BH_tree  x1 x2 σ = some (r, σ2)) : KK l y_BH_tree prog_1_method_15_code 3 (some .int) 18 g (wX g q) σ [.ref (q 0), .int x1, .int x2] (some (.int r)) (wX g q) σ2 := by
  refine KK_of (plainFor_of_name (by decide)) (Nat.le_of_ble_eq_true rfl) (fun p e s m below meth c A ls C w hl => ?_)
  have hl : lv_has ls 3 [(0, .ref (q 0)), (1, .int x1), (2, .int x2)] := hl
  obtain ⟨hx, hb, hml, hown, hts, hK, hA, hZ, hlocks, hr, hN⟩ := id C
  unfold f_BH_tree at hf
  refine lv_aload_n hx hb d_BH_tree_0 rfl (lv_at hl 0 rfl) ?_
  refine lv_iload_n hx hb d_BH_tree_1 rfl (lv_at hl 1 rfl) ?_
  obtain ⟨r_2, h_1, hf⟩ := bp_e hf
  refine k_callV (As := [.int x1]) (rest := []) C w (c_BH_isTrier (q := q) h_1) cv_BH_isTrier k726 (xr_0 C w) (by decide) hl.1 rfl (Nat.le_of_ble_eq_true rfl) d_BH_tree_2 (fun H locs w => ?_)
  show WK p l e s m _ below meth c 18 g (wX g q) A (some (.int r)) σ2 H locs (F0 m 5 ls [.int r_2])
  refine lv_if_ne (tgt := 10) hx hb d_BH_tree_5 (by decide) (fun cd => ?_) (fun cd => ?_)
  · have hf := if_e cd hf
    refine lv_aload_n hx hb d_BH_tree_10 rfl (lv_at hl 0 rfl) ?_
    refine xg_0_tree C w k510 d_BH_tree_11 ?_
    refine xg_25_turn C w k461 d_BH_tree_14 ?_
    refine lv_aload_n hx hb d_BH_tree_17 rfl (lv_at hl 0 rfl) ?_
    refine xg_0_fair C w k511 d_BH_tree_18 ?_
    refine lv_iload_n hx hb d_BH_tree_21 rfl (lv_at hl 1 rfl) ?_
    refine lv_aload_n hx hb d_BH_tree_22 rfl (lv_at hl 0 rfl) ?_
    refine xg_0_book C w k507 d_BH_tree_23 ?_
    refine xg_14_now C w k342 d_BH_tree_26 ?_
    obtain ⟨σ_4, h_3, hf⟩ := bp_e hf
    refine k_callV (As := [.ref (q 34), .int x1, .ref (q 15)]) (rest := []) C w (c_Turn_load_2 (q := q) h_3) cv_Turn_load k760 (xr_26 C w) (by decide) hl.1 rfl (Nat.le_of_ble_eq_true rfl) d_BH_tree_29 (fun H locs w => ?_)
    show WK p l e s m _ below meth c 18 g (wX g q) A (some (.int r)) σ2 H locs (F0 m 32 ls [])
    refine lv_aload_n hx hb d_BH_tree_32 rfl (lv_at hl 0 rfl) ?_
    refine xg_0_tree C w k510 d_BH_tree_33 ?_
    refine lv_aload_n hx hb d_BH_tree_36 rfl (lv_at hl 0 rfl) ?_
    refine xg_0_fair C w k511 d_BH_tree_37 ?_
    refine lv_aload_n hx hb d_BH_tree_40 rfl (lv_at hl 0 rfl) ?_
    refine xg_0_book C w k507 d_BH_tree_41 ?_
    refine xg_14_inForce C w k340 d_BH_tree_44 ?_
    obtain ⟨σ_6, h_5, hf⟩ := bp_e hf
    refine k_callV (As := [.ref (q 34), .int (sI σ_4 19)]) (rest := []) C w (c_Tree_walk (q := q) h_5) cv_Tree_walk k831 (xr_25 C w) (by decide) hl.1 rfl (Nat.le_of_ble_eq_true rfl) d_BH_tree_47 (fun H locs w => ?_)
    show WK p l e s m _ below meth c 18 g (wX g q) A (some (.int r)) σ2 H locs (F0 m 50 ls [])
    refine lv_aload_n hx hb d_BH_tree_50 rfl (lv_at hl 0 rfl) ?_
    refine xg_0_tree C w k510 d_BH_tree_51 ?_
    refine lv_iload_n hx hb d_BH_tree_54 rfl (lv_at hl 2 rfl) ?_
    obtain ⟨r_8, h_7, hf⟩ := bp_e hf
    refine k_callV (As := [.int x2]) (rest := []) C w (c_Tree_fact (q := q) h_7) cv_Tree_fact k872 (xr_25 C w) (by decide) hl.1 rfl (Nat.le_of_ble_eq_true rfl) d_BH_tree_55 (fun H locs w => ?_)
    show WK p l e s m _ below meth c 18 g (wX g q) A (some (.int r)) σ2 H locs (F0 m 58 ls [.int r_8])
    obtain ⟨rfl, rfl⟩ := some2_e hf
    exact k_iret C w d_BH_tree_58
  · have hf := it_e cd hf
    refine lv_iconst (v := (-1)) hx hb d_BH_tree_8 (by decide) ?_
    obtain ⟨rfl, rfl⟩ := some2_e hf
    exact k_iret C w d_BH_tree_9
def f_Arrays_fill_J_6b (k6 : Int64 → Int32 → Int32 → St → Option (St)) (x1 : Int64) (x3 : Int32) (x4 : Int32) (σ : St) : Option (St) :=
  if x4 ≤ x3 then
    some σ
  else
    gd (inB x3 64) <|
    lt (uB σ 1 (vp_updL (sB σ 1) x3.toNatClampNeg x1)) fun σ_2 =>
    lt ((x3 + 1)) fun x_3 =>
    k6 x1 x_3 x4 σ_2
def f_Arrays_fill_J_6 : Nat → Int64 → Int32 → Int32 → St → Option (St)
  | 0 => fun _ _ _ _ => none
  | n + 1 => f_Arrays_fill_J_6b   (f_Arrays_fill_J_6   n)
def f_Arrays_fill_J (x1 : Int64) (σ : St) : Option (St) :=
  f_Arrays_fill_J_6 FU x1 0 64 σ
set_option maxHeartbeats 4000000 in
set_option maxRecDepth 20000 in
theorem t_Arrays_fill_J_6b {σ2 : St} (C : Cx g A p s m av meth c prog_19_method_101_code 5 "java/util/Arrays" none) {k6 : Int64 → Int32 → Int32 → St → Option (St)} (hk6 : ∀ (x1 : Int64) (x3 : Int32) (x4 : Int32) (σ : St) (H : Heap) (locs : List Loc) (ls : Array Slot), k6 x1 x3 x4 σ = some σ2 → Wd g (wX g q) A s σ H locs → lv_has ls 5 [(0, .ref (q 33)), (1, .long x1), (3, .int x3), (4, .int x4)] → WK p l e s m av below meth c 0 g (wX g q) A none σ2 H locs (F0 m 6 ls []))  {x1 : Int64} {x3 : Int32} {x4 : Int32} {σ : St} {H : Heap} {locs : List Loc} {ls : Array Slot} (hf : f_Arrays_fill_J_6b  k6 x1 x3 x4 σ = some σ2) (w : Wd g (wX g q) A s σ H locs) (hl : lv_has ls 5 [(0, .ref (q 33)), (1, .long x1), (3, .int x3), (4, .int x4)]) : WK p l e s m av below meth c 0 g (wX g q) A none σ2 H locs (F0 m 6 ls []) := by
  obtain ⟨hx, hb, hml, hown, hts, hK, hA, hZ, hlocks, hr, hN⟩ := id C
  unfold f_Arrays_fill_J_6b at hf
  refine lv_iload_n hx hb d_Arrays_fill_J_6 rfl (lv_at hl 2 rfl) ?_
  refine lv_iload hx hb d_Arrays_fill_J_7 (lv_at hl 3 rfl) ?_
  refine lv_icmp_ge (tgt := 22) hx hb d_Arrays_fill_J_9 (by decide) (fun cd => ?_) (fun cd => ?_)
  · have hf := it_e cd hf
    cases some_e hf
    exact k_vret C w d_Arrays_fill_J_22
  · have hf := if_e cd hf
    refine lv_aload_n hx hb d_Arrays_fill_J_12 rfl (lv_at hl 0 rfl) ?_
    refine lv_iload_n hx hb d_Arrays_fill_J_13 rfl (lv_at hl 2 rfl) ?_
    refine lv_lload_n hx hb d_Arrays_fill_J_14 rfl (lv_at hl 1 rfl) ?_
    obtain ⟨g_1, hf⟩ := gd_e hf
    refine xs_33 C w g_1 d_Arrays_fill_J_15 (fun σ_2 H locs eσ_2 w => ?_)
    have hf := lt_e eσ_2 hf
    obtain ⟨x_3, ex_3⟩ : ∃ y : Int32, y = (x3 + 1) := ⟨_, rfl⟩
    have hf := lt_e ex_3 hf
    refine lv_iinc (v := x_3) (lv' := [(3, .int x_3), (0, .ref (q 33)), (1, .long x1), (4, .int x4)]) hx hb d_Arrays_fill_J_16 hl (k := 2) rfl (by rw [ex_3]; rfl) (by decide) rfl (fun ls hl => ?_)
    refine lv_goto (tgt := 6) hx hb d_Arrays_fill_J_19 (by decide) ?_
    exact hk6 x1 x_3 x4 σ_2 _ _ _ hf w (lv_sub hl [1, 2, 0, 3] rfl)
set_option maxHeartbeats 4000000 in
set_option maxRecDepth 20000 in
theorem t_Arrays_fill_J_6 {σ2 : St} (C : Cx g A p s m av meth c prog_19_method_101_code 5 "java/util/Arrays" none)  : ∀ (n : Nat) (x1 : Int64) (x3 : Int32) (x4 : Int32) (σ : St) (H : Heap) (locs : List Loc) (ls : Array Slot), f_Arrays_fill_J_6   n x1 x3 x4 σ = some σ2 → Wd g (wX g q) A s σ H locs → lv_has ls 5 [(0, .ref (q 33)), (1, .long x1), (3, .int x3), (4, .int x4)] → WK p l e s m av below meth c 0 g (wX g q) A none σ2 H locs (F0 m 6 ls []) := by
  intro n
  induction n with
  | zero => intro x1 x3 x4 σ H locs ls hf; exact absurd hf (by intro z; cases z)
  | succ n ih => intro x1 x3 x4 σ H locs ls hf w hl; exact t_Arrays_fill_J_6b C  ih hf w hl
set_option maxHeartbeats 4000000 in
set_option maxRecDepth 20000 in
theorem c_Arrays_fill_J {l : Launch} {g : GX} {q : Nat → Nat} {x1 : Int64}  {σ : St} {σ2 : St} (hf : f_Arrays_fill_J  x1 σ = some σ2) : KK l y_Arrays_fill_J prog_19_method_101_code 5 none 0 g (wX g q) σ [.ref (q 33), .long x1] none (wX g q) σ2 := by
  refine KK_of (by decide +kernel) (Nat.le_of_ble_eq_true rfl) (fun p e s m below meth c A ls C w hl => ?_)
  have hl : lv_has ls 5 [(0, .ref (q 33)), (1, .long x1)] := hl
  obtain ⟨hx, hb, hml, hown, hts, hK, hA, hZ, hlocks, hr, hN⟩ := id C
  unfold f_Arrays_fill_J at hf
  refine lv_iconst (v := 0) hx hb d_Arrays_fill_J_0 (by decide) ?_
  refine lv_istore_n (lv' := [(3, .int 0), (0, .ref (q 33)), (1, .long x1)]) hx hb d_Arrays_fill_J_1 rfl hl (by decide) rfl (fun ls hl => ?_)
  refine lv_aload_n hx hb d_Arrays_fill_J_2 rfl (lv_at hl 1 rfl) ?_
  refine xn_33 C w d_Arrays_fill_J_3 ?_
  refine lv_istore (lv' := [(4, .int 64), (3, .int 0), (0, .ref (q 33)), (1, .long x1)]) hx hb d_Arrays_fill_J_4 hl (by decide) rfl (fun ls hl => ?_)
  exact t_Arrays_fill_J_6 C  FU x1 0 64 σ _ _ _ hf w (lv_sub hl [2, 3, 1, 0] rfl)
def f_Arrays_fill_I_5b (k5 : Int32 → Int32 → Int32 → St → Option (St)) (x1 : Int32) (x2 : Int32) (x3 : Int32) (σ : St) : Option (St) :=
  if x3 ≤ x2 then
    some σ
  else
    gd (inB x2 192) <|
    lt (uA σ 20 (upd (sA σ 20) x2.toNatClampNeg x1)) fun σ_2 =>
    lt ((x2 + 1)) fun x_3 =>
    k5 x1 x_3 x3 σ_2
def f_Arrays_fill_I_5 : Nat → Int32 → Int32 → Int32 → St → Option (St)
  | 0 => fun _ _ _ _ => none
  | n + 1 => f_Arrays_fill_I_5b   (f_Arrays_fill_I_5   n)
def f_Arrays_fill_I (x1 : Int32) (σ : St) : Option (St) :=
  f_Arrays_fill_I_5 FU x1 0 192 σ
set_option maxHeartbeats 4000000 in
set_option maxRecDepth 20000 in
theorem t_Arrays_fill_I_5b {σ2 : St} (C : Cx g A p s m av meth c prog_19_method_103_code 4 "java/util/Arrays" none) {k5 : Int32 → Int32 → Int32 → St → Option (St)} (hk5 : ∀ (x1 : Int32) (x2 : Int32) (x3 : Int32) (σ : St) (H : Heap) (locs : List Loc) (ls : Array Slot), k5 x1 x2 x3 σ = some σ2 → Wd g (wX g q) A s σ H locs → lv_has ls 4 [(0, .ref (q 32)), (1, .int x1), (2, .int x2), (3, .int x3)] → WK p l e s m av below meth c 0 g (wX g q) A none σ2 H locs (F0 m 5 ls []))  {x1 : Int32} {x2 : Int32} {x3 : Int32} {σ : St} {H : Heap} {locs : List Loc} {ls : Array Slot} (hf : f_Arrays_fill_I_5b  k5 x1 x2 x3 σ = some σ2) (w : Wd g (wX g q) A s σ H locs) (hl : lv_has ls 4 [(0, .ref (q 32)), (1, .int x1), (2, .int x2), (3, .int x3)]) : WK p l e s m av below meth c 0 g (wX g q) A none σ2 H locs (F0 m 5 ls []) := by
  obtain ⟨hx, hb, hml, hown, hts, hK, hA, hZ, hlocks, hr, hN⟩ := id C
  unfold f_Arrays_fill_I_5b at hf
  refine lv_iload_n hx hb d_Arrays_fill_I_5 rfl (lv_at hl 2 rfl) ?_
  refine lv_iload_n hx hb d_Arrays_fill_I_6 rfl (lv_at hl 3 rfl) ?_
  refine lv_icmp_ge (tgt := 20) hx hb d_Arrays_fill_I_7 (by decide) (fun cd => ?_) (fun cd => ?_)
  · have hf := it_e cd hf
    cases some_e hf
    exact k_vret C w d_Arrays_fill_I_20
  · have hf := if_e cd hf
    refine lv_aload_n hx hb d_Arrays_fill_I_10 rfl (lv_at hl 0 rfl) ?_
    refine lv_iload_n hx hb d_Arrays_fill_I_11 rfl (lv_at hl 2 rfl) ?_
    refine lv_iload_n hx hb d_Arrays_fill_I_12 rfl (lv_at hl 1 rfl) ?_
    obtain ⟨g_1, hf⟩ := gd_e hf
    refine xs_32 C w g_1 d_Arrays_fill_I_13 (fun σ_2 H locs eσ_2 w => ?_)
    have hf := lt_e eσ_2 hf
    obtain ⟨x_3, ex_3⟩ : ∃ y : Int32, y = (x2 + 1) := ⟨_, rfl⟩
    have hf := lt_e ex_3 hf
    refine lv_iinc (v := x_3) (lv' := [(2, .int x_3), (0, .ref (q 32)), (1, .int x1), (3, .int x3)]) hx hb d_Arrays_fill_I_14 hl (k := 2) rfl (by rw [ex_3]; rfl) (by decide) rfl (fun ls hl => ?_)
    refine lv_goto (tgt := 5) hx hb d_Arrays_fill_I_17 (by decide) ?_
    exact hk5 x1 x_3 x3 σ_2 _ _ _ hf w (lv_sub hl [1, 2, 0, 3] rfl)
set_option maxHeartbeats 4000000 in
set_option maxRecDepth 20000 in
theorem t_Arrays_fill_I_5 {σ2 : St} (C : Cx g A p s m av meth c prog_19_method_103_code 4 "java/util/Arrays" none)  : ∀ (n : Nat) (x1 : Int32) (x2 : Int32) (x3 : Int32) (σ : St) (H : Heap) (locs : List Loc) (ls : Array Slot), f_Arrays_fill_I_5   n x1 x2 x3 σ = some σ2 → Wd g (wX g q) A s σ H locs → lv_has ls 4 [(0, .ref (q 32)), (1, .int x1), (2, .int x2), (3, .int x3)] → WK p l e s m av below meth c 0 g (wX g q) A none σ2 H locs (F0 m 5 ls []) := by
  intro n
  induction n with
  | zero => intro x1 x2 x3 σ H locs ls hf; exact absurd hf (by intro z; cases z)
  | succ n ih => intro x1 x2 x3 σ H locs ls hf w hl; exact t_Arrays_fill_I_5b C  ih hf w hl
set_option maxHeartbeats 4000000 in
set_option maxRecDepth 20000 in
theorem c_Arrays_fill_I {l : Launch} {g : GX} {q : Nat → Nat} {x1 : Int32}  {σ : St} {σ2 : St} (hf : f_Arrays_fill_I  x1 σ = some σ2) : KK l y_Arrays_fill_I prog_19_method_103_code 4 none 0 g (wX g q) σ [.ref (q 32), .int x1] none (wX g q) σ2 := by
  refine KK_of (by decide +kernel) (Nat.le_of_ble_eq_true rfl) (fun p e s m below meth c A ls C w hl => ?_)
  have hl : lv_has ls 4 [(0, .ref (q 32)), (1, .int x1)] := hl
  obtain ⟨hx, hb, hml, hown, hts, hK, hA, hZ, hlocks, hr, hN⟩ := id C
  unfold f_Arrays_fill_I at hf
  refine lv_iconst (v := 0) hx hb d_Arrays_fill_I_0 (by decide) ?_
  refine lv_istore_n (lv' := [(2, .int 0), (0, .ref (q 32)), (1, .int x1)]) hx hb d_Arrays_fill_I_1 rfl hl (by decide) rfl (fun ls hl => ?_)
  refine lv_aload_n hx hb d_Arrays_fill_I_2 rfl (lv_at hl 1 rfl) ?_
  refine xn_32 C w d_Arrays_fill_I_3 ?_
  refine lv_istore_n (lv' := [(3, .int 192), (2, .int 0), (0, .ref (q 32)), (1, .int x1)]) hx hb d_Arrays_fill_I_4 rfl hl (by decide) rfl (fun ls hl => ?_)
  exact t_Arrays_fill_I_5 C  FU x1 0 192 σ _ _ _ hf w (lv_sub hl [2, 3, 1, 0] rfl)
def f_Arrays_fill_J_2_6b (k6 : Int64 → Int32 → Int32 → St → Option (St)) (x1 : Int64) (x3 : Int32) (x4 : Int32) (σ : St) : Option (St) :=
  if x4 ≤ x3 then
    some σ
  else
    gd (inB x3 192) <|
    lt (uB σ 0 (vp_updL (sB σ 0) x3.toNatClampNeg x1)) fun σ_2 =>
    lt ((x3 + 1)) fun x_3 =>
    k6 x1 x_3 x4 σ_2
def f_Arrays_fill_J_2_6 : Nat → Int64 → Int32 → Int32 → St → Option (St)
  | 0 => fun _ _ _ _ => none
  | n + 1 => f_Arrays_fill_J_2_6b   (f_Arrays_fill_J_2_6   n)
def f_Arrays_fill_J_2 (x1 : Int64) (σ : St) : Option (St) :=
  f_Arrays_fill_J_2_6 FU x1 0 192 σ
set_option maxHeartbeats 4000000 in
set_option maxRecDepth 20000 in
theorem t_Arrays_fill_J_2_6b {σ2 : St} (C : Cx g A p s m av meth c prog_19_method_101_code 5 "java/util/Arrays" none) {k6 : Int64 → Int32 → Int32 → St → Option (St)} (hk6 : ∀ (x1 : Int64) (x3 : Int32) (x4 : Int32) (σ : St) (H : Heap) (locs : List Loc) (ls : Array Slot), k6 x1 x3 x4 σ = some σ2 → Wd g (wX g q) A s σ H locs → lv_has ls 5 [(0, .ref (q 31)), (1, .long x1), (3, .int x3), (4, .int x4)] → WK p l e s m av below meth c 0 g (wX g q) A none σ2 H locs (F0 m 6 ls []))  {x1 : Int64} {x3 : Int32} {x4 : Int32} {σ : St} {H : Heap} {locs : List Loc} {ls : Array Slot} (hf : f_Arrays_fill_J_2_6b  k6 x1 x3 x4 σ = some σ2) (w : Wd g (wX g q) A s σ H locs) (hl : lv_has ls 5 [(0, .ref (q 31)), (1, .long x1), (3, .int x3), (4, .int x4)]) : WK p l e s m av below meth c 0 g (wX g q) A none σ2 H locs (F0 m 6 ls []) := by
  obtain ⟨hx, hb, hml, hown, hts, hK, hA, hZ, hlocks, hr, hN⟩ := id C
  unfold f_Arrays_fill_J_2_6b at hf
  refine lv_iload_n hx hb d_Arrays_fill_J_6 rfl (lv_at hl 2 rfl) ?_
  refine lv_iload hx hb d_Arrays_fill_J_7 (lv_at hl 3 rfl) ?_
  refine lv_icmp_ge (tgt := 22) hx hb d_Arrays_fill_J_9 (by decide) (fun cd => ?_) (fun cd => ?_)
  · have hf := it_e cd hf
    cases some_e hf
    exact k_vret C w d_Arrays_fill_J_22
  · have hf := if_e cd hf
    refine lv_aload_n hx hb d_Arrays_fill_J_12 rfl (lv_at hl 0 rfl) ?_
    refine lv_iload_n hx hb d_Arrays_fill_J_13 rfl (lv_at hl 2 rfl) ?_
    refine lv_lload_n hx hb d_Arrays_fill_J_14 rfl (lv_at hl 1 rfl) ?_
    obtain ⟨g_1, hf⟩ := gd_e hf
    refine xs_31 C w g_1 d_Arrays_fill_J_15 (fun σ_2 H locs eσ_2 w => ?_)
    have hf := lt_e eσ_2 hf
    obtain ⟨x_3, ex_3⟩ : ∃ y : Int32, y = (x3 + 1) := ⟨_, rfl⟩
    have hf := lt_e ex_3 hf
    refine lv_iinc (v := x_3) (lv' := [(3, .int x_3), (0, .ref (q 31)), (1, .long x1), (4, .int x4)]) hx hb d_Arrays_fill_J_16 hl (k := 2) rfl (by rw [ex_3]; rfl) (by decide) rfl (fun ls hl => ?_)
    refine lv_goto (tgt := 6) hx hb d_Arrays_fill_J_19 (by decide) ?_
    exact hk6 x1 x_3 x4 σ_2 _ _ _ hf w (lv_sub hl [1, 2, 0, 3] rfl)
set_option maxHeartbeats 4000000 in
set_option maxRecDepth 20000 in
theorem t_Arrays_fill_J_2_6 {σ2 : St} (C : Cx g A p s m av meth c prog_19_method_101_code 5 "java/util/Arrays" none)  : ∀ (n : Nat) (x1 : Int64) (x3 : Int32) (x4 : Int32) (σ : St) (H : Heap) (locs : List Loc) (ls : Array Slot), f_Arrays_fill_J_2_6   n x1 x3 x4 σ = some σ2 → Wd g (wX g q) A s σ H locs → lv_has ls 5 [(0, .ref (q 31)), (1, .long x1), (3, .int x3), (4, .int x4)] → WK p l e s m av below meth c 0 g (wX g q) A none σ2 H locs (F0 m 6 ls []) := by
  intro n
  induction n with
  | zero => intro x1 x3 x4 σ H locs ls hf; exact absurd hf (by intro z; cases z)
  | succ n ih => intro x1 x3 x4 σ H locs ls hf w hl; exact t_Arrays_fill_J_2_6b C  ih hf w hl
set_option maxHeartbeats 4000000 in
set_option maxRecDepth 20000 in
theorem c_Arrays_fill_J_2 {l : Launch} {g : GX} {q : Nat → Nat} {x1 : Int64}  {σ : St} {σ2 : St} (hf : f_Arrays_fill_J_2  x1 σ = some σ2) : KK l y_Arrays_fill_J prog_19_method_101_code 5 none 0 g (wX g q) σ [.ref (q 31), .long x1] none (wX g q) σ2 := by
  refine KK_of (by decide +kernel) (Nat.le_of_ble_eq_true rfl) (fun p e s m below meth c A ls C w hl => ?_)
  have hl : lv_has ls 5 [(0, .ref (q 31)), (1, .long x1)] := hl
  obtain ⟨hx, hb, hml, hown, hts, hK, hA, hZ, hlocks, hr, hN⟩ := id C
  unfold f_Arrays_fill_J_2 at hf
  refine lv_iconst (v := 0) hx hb d_Arrays_fill_J_0 (by decide) ?_
  refine lv_istore_n (lv' := [(3, .int 0), (0, .ref (q 31)), (1, .long x1)]) hx hb d_Arrays_fill_J_1 rfl hl (by decide) rfl (fun ls hl => ?_)
  refine lv_aload_n hx hb d_Arrays_fill_J_2 rfl (lv_at hl 1 rfl) ?_
  refine xn_31 C w d_Arrays_fill_J_3 ?_
  refine lv_istore (lv' := [(4, .int 192), (3, .int 0), (0, .ref (q 31)), (1, .long x1)]) hx hb d_Arrays_fill_J_4 hl (by decide) rfl (fun ls hl => ?_)
  exact t_Arrays_fill_J_2_6 C  FU x1 0 192 σ _ _ _ hf w (lv_sub hl [2, 3, 1, 0] rfl)
def f_Turn_crowdBehind (x1 : Int32) (x2 : Int32) (σ : St) : Option (Int32) :=
  some (iMin 999 (((sI σ 51) + (x2 * (sA σ 17 (1 : Int32).toNatClampNeg))) + ((x1 - x2) * (sA σ 17 (2 : Int32).toNatClampNeg))))
set_option maxHeartbeats 4000000 in
set_option maxRecDepth 20000 in
theorem c_Turn_crowdBehind {l : Launch} {g : GX} {q : Nat → Nat} {x1 : Int32} {x2 : Int32}  {σ : St} {r : Int32} (hf : f_Turn_crowdBehind  x1 x2 σ = some r) : KK l y_Turn_crowdBehind prog_10_method_9_code 3 (some .int) 1 g (wX g q) σ [.ref (q 26), .int x1, .int x2] (some (.int r)) (wX g q) σ := by
  refine KK_of (plainFor_of_name (by decide)) (Nat.le_of_ble_eq_true rfl) (fun p e s m below meth c A ls C w hl => ?_)
  have hl : lv_has ls 3 [(0, .ref (q 26)), (1, .int x1), (2, .int x2)] := hl
  obtain ⟨hx, hb, hml, hown, hts, hK, hA, hZ, hlocks, hr, hN⟩ := id C
  unfold f_Turn_crowdBehind at hf
  refine lv_sipush (v := 999) hx hb d_Turn_crowdBehind_0 (by decide) ?_
  refine lv_aload_n hx hb d_Turn_crowdBehind_3 rfl (lv_at hl 0 rfl) ?_
  refine xg_26_crowd C w k420 d_Turn_crowdBehind_4 ?_
  refine lv_iload_n hx hb d_Turn_crowdBehind_7 rfl (lv_at hl 2 rfl) ?_
  refine lv_aload_n hx hb d_Turn_crowdBehind_8 rfl (lv_at hl 0 rfl) ?_
  refine xg_26_comes C w k422 d_Turn_crowdBehind_9 ?_
  refine lv_iconst (v := 1) hx hb d_Turn_crowdBehind_12 (by decide) ?_
  refine xl_27 C w (by decide) d_Turn_crowdBehind_13 ?_
  refine lv_imul hx hb d_Turn_crowdBehind_14 ?_
  refine lv_iadd hx hb d_Turn_crowdBehind_15 ?_
  refine lv_iload_n hx hb d_Turn_crowdBehind_16 rfl (lv_at hl 1 rfl) ?_
  refine lv_iload_n hx hb d_Turn_crowdBehind_17 rfl (lv_at hl 2 rfl) ?_
  refine lv_isub hx hb d_Turn_crowdBehind_18 ?_
  refine lv_aload_n hx hb d_Turn_crowdBehind_19 rfl (lv_at hl 0 rfl) ?_
  refine xg_26_comes C w k422 d_Turn_crowdBehind_20 ?_
  refine lv_iconst (v := 2) hx hb d_Turn_crowdBehind_23 (by decide) ?_
  refine xl_27 C w (by decide) d_Turn_crowdBehind_24 ?_
  refine lv_imul hx hb d_Turn_crowdBehind_25 ?_
  refine lv_iadd hx hb d_Turn_crowdBehind_26 ?_
  refine r_min C hl.1 (by omega) (Nat.le_of_ble_eq_true rfl) k776 d_Turn_crowdBehind_27 ?_
  cases some_e hf
  exact k_iret C w d_Turn_crowdBehind_30
