variable {p : Program} {l : Launch} {e : Env} {s : State} {m : MethodId} {av : Array Value} {below : List Frame} {meth : Method} {c : Code} {g : GX} {q : Nat → Nat} {A : Nat → Prop}
theorem d_BH_honest_0 : decode prog_1_method_17_code 0 = .ok (.iload_n 1, 1) := by decide +kernel
theorem d_BH_honest_1 : decode prog_1_method_17_code 1 = .ok (.ifCond .eq 10, 3) := by decide +kernel
theorem d_BH_honest_4 : decode prog_1_method_17_code 4 = .ok (.iload_n 1, 1) := by decide +kernel
theorem d_BH_honest_5 : decode prog_1_method_17_code 5 = .ok (.iconst 1, 1) := by decide +kernel
theorem d_BH_honest_6 : decode prog_1_method_17_code 6 = .ok (.if_icmp .eq 5, 3) := by decide +kernel
theorem d_BH_honest_9 : decode prog_1_method_17_code 9 = .ok (.iconst (-1), 1) := by decide +kernel
theorem d_BH_honest_10 : decode prog_1_method_17_code 10 = .ok (.ireturn, 1) := by decide +kernel
theorem d_BH_honest_11 : decode prog_1_method_17_code 11 = .ok (.aload_n 0, 1) := by decide +kernel
theorem d_BH_honest_12 : decode prog_1_method_17_code 12 = .ok (.getfield 47, 3) := by decide +kernel
theorem d_BH_honest_15 : decode prog_1_method_17_code 15 = .ok (.aload_n 0, 1) := by decide +kernel
theorem d_BH_honest_16 : decode prog_1_method_17_code 16 = .ok (.getfield 54, 3) := by decide +kernel
theorem d_BH_honest_19 : decode prog_1_method_17_code 19 = .ok (.aload_n 0, 1) := by decide +kernel
theorem d_BH_honest_20 : decode prog_1_method_17_code 20 = .ok (.getfield 26, 3) := by decide +kernel
theorem d_BH_honest_23 : decode prog_1_method_17_code 23 = .ok (.getfield 114, 3) := by decide +kernel
theorem d_BH_honest_26 : decode prog_1_method_17_code 26 = .ok (.invokevirtual 209, 3) := by decide +kernel
theorem d_BH_honest_29 : decode prog_1_method_17_code 29 = .ok (.iload_n 1, 1) := by decide +kernel
theorem d_BH_honest_30 : decode prog_1_method_17_code 30 = .ok (.ifCond .ne 13, 3) := by decide +kernel
theorem d_BH_honest_33 : decode prog_1_method_17_code 33 = .ok (.aload_n 0, 1) := by decide +kernel
theorem d_BH_honest_34 : decode prog_1_method_17_code 34 = .ok (.getfield 47, 3) := by decide +kernel
theorem d_BH_honest_37 : decode prog_1_method_17_code 37 = .ok (.getfield 203, 3) := by decide +kernel
theorem d_BH_honest_40 : decode prog_1_method_17_code 40 = .ok (.goto 19, 3) := by decide +kernel
theorem d_BH_honest_43 : decode prog_1_method_17_code 43 = .ok (.aload_n 0, 1) := by decide +kernel
theorem d_BH_honest_44 : decode prog_1_method_17_code 44 = .ok (.getfield 47, 3) := by decide +kernel
theorem d_BH_honest_47 : decode prog_1_method_17_code 47 = .ok (.aload_n 0, 1) := by decide +kernel
theorem d_BH_honest_48 : decode prog_1_method_17_code 48 = .ok (.getfield 26, 3) := by decide +kernel
theorem d_BH_honest_51 : decode prog_1_method_17_code 51 = .ok (.getfield 114, 3) := by decide +kernel
theorem d_BH_honest_54 : decode prog_1_method_17_code 54 = .ok (.iconst 2, 1) := by decide +kernel
theorem d_BH_honest_55 : decode prog_1_method_17_code 55 = .ok (.iaload, 1) := by decide +kernel
theorem d_BH_honest_56 : decode prog_1_method_17_code 56 = .ok (.invokevirtual 206, 3) := by decide +kernel
theorem d_BH_honest_59 : decode prog_1_method_17_code 59 = .ok (.ireturn, 1) := by decide +kernel
theorem d_BH_wonPairs_0 : decode prog_1_method_41_code 0 = .ok (.iconst 0, 1) := by decide +kernel
theorem d_BH_wonPairs_1 : decode prog_1_method_41_code 1 = .ok (.istore 4, 2) := by decide +kernel
theorem d_BH_wonPairs_3 : decode prog_1_method_41_code 3 = .ok (.iconst 0, 1) := by decide +kernel
theorem d_BH_wonPairs_4 : decode prog_1_method_41_code 4 = .ok (.istore 5, 2) := by decide +kernel
theorem d_BH_wonPairs_6 : decode prog_1_method_41_code 6 = .ok (.iload 5, 2) := by decide +kernel
theorem d_BH_wonPairs_8 : decode prog_1_method_41_code 8 = .ok (.aload_n 0, 1) := by decide +kernel
theorem d_BH_wonPairs_9 : decode prog_1_method_41_code 9 = .ok (.getfield 54, 3) := by decide +kernel
theorem d_BH_wonPairs_12 : decode prog_1_method_41_code 12 = .ok (.iload_n 1, 1) := by decide +kernel
theorem d_BH_wonPairs_13 : decode prog_1_method_41_code 13 = .ok (.iconst 1, 1) := by decide +kernel
theorem d_BH_wonPairs_14 : decode prog_1_method_41_code 14 = .ok (.invokevirtual 150, 3) := by decide +kernel
theorem d_BH_wonPairs_17 : decode prog_1_method_41_code 17 = .ok (.if_icmp .gt 90, 3) := by decide +kernel
theorem d_BH_wonPairs_20 : decode prog_1_method_41_code 20 = .ok (.aload_n 0, 1) := by decide +kernel
theorem d_BH_wonPairs_21 : decode prog_1_method_41_code 21 = .ok (.getfield 54, 3) := by decide +kernel
theorem d_BH_wonPairs_24 : decode prog_1_method_41_code 24 = .ok (.iload_n 1, 1) := by decide +kernel
theorem d_BH_wonPairs_25 : decode prog_1_method_41_code 25 = .ok (.iconst 0, 1) := by decide +kernel
theorem d_BH_wonPairs_26 : decode prog_1_method_41_code 26 = .ok (.invokevirtual 150, 3) := by decide +kernel
theorem d_BH_wonPairs_29 : decode prog_1_method_41_code 29 = .ok (.iload 5, 2) := by decide +kernel
theorem d_BH_wonPairs_31 : decode prog_1_method_41_code 31 = .ok (.iconst 0, 1) := by decide +kernel
theorem d_BH_wonPairs_32 : decode prog_1_method_41_code 32 = .ok (.invokestatic 284, 3) := by decide +kernel
theorem d_BH_wonPairs_35 : decode prog_1_method_41_code 35 = .ok (.istore 6, 2) := by decide +kernel
theorem d_BH_wonPairs_37 : decode prog_1_method_41_code 37 = .ok (.iconst 0, 1) := by decide +kernel
theorem d_BH_wonPairs_38 : decode prog_1_method_41_code 38 = .ok (.istore 7, 2) := by decide +kernel
theorem d_BH_wonPairs_40 : decode prog_1_method_41_code 40 = .ok (.iload 7, 2) := by decide +kernel
theorem d_BH_wonPairs_42 : decode prog_1_method_41_code 42 = .ok (.aload_n 0, 1) := by decide +kernel
theorem d_BH_wonPairs_43 : decode prog_1_method_41_code 43 = .ok (.getfield 54, 3) := by decide +kernel
theorem d_BH_wonPairs_46 : decode prog_1_method_41_code 46 = .ok (.iload_n 2, 1) := by decide +kernel
theorem d_BH_wonPairs_47 : decode prog_1_method_41_code 47 = .ok (.iconst 1, 1) := by decide +kernel
theorem d_BH_wonPairs_48 : decode prog_1_method_41_code 48 = .ok (.invokevirtual 150, 3) := by decide +kernel
theorem d_BH_wonPairs_51 : decode prog_1_method_41_code 51 = .ok (.if_icmp .gt 50, 3) := by decide +kernel
theorem d_BH_wonPairs_54 : decode prog_1_method_41_code 54 = .ok (.aload_n 0, 1) := by decide +kernel
theorem d_BH_wonPairs_55 : decode prog_1_method_41_code 55 = .ok (.getfield 54, 3) := by decide +kernel
theorem d_BH_wonPairs_58 : decode prog_1_method_41_code 58 = .ok (.iload_n 2, 1) := by decide +kernel
theorem d_BH_wonPairs_59 : decode prog_1_method_41_code 59 = .ok (.iconst 0, 1) := by decide +kernel
theorem d_BH_wonPairs_60 : decode prog_1_method_41_code 60 = .ok (.invokevirtual 150, 3) := by decide +kernel
theorem d_BH_wonPairs_63 : decode prog_1_method_41_code 63 = .ok (.iload 7, 2) := by decide +kernel
theorem d_BH_wonPairs_65 : decode prog_1_method_41_code 65 = .ok (.iconst 0, 1) := by decide +kernel
theorem d_BH_wonPairs_66 : decode prog_1_method_41_code 66 = .ok (.invokestatic 284, 3) := by decide +kernel
theorem d_BH_wonPairs_69 : decode prog_1_method_41_code 69 = .ok (.istore 8, 2) := by decide +kernel
theorem d_BH_wonPairs_71 : decode prog_1_method_41_code 71 = .ok (.iload_n 3, 1) := by decide +kernel
theorem d_BH_wonPairs_72 : decode prog_1_method_41_code 72 = .ok (.ifCond .ne 13, 3) := by decide +kernel
theorem d_BH_wonPairs_75 : decode prog_1_method_41_code 75 = .ok (.iload 6, 2) := by decide +kernel
theorem d_BH_wonPairs_77 : decode prog_1_method_41_code 77 = .ok (.iload 8, 2) := by decide +kernel
theorem d_BH_wonPairs_79 : decode prog_1_method_41_code 79 = .ok (.if_icmp .le 16, 3) := by decide +kernel
theorem d_BH_wonPairs_82 : decode prog_1_method_41_code 82 = .ok (.goto 10, 3) := by decide +kernel
theorem d_BH_wonPairs_85 : decode prog_1_method_41_code 85 = .ok (.iload 6, 2) := by decide +kernel
theorem d_BH_wonPairs_87 : decode prog_1_method_41_code 87 = .ok (.iload 8, 2) := by decide +kernel
theorem d_BH_wonPairs_89 : decode prog_1_method_41_code 89 = .ok (.if_icmp .ne 6, 3) := by decide +kernel
theorem d_BH_wonPairs_92 : decode prog_1_method_41_code 92 = .ok (.iinc 4 1, 3) := by decide +kernel
theorem d_BH_wonPairs_95 : decode prog_1_method_41_code 95 = .ok (.iinc 7 1, 3) := by decide +kernel
theorem d_BH_wonPairs_98 : decode prog_1_method_41_code 98 = .ok (.goto (-58), 3) := by decide +kernel
theorem d_BH_wonPairs_101 : decode prog_1_method_41_code 101 = .ok (.iinc 5 1, 3) := by decide +kernel
theorem d_BH_wonPairs_104 : decode prog_1_method_41_code 104 = .ok (.goto (-98), 3) := by decide +kernel
theorem d_BH_wonPairs_107 : decode prog_1_method_41_code 107 = .ok (.iload 4, 2) := by decide +kernel
theorem d_BH_wonPairs_109 : decode prog_1_method_41_code 109 = .ok (.ireturn, 1) := by decide +kernel
theorem d_BH_bet_0 : decode prog_1_method_18_code 0 = .ok (.aload_n 0, 1) := by decide +kernel
theorem d_BH_bet_1 : decode prog_1_method_18_code 1 = .ok (.iload_n 1, 1) := by decide +kernel
theorem d_BH_bet_2 : decode prog_1_method_18_code 2 = .ok (.invokevirtual 144, 3) := by decide +kernel
theorem d_BH_bet_5 : decode prog_1_method_18_code 5 = .ok (.ifCond .eq 25, 3) := by decide +kernel
theorem d_BH_bet_8 : decode prog_1_method_18_code 8 = .ok (.aload_n 0, 1) := by decide +kernel
theorem d_BH_bet_9 : decode prog_1_method_18_code 9 = .ok (.iload_n 2, 1) := by decide +kernel
theorem d_BH_bet_10 : decode prog_1_method_18_code 10 = .ok (.invokevirtual 144, 3) := by decide +kernel
theorem d_BH_bet_13 : decode prog_1_method_18_code 13 = .ok (.ifCond .eq 17, 3) := by decide +kernel
theorem d_BH_bet_16 : decode prog_1_method_18_code 16 = .ok (.iload_n 1, 1) := by decide +kernel
theorem d_BH_bet_17 : decode prog_1_method_18_code 17 = .ok (.iload_n 2, 1) := by decide +kernel
theorem d_BH_bet_18 : decode prog_1_method_18_code 18 = .ok (.if_icmp .eq 12, 3) := by decide +kernel
theorem d_BH_bet_21 : decode prog_1_method_18_code 21 = .ok (.iload_n 3, 1) := by decide +kernel
theorem d_BH_bet_22 : decode prog_1_method_18_code 22 = .ok (.ifCond .eq 10, 3) := by decide +kernel
theorem d_BH_bet_25 : decode prog_1_method_18_code 25 = .ok (.iload_n 3, 1) := by decide +kernel
theorem d_BH_bet_26 : decode prog_1_method_18_code 26 = .ok (.iconst 1, 1) := by decide +kernel
theorem d_BH_bet_27 : decode prog_1_method_18_code 27 = .ok (.if_icmp .eq 5, 3) := by decide +kernel
theorem d_BH_bet_30 : decode prog_1_method_18_code 30 = .ok (.iconst (-1), 1) := by decide +kernel
theorem d_BH_bet_31 : decode prog_1_method_18_code 31 = .ok (.ireturn, 1) := by decide +kernel
theorem d_BH_bet_32 : decode prog_1_method_18_code 32 = .ok (.aload_n 0, 1) := by decide +kernel
theorem d_BH_bet_33 : decode prog_1_method_18_code 33 = .ok (.getfield 54, 3) := by decide +kernel
theorem d_BH_bet_36 : decode prog_1_method_18_code 36 = .ok (.iload_n 1, 1) := by decide +kernel
theorem d_BH_bet_37 : decode prog_1_method_18_code 37 = .ok (.iconst 1, 1) := by decide +kernel
theorem d_BH_bet_38 : decode prog_1_method_18_code 38 = .ok (.invokevirtual 150, 3) := by decide +kernel
theorem d_BH_bet_41 : decode prog_1_method_18_code 41 = .ok (.iconst 1, 1) := by decide +kernel
theorem d_BH_bet_42 : decode prog_1_method_18_code 42 = .ok (.iadd, 1) := by decide +kernel
theorem d_BH_bet_43 : decode prog_1_method_18_code 43 = .ok (.aload_n 0, 1) := by decide +kernel
theorem d_BH_bet_44 : decode prog_1_method_18_code 44 = .ok (.getfield 54, 3) := by decide +kernel
theorem d_BH_bet_47 : decode prog_1_method_18_code 47 = .ok (.iload_n 2, 1) := by decide +kernel
theorem d_BH_bet_48 : decode prog_1_method_18_code 48 = .ok (.iconst 1, 1) := by decide +kernel
theorem d_BH_bet_49 : decode prog_1_method_18_code 49 = .ok (.invokevirtual 150, 3) := by decide +kernel
theorem d_BH_bet_52 : decode prog_1_method_18_code 52 = .ok (.iconst 1, 1) := by decide +kernel
theorem d_BH_bet_53 : decode prog_1_method_18_code 53 = .ok (.iadd, 1) := by decide +kernel
theorem d_BH_bet_54 : decode prog_1_method_18_code 54 = .ok (.imul, 1) := by decide +kernel
theorem d_BH_bet_55 : decode prog_1_method_18_code 55 = .ok (.istore 4, 2) := by decide +kernel
theorem d_BH_bet_57 : decode prog_1_method_18_code 57 = .ok (.iload 4, 2) := by decide +kernel
theorem d_BH_bet_59 : decode prog_1_method_18_code 59 = .ok (.ifCond .gt 5, 3) := by decide +kernel
theorem d_BH_bet_62 : decode prog_1_method_18_code 62 = .ok (.iconst (-1), 1) := by decide +kernel
theorem d_BH_bet_63 : decode prog_1_method_18_code 63 = .ok (.ireturn, 1) := by decide +kernel
theorem d_BH_bet_64 : decode prog_1_method_18_code 64 = .ok (.sipush 1000, 3) := by decide +kernel
theorem d_BH_bet_67 : decode prog_1_method_18_code 67 = .ok (.aload_n 0, 1) := by decide +kernel
theorem d_BH_bet_68 : decode prog_1_method_18_code 68 = .ok (.iload_n 1, 1) := by decide +kernel
theorem d_BH_bet_69 : decode prog_1_method_18_code 69 = .ok (.iload_n 2, 1) := by decide +kernel
theorem d_BH_bet_70 : decode prog_1_method_18_code 70 = .ok (.iload_n 3, 1) := by decide +kernel
theorem d_BH_bet_71 : decode prog_1_method_18_code 71 = .ok (.invokevirtual 212, 3) := by decide +kernel
theorem d_BH_bet_74 : decode prog_1_method_18_code 74 = .ok (.imul, 1) := by decide +kernel
theorem d_BH_bet_75 : decode prog_1_method_18_code 75 = .ok (.iload 4, 2) := by decide +kernel
theorem d_BH_bet_77 : decode prog_1_method_18_code 77 = .ok (.idiv, 1) := by decide +kernel
theorem d_BH_bet_78 : decode prog_1_method_18_code 78 = .ok (.ireturn, 1) := by decide +kernel
theorem d_Book_addAct_0 : decode prog_2_method_3_code 0 = .ok (.aload_n 0, 1) := by decide +kernel
theorem d_Book_addAct_1 : decode prog_2_method_3_code 1 = .ok (.getfield 57, 3) := by decide +kernel
theorem d_Book_addAct_4 : decode prog_2_method_3_code 4 = .ok (.bipush 20, 2) := by decide +kernel
theorem d_Book_addAct_6 : decode prog_2_method_3_code 6 = .ok (.if_icmp .lt 54, 3) := by decide +kernel
theorem d_Book_addAct_9 : decode prog_2_method_3_code 9 = .ok (.aload_n 0, 1) := by decide +kernel
theorem d_Book_addAct_10 : decode prog_2_method_3_code 10 = .ok (.getfield 19, 3) := by decide +kernel
theorem d_Book_addAct_13 : decode prog_2_method_3_code 13 = .ok (.iconst 1, 1) := by decide +kernel
theorem d_Book_addAct_14 : decode prog_2_method_3_code 14 = .ok (.aload_n 0, 1) := by decide +kernel
theorem d_Book_addAct_15 : decode prog_2_method_3_code 15 = .ok (.getfield 19, 3) := by decide +kernel
theorem d_Book_addAct_18 : decode prog_2_method_3_code 18 = .ok (.iconst 0, 1) := by decide +kernel
theorem d_Book_addAct_19 : decode prog_2_method_3_code 19 = .ok (.bipush 19, 2) := by decide +kernel
theorem d_Book_addAct_21 : decode prog_2_method_3_code 21 = .ok (.invokestatic 34, 3) := by decide +kernel
theorem d_Book_addAct_24 : decode prog_2_method_3_code 24 = .ok (.aload_n 0, 1) := by decide +kernel
theorem d_Book_addAct_25 : decode prog_2_method_3_code 25 = .ok (.getfield 22, 3) := by decide +kernel
theorem d_Book_addAct_28 : decode prog_2_method_3_code 28 = .ok (.iconst 1, 1) := by decide +kernel
theorem d_Book_addAct_29 : decode prog_2_method_3_code 29 = .ok (.aload_n 0, 1) := by decide +kernel
theorem d_Book_addAct_30 : decode prog_2_method_3_code 30 = .ok (.getfield 22, 3) := by decide +kernel
theorem d_Book_addAct_33 : decode prog_2_method_3_code 33 = .ok (.iconst 0, 1) := by decide +kernel
theorem d_Book_addAct_34 : decode prog_2_method_3_code 34 = .ok (.bipush 19, 2) := by decide +kernel
theorem d_Book_addAct_36 : decode prog_2_method_3_code 36 = .ok (.invokestatic 34, 3) := by decide +kernel
theorem d_Book_addAct_39 : decode prog_2_method_3_code 39 = .ok (.aload_n 0, 1) := by decide +kernel
theorem d_Book_addAct_40 : decode prog_2_method_3_code 40 = .ok (.getfield 25, 3) := by decide +kernel
theorem d_Book_addAct_43 : decode prog_2_method_3_code 43 = .ok (.iconst 1, 1) := by decide +kernel
theorem d_Book_addAct_44 : decode prog_2_method_3_code 44 = .ok (.aload_n 0, 1) := by decide +kernel
theorem d_Book_addAct_45 : decode prog_2_method_3_code 45 = .ok (.getfield 25, 3) := by decide +kernel
theorem d_Book_addAct_48 : decode prog_2_method_3_code 48 = .ok (.iconst 0, 1) := by decide +kernel
theorem d_Book_addAct_49 : decode prog_2_method_3_code 49 = .ok (.bipush 19, 2) := by decide +kernel
theorem d_Book_addAct_51 : decode prog_2_method_3_code 51 = .ok (.invokestatic 34, 3) := by decide +kernel
theorem d_Book_addAct_54 : decode prog_2_method_3_code 54 = .ok (.aload_n 0, 1) := by decide +kernel
theorem d_Book_addAct_55 : decode prog_2_method_3_code 55 = .ok (.bipush 19, 2) := by decide +kernel
theorem d_Book_addAct_57 : decode prog_2_method_3_code 57 = .ok (.putfield 57, 3) := by decide +kernel
theorem d_Book_addAct_60 : decode prog_2_method_3_code 60 = .ok (.aload_n 0, 1) := by decide +kernel
theorem d_Book_addAct_61 : decode prog_2_method_3_code 61 = .ok (.getfield 19, 3) := by decide +kernel
theorem d_Book_addAct_64 : decode prog_2_method_3_code 64 = .ok (.aload_n 0, 1) := by decide +kernel
theorem d_Book_addAct_65 : decode prog_2_method_3_code 65 = .ok (.getfield 57, 3) := by decide +kernel
theorem d_Book_addAct_68 : decode prog_2_method_3_code 68 = .ok (.iload_n 1, 1) := by decide +kernel
theorem d_Book_addAct_69 : decode prog_2_method_3_code 69 = .ok (.iastore, 1) := by decide +kernel
theorem d_Book_addAct_70 : decode prog_2_method_3_code 70 = .ok (.aload_n 0, 1) := by decide +kernel
theorem d_Book_addAct_71 : decode prog_2_method_3_code 71 = .ok (.getfield 22, 3) := by decide +kernel
theorem d_Book_addAct_74 : decode prog_2_method_3_code 74 = .ok (.aload_n 0, 1) := by decide +kernel
theorem d_Book_addAct_75 : decode prog_2_method_3_code 75 = .ok (.getfield 57, 3) := by decide +kernel
theorem d_Book_addAct_78 : decode prog_2_method_3_code 78 = .ok (.iload_n 2, 1) := by decide +kernel
theorem d_Book_addAct_79 : decode prog_2_method_3_code 79 = .ok (.iastore, 1) := by decide +kernel
theorem d_Book_addAct_80 : decode prog_2_method_3_code 80 = .ok (.aload_n 0, 1) := by decide +kernel
theorem d_Book_addAct_81 : decode prog_2_method_3_code 81 = .ok (.getfield 25, 3) := by decide +kernel
theorem d_Book_addAct_84 : decode prog_2_method_3_code 84 = .ok (.aload_n 0, 1) := by decide +kernel
theorem d_Book_addAct_85 : decode prog_2_method_3_code 85 = .ok (.getfield 57, 3) := by decide +kernel
theorem d_Book_addAct_88 : decode prog_2_method_3_code 88 = .ok (.iconst 0, 1) := by decide +kernel
theorem d_Book_addAct_89 : decode prog_2_method_3_code 89 = .ok (.iastore, 1) := by decide +kernel
theorem d_Book_addAct_90 : decode prog_2_method_3_code 90 = .ok (.aload_n 0, 1) := by decide +kernel
theorem d_Book_addAct_91 : decode prog_2_method_3_code 91 = .ok (.dup, 1) := by decide +kernel
theorem d_Book_addAct_92 : decode prog_2_method_3_code 92 = .ok (.getfield 57, 3) := by decide +kernel
theorem d_Book_addAct_95 : decode prog_2_method_3_code 95 = .ok (.iconst 1, 1) := by decide +kernel
theorem d_Book_addAct_96 : decode prog_2_method_3_code 96 = .ok (.iadd, 1) := by decide +kernel
theorem d_Book_addAct_97 : decode prog_2_method_3_code 97 = .ok (.putfield 57, 3) := by decide +kernel
theorem d_Book_addAct_100 : decode prog_2_method_3_code 100 = .ok (.return_, 1) := by decide +kernel
theorem d_Book_startNight_0 : decode prog_2_method_7_code 0 = .ok (.aload_n 0, 1) := by decide +kernel
theorem d_Book_startNight_1 : decode prog_2_method_7_code 1 = .ok (.iconst 4, 1) := by decide +kernel
theorem d_Book_startNight_2 : decode prog_2_method_7_code 2 = .ok (.aload_n 0, 1) := by decide +kernel
theorem d_Book_startNight_3 : decode prog_2_method_7_code 3 = .ok (.getfield 43, 3) := by decide +kernel
theorem d_Book_startNight_6 : decode prog_2_method_7_code 6 = .ok (.invokevirtual 63, 3) := by decide +kernel
theorem d_Book_startNight_9 : decode prog_2_method_7_code 9 = .ok (.aload_n 0, 1) := by decide +kernel
theorem d_Book_startNight_10 : decode prog_2_method_7_code 10 = .ok (.dup, 1) := by decide +kernel
theorem d_Book_startNight_11 : decode prog_2_method_7_code 11 = .ok (.getfield 40, 3) := by decide +kernel
theorem d_Book_startNight_14 : decode prog_2_method_7_code 14 = .ok (.iconst 1, 1) := by decide +kernel
theorem d_Book_startNight_15 : decode prog_2_method_7_code 15 = .ok (.iadd, 1) := by decide +kernel
theorem d_Book_startNight_16 : decode prog_2_method_7_code 16 = .ok (.putfield 40, 3) := by decide +kernel
theorem d_Book_startNight_19 : decode prog_2_method_7_code 19 = .ok (.aload_n 0, 1) := by decide +kernel
theorem d_Book_startNight_20 : decode prog_2_method_7_code 20 = .ok (.iload_n 1, 1) := by decide +kernel
theorem d_Book_startNight_21 : decode prog_2_method_7_code 21 = .ok (.putfield 67, 3) := by decide +kernel
theorem d_Book_startNight_24 : decode prog_2_method_7_code 24 = .ok (.aload_n 0, 1) := by decide +kernel
theorem d_Book_startNight_25 : decode prog_2_method_7_code 25 = .ok (.iconst 0, 1) := by decide +kernel
theorem d_Book_startNight_26 : decode prog_2_method_7_code 26 = .ok (.putfield 70, 3) := by decide +kernel
theorem d_Book_startNight_29 : decode prog_2_method_7_code 29 = .ok (.return_, 1) := by decide +kernel
theorem d_Book_draw_0 : decode prog_2_method_12_code 0 = .ok (.aload_n 0, 1) := by decide +kernel
theorem d_Book_draw_1 : decode prog_2_method_12_code 1 = .ok (.ldc2_w 83, 3) := by decide +kernel
theorem d_Book_draw_4 : decode prog_2_method_12_code 4 = .ok (.aload_n 0, 1) := by decide +kernel
theorem d_Book_draw_5 : decode prog_2_method_12_code 5 = .ok (.getfield 15, 3) := by decide +kernel
theorem d_Book_draw_8 : decode prog_2_method_12_code 8 = .ok (.i2l, 1) := by decide +kernel
theorem d_Book_draw_9 : decode prog_2_method_12_code 9 = .ok (.lmul, 1) := by decide +kernel
theorem d_Book_draw_10 : decode prog_2_method_12_code 10 = .ok (.ldc2_w 85, 3) := by decide +kernel
theorem d_Book_draw_13 : decode prog_2_method_12_code 13 = .ok (.ladd, 1) := by decide +kernel
theorem d_Book_draw_14 : decode prog_2_method_12_code 14 = .ok (.ldc2_w 87, 3) := by decide +kernel
theorem d_Book_draw_17 : decode prog_2_method_12_code 17 = .ok (.land, 1) := by decide +kernel
theorem d_Book_draw_18 : decode prog_2_method_12_code 18 = .ok (.l2i, 1) := by decide +kernel
theorem d_Book_draw_19 : decode prog_2_method_12_code 19 = .ok (.putfield 15, 3) := by decide +kernel
theorem d_Book_draw_22 : decode prog_2_method_12_code 22 = .ok (.iload_n 1, 1) := by decide +kernel
theorem d_Book_draw_23 : decode prog_2_method_12_code 23 = .ok (.ifCond .gt 7, 3) := by decide +kernel
theorem d_Book_draw_26 : decode prog_2_method_12_code 26 = .ok (.iconst 0, 1) := by decide +kernel
theorem d_Book_draw_27 : decode prog_2_method_12_code 27 = .ok (.goto 12, 3) := by decide +kernel
theorem d_Book_draw_30 : decode prog_2_method_12_code 30 = .ok (.aload_n 0, 1) := by decide +kernel
theorem d_Book_draw_31 : decode prog_2_method_12_code 31 = .ok (.getfield 15, 3) := by decide +kernel
theorem d_Book_draw_34 : decode prog_2_method_12_code 34 = .ok (.bipush 64, 2) := by decide +kernel
theorem d_Book_draw_36 : decode prog_2_method_12_code 36 = .ok (.idiv, 1) := by decide +kernel
theorem d_Book_draw_37 : decode prog_2_method_12_code 37 = .ok (.iload_n 1, 1) := by decide +kernel
theorem d_Book_draw_38 : decode prog_2_method_12_code 38 = .ok (.irem, 1) := by decide +kernel
theorem d_Book_draw_39 : decode prog_2_method_12_code 39 = .ok (.ireturn, 1) := by decide +kernel
theorem d_Book_keep_0 : decode prog_2_method_8_code 0 = .ok (.aload_n 0, 1) := by decide +kernel
theorem d_Book_keep_1 : decode prog_2_method_8_code 1 = .ok (.getfield 40, 3) := by decide +kernel
theorem d_Book_keep_4 : decode prog_2_method_8_code 4 = .ok (.bipush 8, 2) := by decide +kernel
theorem d_Book_keep_6 : decode prog_2_method_8_code 6 = .ok (.imul, 1) := by decide +kernel
theorem d_Book_keep_7 : decode prog_2_method_8_code 7 = .ok (.iload_n 1, 1) := by decide +kernel
theorem d_Book_keep_8 : decode prog_2_method_8_code 8 = .ok (.iadd, 1) := by decide +kernel
theorem d_Book_keep_9 : decode prog_2_method_8_code 9 = .ok (.bipush 8, 2) := by decide +kernel
theorem d_Book_keep_11 : decode prog_2_method_8_code 11 = .ok (.imul, 1) := by decide +kernel
theorem d_Book_keep_12 : decode prog_2_method_8_code 12 = .ok (.iload_n 2, 1) := by decide +kernel
theorem d_Book_keep_13 : decode prog_2_method_8_code 13 = .ok (.iadd, 1) := by decide +kernel
theorem d_Book_keep_14 : decode prog_2_method_8_code 14 = .ok (.iconst 2, 1) := by decide +kernel
theorem d_Book_keep_15 : decode prog_2_method_8_code 15 = .ok (.imul, 1) := by decide +kernel
theorem d_Book_keep_16 : decode prog_2_method_8_code 16 = .ok (.iload_n 3, 1) := by decide +kernel
theorem d_Book_keep_17 : decode prog_2_method_8_code 17 = .ok (.ifCond .eq 7, 3) := by decide +kernel
theorem d_Book_keep_20 : decode prog_2_method_8_code 20 = .ok (.iconst 1, 1) := by decide +kernel
theorem d_Book_keep_21 : decode prog_2_method_8_code 21 = .ok (.goto 4, 3) := by decide +kernel
theorem d_Book_keep_24 : decode prog_2_method_8_code 24 = .ok (.iconst 0, 1) := by decide +kernel
theorem d_Book_keep_25 : decode prog_2_method_8_code 25 = .ok (.iadd, 1) := by decide +kernel
theorem d_Book_keep_26 : decode prog_2_method_8_code 26 = .ok (.istore 5, 2) := by decide +kernel
theorem d_Book_keep_28 : decode prog_2_method_8_code 28 = .ok (.aload_n 0, 1) := by decide +kernel
theorem d_Book_keep_29 : decode prog_2_method_8_code 29 = .ok (.getfield 28, 3) := by decide +kernel
theorem d_Book_keep_32 : decode prog_2_method_8_code 32 = .ok (.aload_n 0, 1) := by decide +kernel
theorem d_Book_keep_33 : decode prog_2_method_8_code 33 = .ok (.getfield 60, 3) := by decide +kernel
theorem d_Book_keep_36 : decode prog_2_method_8_code 36 = .ok (.sipush 700, 3) := by decide +kernel
theorem d_Book_keep_39 : decode prog_2_method_8_code 39 = .ok (.irem, 1) := by decide +kernel
theorem d_Book_keep_40 : decode prog_2_method_8_code 40 = .ok (.iload 5, 2) := by decide +kernel
theorem d_Book_keep_42 : decode prog_2_method_8_code 42 = .ok (.sipush 128, 3) := by decide +kernel
theorem d_Book_keep_45 : decode prog_2_method_8_code 45 = .ok (.imul, 1) := by decide +kernel
theorem d_Book_keep_46 : decode prog_2_method_8_code 46 = .ok (.iload 4, 2) := by decide +kernel
theorem d_Book_keep_48 : decode prog_2_method_8_code 48 = .ok (.iadd, 1) := by decide +kernel
theorem d_Book_keep_49 : decode prog_2_method_8_code 49 = .ok (.iastore, 1) := by decide +kernel
theorem d_Book_keep_50 : decode prog_2_method_8_code 50 = .ok (.aload_n 0, 1) := by decide +kernel
theorem d_Book_keep_51 : decode prog_2_method_8_code 51 = .ok (.dup, 1) := by decide +kernel
theorem d_Book_keep_52 : decode prog_2_method_8_code 52 = .ok (.getfield 60, 3) := by decide +kernel
theorem d_Book_keep_55 : decode prog_2_method_8_code 55 = .ok (.iconst 1, 1) := by decide +kernel
theorem d_Book_keep_56 : decode prog_2_method_8_code 56 = .ok (.iadd, 1) := by decide +kernel
theorem d_Book_keep_57 : decode prog_2_method_8_code 57 = .ok (.putfield 60, 3) := by decide +kernel
theorem d_Book_keep_60 : decode prog_2_method_8_code 60 = .ok (.aload_n 0, 1) := by decide +kernel
theorem d_Book_keep_61 : decode prog_2_method_8_code 61 = .ok (.dup, 1) := by decide +kernel
theorem d_Book_keep_62 : decode prog_2_method_8_code 62 = .ok (.getfield 43, 3) := by decide +kernel
theorem d_Book_keep_65 : decode prog_2_method_8_code 65 = .ok (.aload_n 0, 1) := by decide +kernel
theorem d_Book_keep_66 : decode prog_2_method_8_code 66 = .ok (.getfield 11, 3) := by decide +kernel
theorem d_Book_keep_69 : decode prog_2_method_8_code 69 = .ok (.iconst 2, 1) := by decide +kernel
theorem d_Book_keep_70 : decode prog_2_method_8_code 70 = .ok (.iaload, 1) := by decide +kernel
theorem d_Book_keep_71 : decode prog_2_method_8_code 71 = .ok (.iadd, 1) := by decide +kernel
theorem d_Book_keep_72 : decode prog_2_method_8_code 72 = .ok (.putfield 43, 3) := by decide +kernel
theorem d_Book_keep_75 : decode prog_2_method_8_code 75 = .ok (.aload_n 0, 1) := by decide +kernel
theorem d_Book_keep_76 : decode prog_2_method_8_code 76 = .ok (.getfield 57, 3) := by decide +kernel
theorem d_Book_keep_79 : decode prog_2_method_8_code 79 = .ok (.ifCond .le 18, 3) := by decide +kernel
theorem d_Book_keep_82 : decode prog_2_method_8_code 82 = .ok (.aload_n 0, 1) := by decide +kernel
theorem d_Book_keep_83 : decode prog_2_method_8_code 83 = .ok (.getfield 25, 3) := by decide +kernel
theorem d_Book_keep_86 : decode prog_2_method_8_code 86 = .ok (.aload_n 0, 1) := by decide +kernel
theorem d_Book_keep_87 : decode prog_2_method_8_code 87 = .ok (.getfield 57, 3) := by decide +kernel
theorem d_Book_keep_90 : decode prog_2_method_8_code 90 = .ok (.iconst 1, 1) := by decide +kernel
theorem d_Book_keep_91 : decode prog_2_method_8_code 91 = .ok (.isub, 1) := by decide +kernel
theorem d_Book_keep_92 : decode prog_2_method_8_code 92 = .ok (.dup2, 1) := by decide +kernel
theorem d_Book_keep_93 : decode prog_2_method_8_code 93 = .ok (.iaload, 1) := by decide +kernel
theorem d_Book_keep_94 : decode prog_2_method_8_code 94 = .ok (.iconst 1, 1) := by decide +kernel
theorem d_Book_keep_95 : decode prog_2_method_8_code 95 = .ok (.iadd, 1) := by decide +kernel
theorem d_Book_keep_96 : decode prog_2_method_8_code 96 = .ok (.iastore, 1) := by decide +kernel
theorem d_Book_keep_97 : decode prog_2_method_8_code 97 = .ok (.return_, 1) := by decide +kernel
theorem d_BH_haveTurn_0 : decode prog_1_method_42_code 0 = .ok (.iconst 0, 1) := by decide +kernel
theorem d_BH_haveTurn_1 : decode prog_1_method_42_code 1 = .ok (.istore_n 2, 1) := by decide +kernel
theorem d_BH_haveTurn_2 : decode prog_1_method_42_code 2 = .ok (.iconst 0, 1) := by decide +kernel
theorem d_BH_haveTurn_3 : decode prog_1_method_42_code 3 = .ok (.istore_n 3, 1) := by decide +kernel
theorem d_BH_haveTurn_4 : decode prog_1_method_42_code 4 = .ok (.iload_n 3, 1) := by decide +kernel
theorem d_BH_haveTurn_5 : decode prog_1_method_42_code 5 = .ok (.iconst 4, 1) := by decide +kernel
theorem d_BH_haveTurn_6 : decode prog_1_method_42_code 6 = .ok (.if_icmp .ge 196, 3) := by decide +kernel
theorem d_BH_haveTurn_9 : decode prog_1_method_42_code 9 = .ok (.aload_n 0, 1) := by decide +kernel
theorem d_BH_haveTurn_10 : decode prog_1_method_42_code 10 = .ok (.getfield 40, 3) := by decide +kernel
theorem d_BH_haveTurn_13 : decode prog_1_method_42_code 13 = .ok (.iload_n 3, 1) := by decide +kernel
theorem d_BH_haveTurn_14 : decode prog_1_method_42_code 14 = .ok (.iload_n 2, 1) := by decide +kernel
theorem d_BH_haveTurn_15 : decode prog_1_method_42_code 15 = .ok (.invokevirtual 287, 3) := by decide +kernel
theorem d_BH_haveTurn_18 : decode prog_1_method_42_code 18 = .ok (.ifCond .eq 184, 3) := by decide +kernel
theorem d_BH_haveTurn_21 : decode prog_1_method_42_code 21 = .ok (.aload_n 0, 1) := by decide +kernel
theorem d_BH_haveTurn_22 : decode prog_1_method_42_code 22 = .ok (.getfield 33, 3) := by decide +kernel
theorem d_BH_haveTurn_25 : decode prog_1_method_42_code 25 = .ok (.aload_n 0, 1) := by decide +kernel
theorem d_BH_haveTurn_26 : decode prog_1_method_42_code 26 = .ok (.getfield 26, 3) := by decide +kernel
theorem d_BH_haveTurn_29 : decode prog_1_method_42_code 29 = .ok (.getfield 290, 3) := by decide +kernel
theorem d_BH_haveTurn_32 : decode prog_1_method_42_code 32 = .ok (.iload_n 3, 1) := by decide +kernel
theorem d_BH_haveTurn_33 : decode prog_1_method_42_code 33 = .ok (.iload_n 2, 1) := by decide +kernel
theorem d_BH_haveTurn_34 : decode prog_1_method_42_code 34 = .ok (.aload_n 0, 1) := by decide +kernel
theorem d_BH_haveTurn_35 : decode prog_1_method_42_code 35 = .ok (.getfield 26, 3) := by decide +kernel
theorem d_BH_haveTurn_38 : decode prog_1_method_42_code 38 = .ok (.getfield 293, 3) := by decide +kernel
theorem d_BH_haveTurn_41 : decode prog_1_method_42_code 41 = .ok (.invokevirtual 179, 3) := by decide +kernel
theorem d_BH_haveTurn_44 : decode prog_1_method_42_code 44 = .ok (.aload_n 0, 1) := by decide +kernel
theorem d_BH_haveTurn_45 : decode prog_1_method_42_code 45 = .ok (.getfield 33, 3) := by decide +kernel
theorem d_BH_haveTurn_48 : decode prog_1_method_42_code 48 = .ok (.aload_n 0, 1) := by decide +kernel
theorem d_BH_haveTurn_49 : decode prog_1_method_42_code 49 = .ok (.getfield 40, 3) := by decide +kernel
theorem d_BH_haveTurn_52 : decode prog_1_method_42_code 52 = .ok (.getfield 296, 3) := by decide +kernel
theorem d_BH_haveTurn_55 : decode prog_1_method_42_code 55 = .ok (.aload_n 0, 1) := by decide +kernel
theorem d_BH_haveTurn_56 : decode prog_1_method_42_code 56 = .ok (.getfield 40, 3) := by decide +kernel
theorem d_BH_haveTurn_59 : decode prog_1_method_42_code 59 = .ok (.iload_n 3, 1) := by decide +kernel
theorem d_BH_haveTurn_60 : decode prog_1_method_42_code 60 = .ok (.invokevirtual 299, 3) := by decide +kernel
theorem d_BH_haveTurn_63 : decode prog_1_method_42_code 63 = .ok (.invokevirtual 183, 3) := by decide +kernel
theorem d_BH_haveTurn_66 : decode prog_1_method_42_code 66 = .ok (.aload_n 0, 1) := by decide +kernel
theorem d_BH_haveTurn_67 : decode prog_1_method_42_code 67 = .ok (.getfield 33, 3) := by decide +kernel
theorem d_BH_haveTurn_70 : decode prog_1_method_42_code 70 = .ok (.aload_n 0, 1) := by decide +kernel
theorem d_BH_haveTurn_71 : decode prog_1_method_42_code 71 = .ok (.getfield 54, 3) := by decide +kernel
theorem d_BH_haveTurn_74 : decode prog_1_method_42_code 74 = .ok (.invokevirtual 187, 3) := by decide +kernel
theorem d_BH_haveTurn_77 : decode prog_1_method_42_code 77 = .ok (.aload_n 0, 1) := by decide +kernel
theorem d_BH_haveTurn_78 : decode prog_1_method_42_code 78 = .ok (.getfield 26, 3) := by decide +kernel
theorem d_BH_haveTurn_81 : decode prog_1_method_42_code 81 = .ok (.getfield 111, 3) := by decide +kernel
theorem d_BH_haveTurn_84 : decode prog_1_method_42_code 84 = .ok (.iand, 1) := by decide +kernel
theorem d_BH_haveTurn_85 : decode prog_1_method_42_code 85 = .ok (.ifCond .eq 7, 3) := by decide +kernel
theorem d_BH_haveTurn_88 : decode prog_1_method_42_code 88 = .ok (.iconst 1, 1) := by decide +kernel
theorem d_BH_haveTurn_89 : decode prog_1_method_42_code 89 = .ok (.goto 4, 3) := by decide +kernel
theorem d_BH_haveTurn_92 : decode prog_1_method_42_code 92 = .ok (.iconst 0, 1) := by decide +kernel
theorem d_BH_haveTurn_93 : decode prog_1_method_42_code 93 = .ok (.istore 4, 2) := by decide +kernel
theorem d_BH_haveTurn_95 : decode prog_1_method_42_code 95 = .ok (.aload_n 0, 1) := by decide +kernel
theorem d_BH_haveTurn_96 : decode prog_1_method_42_code 96 = .ok (.getfield 26, 3) := by decide +kernel
theorem d_BH_haveTurn_99 : decode prog_1_method_42_code 99 = .ok (.aload_n 0, 1) := by decide +kernel
theorem d_BH_haveTurn_100 : decode prog_1_method_42_code 100 = .ok (.getfield 40, 3) := by decide +kernel
theorem d_BH_haveTurn_103 : decode prog_1_method_42_code 103 = .ok (.getfield 262, 3) := by decide +kernel
theorem d_BH_haveTurn_106 : decode prog_1_method_42_code 106 = .ok (.iconst 1, 1) := by decide +kernel
theorem d_BH_haveTurn_107 : decode prog_1_method_42_code 107 = .ok (.iadd, 1) := by decide +kernel
theorem d_BH_haveTurn_108 : decode prog_1_method_42_code 108 = .ok (.invokevirtual 302, 3) := by decide +kernel
theorem d_BH_haveTurn_111 : decode prog_1_method_42_code 111 = .ok (.istore 5, 2) := by decide +kernel
theorem d_BH_haveTurn_113 : decode prog_1_method_42_code 113 = .ok (.aload_n 0, 1) := by decide +kernel
theorem d_BH_haveTurn_114 : decode prog_1_method_42_code 114 = .ok (.getfield 40, 3) := by decide +kernel
theorem d_BH_haveTurn_117 : decode prog_1_method_42_code 117 = .ok (.iload_n 3, 1) := by decide +kernel
theorem d_BH_haveTurn_118 : decode prog_1_method_42_code 118 = .ok (.iload 5, 2) := by decide +kernel
theorem d_BH_haveTurn_120 : decode prog_1_method_42_code 120 = .ok (.iload 4, 2) := by decide +kernel
theorem d_BH_haveTurn_122 : decode prog_1_method_42_code 122 = .ok (.invokevirtual 167, 3) := by decide +kernel
theorem d_BH_haveTurn_125 : decode prog_1_method_42_code 125 = .ok (.istore_n 2, 1) := by decide +kernel
theorem d_BH_haveTurn_126 : decode prog_1_method_42_code 126 = .ok (.aload_n 0, 1) := by decide +kernel
theorem d_BH_haveTurn_127 : decode prog_1_method_42_code 127 = .ok (.getfield 26, 3) := by decide +kernel
theorem d_BH_haveTurn_130 : decode prog_1_method_42_code 130 = .ok (.iload_n 1, 1) := by decide +kernel
theorem d_BH_haveTurn_131 : decode prog_1_method_42_code 131 = .ok (.iload 5, 2) := by decide +kernel
theorem d_BH_haveTurn_133 : decode prog_1_method_42_code 133 = .ok (.iload 4, 2) := by decide +kernel
theorem d_BH_haveTurn_135 : decode prog_1_method_42_code 135 = .ok (.iload_n 2, 1) := by decide +kernel
theorem d_BH_haveTurn_136 : decode prog_1_method_42_code 136 = .ok (.invokevirtual 305, 3) := by decide +kernel
theorem d_BH_haveTurn_139 : decode prog_1_method_42_code 139 = .ok (.aload_n 0, 1) := by decide +kernel
theorem d_BH_haveTurn_140 : decode prog_1_method_42_code 140 = .ok (.getfield 26, 3) := by decide +kernel
theorem d_BH_haveTurn_143 : decode prog_1_method_42_code 143 = .ok (.dup, 1) := by decide +kernel
theorem d_BH_haveTurn_144 : decode prog_1_method_42_code 144 = .ok (.getfield 293, 3) := by decide +kernel
theorem d_BH_haveTurn_147 : decode prog_1_method_42_code 147 = .ok (.aload_n 0, 1) := by decide +kernel
theorem d_BH_haveTurn_148 : decode prog_1_method_42_code 148 = .ok (.getfield 40, 3) := by decide +kernel
theorem d_BH_haveTurn_151 : decode prog_1_method_42_code 151 = .ok (.iload_n 2, 1) := by decide +kernel
theorem d_BH_haveTurn_152 : decode prog_1_method_42_code 152 = .ok (.invokevirtual 265, 3) := by decide +kernel
theorem d_BH_haveTurn_155 : decode prog_1_method_42_code 155 = .ok (.ifCond .eq 7, 3) := by decide +kernel
theorem d_BH_haveTurn_158 : decode prog_1_method_42_code 158 = .ok (.iconst 1, 1) := by decide +kernel
theorem d_BH_haveTurn_159 : decode prog_1_method_42_code 159 = .ok (.goto 4, 3) := by decide +kernel
theorem d_BH_haveTurn_162 : decode prog_1_method_42_code 162 = .ok (.iconst 0, 1) := by decide +kernel
theorem d_BH_haveTurn_163 : decode prog_1_method_42_code 163 = .ok (.iadd, 1) := by decide +kernel
theorem d_BH_haveTurn_164 : decode prog_1_method_42_code 164 = .ok (.putfield 293, 3) := by decide +kernel
theorem d_BH_haveTurn_167 : decode prog_1_method_42_code 167 = .ok (.aload_n 0, 1) := by decide +kernel
theorem d_BH_haveTurn_168 : decode prog_1_method_42_code 168 = .ok (.getfield 26, 3) := by decide +kernel
theorem d_BH_haveTurn_171 : decode prog_1_method_42_code 171 = .ok (.sipush 999, 3) := by decide +kernel
theorem d_BH_haveTurn_174 : decode prog_1_method_42_code 174 = .ok (.aload_n 0, 1) := by decide +kernel
theorem d_BH_haveTurn_175 : decode prog_1_method_42_code 175 = .ok (.getfield 26, 3) := by decide +kernel
theorem d_BH_haveTurn_178 : decode prog_1_method_42_code 178 = .ok (.getfield 290, 3) := by decide +kernel
theorem d_BH_haveTurn_181 : decode prog_1_method_42_code 181 = .ok (.aload_n 0, 1) := by decide +kernel
theorem d_BH_haveTurn_182 : decode prog_1_method_42_code 182 = .ok (.getfield 40, 3) := by decide +kernel
theorem d_BH_haveTurn_185 : decode prog_1_method_42_code 185 = .ok (.iload_n 2, 1) := by decide +kernel
theorem d_BH_haveTurn_186 : decode prog_1_method_42_code 186 = .ok (.invokevirtual 309, 3) := by decide +kernel
theorem d_BH_haveTurn_189 : decode prog_1_method_42_code 189 = .ok (.iadd, 1) := by decide +kernel
theorem d_BH_haveTurn_190 : decode prog_1_method_42_code 190 = .ok (.invokestatic 312, 3) := by decide +kernel
theorem d_BH_haveTurn_193 : decode prog_1_method_42_code 193 = .ok (.putfield 290, 3) := by decide +kernel
theorem d_BH_haveTurn_196 : decode prog_1_method_42_code 196 = .ok (.iinc 3 1, 3) := by decide +kernel
theorem d_BH_haveTurn_199 : decode prog_1_method_42_code 199 = .ok (.goto (-195), 3) := by decide +kernel
theorem d_BH_haveTurn_202 : decode prog_1_method_42_code 202 = .ok (.return_, 1) := by decide +kernel
theorem d_BH_night_0 : decode prog_1_method_19_code 0 = .ok (.aload_n 0, 1) := by decide +kernel
theorem d_BH_night_1 : decode prog_1_method_19_code 1 = .ok (.getfield 26, 3) := by decide +kernel
theorem d_BH_night_4 : decode prog_1_method_19_code 4 = .ok (.getfield 120, 3) := by decide +kernel
theorem d_BH_night_7 : decode prog_1_method_19_code 7 = .ok (.sipush 999, 3) := by decide +kernel
theorem d_BH_night_10 : decode prog_1_method_19_code 10 = .ok (.if_icmp .lt 15, 3) := by decide +kernel
theorem d_BH_night_13 : decode prog_1_method_19_code 13 = .ok (.aload_n 0, 1) := by decide +kernel
theorem d_BH_night_14 : decode prog_1_method_19_code 14 = .ok (.getfield 65, 3) := by decide +kernel
theorem d_BH_night_17 : decode prog_1_method_19_code 17 = .ok (.iconst 2, 1) := by decide +kernel
theorem d_BH_night_18 : decode prog_1_method_19_code 18 = .ok (.dup2, 1) := by decide +kernel
theorem d_BH_night_19 : decode prog_1_method_19_code 19 = .ok (.iaload, 1) := by decide +kernel
theorem d_BH_night_20 : decode prog_1_method_19_code 20 = .ok (.iconst 1, 1) := by decide +kernel
theorem d_BH_night_21 : decode prog_1_method_19_code 21 = .ok (.iadd, 1) := by decide +kernel
theorem d_BH_night_22 : decode prog_1_method_19_code 22 = .ok (.iastore, 1) := by decide +kernel
theorem d_BH_night_23 : decode prog_1_method_19_code 23 = .ok (.iconst (-1), 1) := by decide +kernel
theorem d_BH_night_24 : decode prog_1_method_19_code 24 = .ok (.ireturn, 1) := by decide +kernel
theorem d_BH_night_25 : decode prog_1_method_19_code 25 = .ok (.aload_n 0, 1) := by decide +kernel
theorem d_BH_night_26 : decode prog_1_method_19_code 26 = .ok (.getfield 26, 3) := by decide +kernel
theorem d_BH_night_29 : decode prog_1_method_19_code 29 = .ok (.getfield 123, 3) := by decide +kernel
theorem d_BH_night_32 : decode prog_1_method_19_code 32 = .ok (.istore_n 1, 1) := by decide +kernel
theorem d_BH_night_33 : decode prog_1_method_19_code 33 = .ok (.aload_n 0, 1) := by decide +kernel
theorem d_BH_night_34 : decode prog_1_method_19_code 34 = .ok (.getfield 26, 3) := by decide +kernel
theorem d_BH_night_37 : decode prog_1_method_19_code 37 = .ok (.aload_n 0, 1) := by decide +kernel
theorem d_BH_night_38 : decode prog_1_method_19_code 38 = .ok (.getfield 54, 3) := by decide +kernel
theorem d_BH_night_41 : decode prog_1_method_19_code 41 = .ok (.getfield 117, 3) := by decide +kernel
theorem d_BH_night_44 : decode prog_1_method_19_code 44 = .ok (.iconst 4, 1) := by decide +kernel
theorem d_BH_night_45 : decode prog_1_method_19_code 45 = .ok (.iaload, 1) := by decide +kernel
theorem d_BH_night_46 : decode prog_1_method_19_code 46 = .ok (.invokevirtual 216, 3) := by decide +kernel
theorem d_BH_night_49 : decode prog_1_method_19_code 49 = .ok (.iconst 0, 1) := by decide +kernel
theorem d_BH_night_50 : decode prog_1_method_19_code 50 = .ok (.istore_n 2, 1) := by decide +kernel
theorem d_BH_night_51 : decode prog_1_method_19_code 51 = .ok (.iload_n 2, 1) := by decide +kernel
theorem d_BH_night_52 : decode prog_1_method_19_code 52 = .ok (.aload_n 0, 1) := by decide +kernel
theorem d_BH_night_53 : decode prog_1_method_19_code 53 = .ok (.getfield 54, 3) := by decide +kernel
theorem d_BH_night_56 : decode prog_1_method_19_code 56 = .ok (.getfield 105, 3) := by decide +kernel
theorem d_BH_night_59 : decode prog_1_method_19_code 59 = .ok (.if_icmp .ge 33, 3) := by decide +kernel
theorem d_BH_night_62 : decode prog_1_method_19_code 62 = .ok (.aload_n 0, 1) := by decide +kernel
theorem d_BH_night_63 : decode prog_1_method_19_code 63 = .ok (.getfield 40, 3) := by decide +kernel
theorem d_BH_night_66 : decode prog_1_method_19_code 66 = .ok (.aload_n 0, 1) := by decide +kernel
theorem d_BH_night_67 : decode prog_1_method_19_code 67 = .ok (.getfield 54, 3) := by decide +kernel
theorem d_BH_night_70 : decode prog_1_method_19_code 70 = .ok (.iload_n 2, 1) := by decide +kernel
theorem d_BH_night_71 : decode prog_1_method_19_code 71 = .ok (.aload_n 0, 1) := by decide +kernel
theorem d_BH_night_72 : decode prog_1_method_19_code 72 = .ok (.getfield 26, 3) := by decide +kernel
theorem d_BH_night_75 : decode prog_1_method_19_code 75 = .ok (.getfield 114, 3) := by decide +kernel
theorem d_BH_night_78 : decode prog_1_method_19_code 78 = .ok (.invokevirtual 163, 3) := by decide +kernel
theorem d_BH_night_81 : decode prog_1_method_19_code 81 = .ok (.aload_n 0, 1) := by decide +kernel
theorem d_BH_night_82 : decode prog_1_method_19_code 82 = .ok (.iload_n 2, 1) := by decide +kernel
theorem d_BH_night_83 : decode prog_1_method_19_code 83 = .ok (.invokevirtual 219, 3) := by decide +kernel
theorem d_BH_night_86 : decode prog_1_method_19_code 86 = .ok (.iinc 2 1, 3) := by decide +kernel
theorem d_BH_night_89 : decode prog_1_method_19_code 89 = .ok (.goto (-38), 3) := by decide +kernel
theorem d_BH_night_92 : decode prog_1_method_19_code 92 = .ok (.aload_n 0, 1) := by decide +kernel
theorem d_BH_night_93 : decode prog_1_method_19_code 93 = .ok (.getfield 26, 3) := by decide +kernel
theorem d_BH_night_96 : decode prog_1_method_19_code 96 = .ok (.getfield 123, 3) := by decide +kernel
theorem d_BH_night_99 : decode prog_1_method_19_code 99 = .ok (.iload_n 1, 1) := by decide +kernel
theorem d_BH_night_100 : decode prog_1_method_19_code 100 = .ok (.isub, 1) := by decide +kernel
theorem d_BH_night_101 : decode prog_1_method_19_code 101 = .ok (.ireturn, 1) := by decide +kernel
theorem d_Book_isInForce_0 : decode prog_2_method_5_code 0 = .ok (.aload_n 0, 1) := by decide +kernel
theorem d_Book_isInForce_1 : decode prog_2_method_5_code 1 = .ok (.getfield 51, 3) := by decide +kernel
theorem d_Book_isInForce_4 : decode prog_2_method_5_code 4 = .ok (.iload_n 1, 1) := by decide +kernel
theorem d_Book_isInForce_5 : decode prog_2_method_5_code 5 = .ok (.ishr, 1) := by decide +kernel
theorem d_Book_isInForce_6 : decode prog_2_method_5_code 6 = .ok (.iconst 1, 1) := by decide +kernel
theorem d_Book_isInForce_7 : decode prog_2_method_5_code 7 = .ok (.iand, 1) := by decide +kernel
theorem d_Book_isInForce_8 : decode prog_2_method_5_code 8 = .ok (.iconst 1, 1) := by decide +kernel
theorem d_Book_isInForce_9 : decode prog_2_method_5_code 9 = .ok (.if_icmp .ne 7, 3) := by decide +kernel
theorem d_Book_isInForce_12 : decode prog_2_method_5_code 12 = .ok (.iconst 1, 1) := by decide +kernel
theorem d_Book_isInForce_13 : decode prog_2_method_5_code 13 = .ok (.goto 4, 3) := by decide +kernel
theorem d_Book_isInForce_16 : decode prog_2_method_5_code 16 = .ok (.iconst 0, 1) := by decide +kernel
theorem d_Book_isInForce_17 : decode prog_2_method_5_code 17 = .ok (.ireturn, 1) := by decide +kernel
theorem d_Book_turnRule_0 : decode prog_2_method_6_code 0 = .ok (.aload_n 0, 1) := by decide +kernel
theorem d_Book_turnRule_1 : decode prog_2_method_6_code 1 = .ok (.iconst 3, 1) := by decide +kernel
theorem d_Book_turnRule_2 : decode prog_2_method_6_code 2 = .ok (.aload_n 0, 1) := by decide +kernel
theorem d_Book_turnRule_3 : decode prog_2_method_6_code 3 = .ok (.getfield 51, 3) := by decide +kernel
theorem d_Book_turnRule_6 : decode prog_2_method_6_code 6 = .ok (.invokevirtual 63, 3) := by decide +kernel
theorem d_Book_turnRule_9 : decode prog_2_method_6_code 9 = .ok (.aload_n 0, 1) := by decide +kernel
theorem d_Book_turnRule_10 : decode prog_2_method_6_code 10 = .ok (.dup, 1) := by decide +kernel
theorem d_Book_turnRule_11 : decode prog_2_method_6_code 11 = .ok (.getfield 51, 3) := by decide +kernel
theorem d_Book_turnRule_14 : decode prog_2_method_6_code 14 = .ok (.iconst 1, 1) := by decide +kernel
theorem d_Book_turnRule_15 : decode prog_2_method_6_code 15 = .ok (.iload_n 1, 1) := by decide +kernel
theorem d_Book_turnRule_16 : decode prog_2_method_6_code 16 = .ok (.ishl, 1) := by decide +kernel
theorem d_Book_turnRule_17 : decode prog_2_method_6_code 17 = .ok (.ixor, 1) := by decide +kernel
theorem d_Book_turnRule_18 : decode prog_2_method_6_code 18 = .ok (.putfield 51, 3) := by decide +kernel
theorem d_Book_turnRule_21 : decode prog_2_method_6_code 21 = .ok (.return_, 1) := by decide +kernel
theorem d_BH_rule_0 : decode prog_1_method_20_code 0 = .ok (.iload_n 1, 1) := by decide +kernel
theorem d_BH_rule_1 : decode prog_1_method_20_code 1 = .ok (.ifCond .lt 26, 3) := by decide +kernel
theorem d_BH_rule_4 : decode prog_1_method_20_code 4 = .ok (.iload_n 1, 1) := by decide +kernel
theorem d_BH_rule_5 : decode prog_1_method_20_code 5 = .ok (.aload_n 0, 1) := by decide +kernel
theorem d_BH_rule_6 : decode prog_1_method_20_code 6 = .ok (.getfield 54, 3) := by decide +kernel
theorem d_BH_rule_9 : decode prog_1_method_20_code 9 = .ok (.getfield 108, 3) := by decide +kernel
theorem d_BH_rule_12 : decode prog_1_method_20_code 12 = .ok (.if_icmp .ge 15, 3) := by decide +kernel
theorem d_BH_rule_15 : decode prog_1_method_20_code 15 = .ok (.aload_n 0, 1) := by decide +kernel
theorem d_BH_rule_16 : decode prog_1_method_20_code 16 = .ok (.getfield 26, 3) := by decide +kernel
theorem d_BH_rule_19 : decode prog_1_method_20_code 19 = .ok (.iload_n 1, 1) := by decide +kernel
theorem d_BH_rule_20 : decode prog_1_method_20_code 20 = .ok (.invokevirtual 222, 3) := by decide +kernel
theorem d_BH_rule_23 : decode prog_1_method_20_code 23 = .ok (.iload_n 2, 1) := by decide +kernel
theorem d_BH_rule_24 : decode prog_1_method_20_code 24 = .ok (.if_icmp .ne 15, 3) := by decide +kernel
theorem d_BH_rule_27 : decode prog_1_method_20_code 27 = .ok (.aload_n 0, 1) := by decide +kernel
theorem d_BH_rule_28 : decode prog_1_method_20_code 28 = .ok (.getfield 65, 3) := by decide +kernel
theorem d_BH_rule_31 : decode prog_1_method_20_code 31 = .ok (.iconst 3, 1) := by decide +kernel
theorem d_BH_rule_32 : decode prog_1_method_20_code 32 = .ok (.dup2, 1) := by decide +kernel
theorem d_BH_rule_33 : decode prog_1_method_20_code 33 = .ok (.iaload, 1) := by decide +kernel
theorem d_BH_rule_34 : decode prog_1_method_20_code 34 = .ok (.iconst 1, 1) := by decide +kernel
theorem d_BH_rule_35 : decode prog_1_method_20_code 35 = .ok (.iadd, 1) := by decide +kernel
theorem d_BH_rule_36 : decode prog_1_method_20_code 36 = .ok (.iastore, 1) := by decide +kernel
theorem d_BH_rule_37 : decode prog_1_method_20_code 37 = .ok (.iconst 0, 1) := by decide +kernel
theorem d_BH_rule_38 : decode prog_1_method_20_code 38 = .ok (.ireturn, 1) := by decide +kernel
theorem d_BH_rule_39 : decode prog_1_method_20_code 39 = .ok (.aload_n 0, 1) := by decide +kernel
theorem d_BH_rule_40 : decode prog_1_method_20_code 40 = .ok (.getfield 26, 3) := by decide +kernel
theorem d_BH_rule_43 : decode prog_1_method_20_code 43 = .ok (.iload_n 1, 1) := by decide +kernel
theorem d_BH_rule_44 : decode prog_1_method_20_code 44 = .ok (.invokevirtual 225, 3) := by decide +kernel
theorem d_BH_rule_47 : decode prog_1_method_20_code 47 = .ok (.iconst 1, 1) := by decide +kernel
theorem d_BH_rule_48 : decode prog_1_method_20_code 48 = .ok (.ireturn, 1) := by decide +kernel
theorem d_Book_change_0 : decode prog_2_method_4_code 0 = .ok (.aload_n 0, 1) := by decide +kernel
theorem d_Book_change_1 : decode prog_2_method_4_code 1 = .ok (.getfield 11, 3) := by decide +kernel
theorem d_Book_change_4 : decode prog_2_method_4_code 4 = .ok (.iload_n 1, 1) := by decide +kernel
theorem d_Book_change_5 : decode prog_2_method_4_code 5 = .ok (.iaload, 1) := by decide +kernel
theorem d_Book_change_6 : decode prog_2_method_4_code 6 = .ok (.istore_n 3, 1) := by decide +kernel
theorem d_Book_change_7 : decode prog_2_method_4_code 7 = .ok (.aload_n 0, 1) := by decide +kernel
theorem d_Book_change_8 : decode prog_2_method_4_code 8 = .ok (.iload_n 1, 1) := by decide +kernel
theorem d_Book_change_9 : decode prog_2_method_4_code 9 = .ok (.iload_n 3, 1) := by decide +kernel
theorem d_Book_change_10 : decode prog_2_method_4_code 10 = .ok (.invokevirtual 63, 3) := by decide +kernel
theorem d_Book_change_13 : decode prog_2_method_4_code 13 = .ok (.aload_n 0, 1) := by decide +kernel
theorem d_Book_change_14 : decode prog_2_method_4_code 14 = .ok (.getfield 11, 3) := by decide +kernel
theorem d_Book_change_17 : decode prog_2_method_4_code 17 = .ok (.iload_n 1, 1) := by decide +kernel
theorem d_Book_change_18 : decode prog_2_method_4_code 18 = .ok (.iload_n 2, 1) := by decide +kernel
theorem d_Book_change_19 : decode prog_2_method_4_code 19 = .ok (.iastore, 1) := by decide +kernel
theorem d_Book_change_20 : decode prog_2_method_4_code 20 = .ok (.iload_n 3, 1) := by decide +kernel
theorem d_Book_change_21 : decode prog_2_method_4_code 21 = .ok (.ireturn, 1) := by decide +kernel
theorem d_BH_set_0 : decode prog_1_method_21_code 0 = .ok (.iload_n 1, 1) := by decide +kernel
theorem d_BH_set_1 : decode prog_1_method_21_code 1 = .ok (.ifCond .lt 26, 3) := by decide +kernel
theorem d_BH_set_4 : decode prog_1_method_21_code 4 = .ok (.iload_n 1, 1) := by decide +kernel
theorem d_BH_set_5 : decode prog_1_method_21_code 5 = .ok (.iconst 3, 1) := by decide +kernel
theorem d_BH_set_6 : decode prog_1_method_21_code 6 = .ok (.if_icmp .ge 21, 3) := by decide +kernel
theorem d_BH_set_9 : decode prog_1_method_21_code 9 = .ok (.iload_n 2, 1) := by decide +kernel
theorem d_BH_set_10 : decode prog_1_method_21_code 10 = .ok (.getstatic 228, 3) := by decide +kernel
theorem d_BH_set_13 : decode prog_1_method_21_code 13 = .ok (.iload_n 1, 1) := by decide +kernel
theorem d_BH_set_14 : decode prog_1_method_21_code 14 = .ok (.iaload, 1) := by decide +kernel
theorem d_BH_set_15 : decode prog_1_method_21_code 15 = .ok (.if_icmp .lt 12, 3) := by decide +kernel
theorem d_BH_set_18 : decode prog_1_method_21_code 18 = .ok (.iload_n 2, 1) := by decide +kernel
theorem d_BH_set_19 : decode prog_1_method_21_code 19 = .ok (.getstatic 231, 3) := by decide +kernel
theorem d_BH_set_22 : decode prog_1_method_21_code 22 = .ok (.iload_n 1, 1) := by decide +kernel
theorem d_BH_set_23 : decode prog_1_method_21_code 23 = .ok (.iaload, 1) := by decide +kernel
theorem d_BH_set_24 : decode prog_1_method_21_code 24 = .ok (.if_icmp .le 15, 3) := by decide +kernel
theorem d_BH_set_27 : decode prog_1_method_21_code 27 = .ok (.aload_n 0, 1) := by decide +kernel
theorem d_BH_set_28 : decode prog_1_method_21_code 28 = .ok (.getfield 65, 3) := by decide +kernel
theorem d_BH_set_31 : decode prog_1_method_21_code 31 = .ok (.iconst 3, 1) := by decide +kernel
theorem d_BH_set_32 : decode prog_1_method_21_code 32 = .ok (.dup2, 1) := by decide +kernel
theorem d_BH_set_33 : decode prog_1_method_21_code 33 = .ok (.iaload, 1) := by decide +kernel
theorem d_BH_set_34 : decode prog_1_method_21_code 34 = .ok (.iconst 1, 1) := by decide +kernel
theorem d_BH_set_35 : decode prog_1_method_21_code 35 = .ok (.iadd, 1) := by decide +kernel
theorem d_BH_set_36 : decode prog_1_method_21_code 36 = .ok (.iastore, 1) := by decide +kernel
theorem d_BH_set_37 : decode prog_1_method_21_code 37 = .ok (.iconst (-1), 1) := by decide +kernel
theorem d_BH_set_38 : decode prog_1_method_21_code 38 = .ok (.ireturn, 1) := by decide +kernel
theorem d_BH_set_39 : decode prog_1_method_21_code 39 = .ok (.aload_n 0, 1) := by decide +kernel
theorem d_BH_set_40 : decode prog_1_method_21_code 40 = .ok (.getfield 26, 3) := by decide +kernel
theorem d_BH_set_43 : decode prog_1_method_21_code 43 = .ok (.iload_n 1, 1) := by decide +kernel
theorem d_BH_set_44 : decode prog_1_method_21_code 44 = .ok (.iload_n 2, 1) := by decide +kernel
theorem d_BH_set_45 : decode prog_1_method_21_code 45 = .ok (.invokevirtual 234, 3) := by decide +kernel
theorem d_BH_set_48 : decode prog_1_method_21_code 48 = .ok (.ireturn, 1) := by decide +kernel
theorem d_Book_takeBack_0 : decode prog_2_method_9_code 0 = .ok (.aload_n 0, 1) := by decide +kernel
theorem d_Book_takeBack_1 : decode prog_2_method_9_code 1 = .ok (.getfield 57, 3) := by decide +kernel
theorem d_Book_takeBack_4 : decode prog_2_method_9_code 4 = .ok (.ifCond .ne 4, 3) := by decide +kernel
theorem d_Book_takeBack_7 : decode prog_2_method_9_code 7 = .ok (.return_, 1) := by decide +kernel
theorem d_Book_takeBack_8 : decode prog_2_method_9_code 8 = .ok (.aload_n 0, 1) := by decide +kernel
theorem d_Book_takeBack_9 : decode prog_2_method_9_code 9 = .ok (.dup, 1) := by decide +kernel
theorem d_Book_takeBack_10 : decode prog_2_method_9_code 10 = .ok (.getfield 57, 3) := by decide +kernel
theorem d_Book_takeBack_13 : decode prog_2_method_9_code 13 = .ok (.iconst 1, 1) := by decide +kernel
theorem d_Book_takeBack_14 : decode prog_2_method_9_code 14 = .ok (.isub, 1) := by decide +kernel
theorem d_Book_takeBack_15 : decode prog_2_method_9_code 15 = .ok (.putfield 57, 3) := by decide +kernel
theorem d_Book_takeBack_18 : decode prog_2_method_9_code 18 = .ok (.aload_n 0, 1) := by decide +kernel
theorem d_Book_takeBack_19 : decode prog_2_method_9_code 19 = .ok (.getfield 19, 3) := by decide +kernel
theorem d_Book_takeBack_22 : decode prog_2_method_9_code 22 = .ok (.aload_n 0, 1) := by decide +kernel
theorem d_Book_takeBack_23 : decode prog_2_method_9_code 23 = .ok (.getfield 57, 3) := by decide +kernel
theorem d_Book_takeBack_26 : decode prog_2_method_9_code 26 = .ok (.iaload, 1) := by decide +kernel
theorem d_Book_takeBack_27 : decode prog_2_method_9_code 27 = .ok (.istore_n 1, 1) := by decide +kernel
theorem d_Book_takeBack_28 : decode prog_2_method_9_code 28 = .ok (.iload_n 1, 1) := by decide +kernel
theorem d_Book_takeBack_29 : decode prog_2_method_9_code 29 = .ok (.iconst 3, 1) := by decide +kernel
theorem d_Book_takeBack_30 : decode prog_2_method_9_code 30 = .ok (.if_icmp .ge 21, 3) := by decide +kernel
theorem d_Book_takeBack_33 : decode prog_2_method_9_code 33 = .ok (.aload_n 0, 1) := by decide +kernel
theorem d_Book_takeBack_34 : decode prog_2_method_9_code 34 = .ok (.getfield 11, 3) := by decide +kernel
theorem d_Book_takeBack_37 : decode prog_2_method_9_code 37 = .ok (.iload_n 1, 1) := by decide +kernel
theorem d_Book_takeBack_38 : decode prog_2_method_9_code 38 = .ok (.aload_n 0, 1) := by decide +kernel
theorem d_Book_takeBack_39 : decode prog_2_method_9_code 39 = .ok (.getfield 22, 3) := by decide +kernel
theorem d_Book_takeBack_42 : decode prog_2_method_9_code 42 = .ok (.aload_n 0, 1) := by decide +kernel
theorem d_Book_takeBack_43 : decode prog_2_method_9_code 43 = .ok (.getfield 57, 3) := by decide +kernel
theorem d_Book_takeBack_46 : decode prog_2_method_9_code 46 = .ok (.iaload, 1) := by decide +kernel
theorem d_Book_takeBack_47 : decode prog_2_method_9_code 47 = .ok (.iastore, 1) := by decide +kernel
theorem d_Book_takeBack_48 : decode prog_2_method_9_code 48 = .ok (.goto 65, 3) := by decide +kernel
theorem d_Book_takeBack_51 : decode prog_2_method_9_code 51 = .ok (.iload_n 1, 1) := by decide +kernel
theorem d_Book_takeBack_52 : decode prog_2_method_9_code 52 = .ok (.iconst 3, 1) := by decide +kernel
theorem d_Book_takeBack_53 : decode prog_2_method_9_code 53 = .ok (.if_icmp .ne 19, 3) := by decide +kernel
theorem d_Book_takeBack_56 : decode prog_2_method_9_code 56 = .ok (.aload_n 0, 1) := by decide +kernel
theorem d_Book_takeBack_57 : decode prog_2_method_9_code 57 = .ok (.aload_n 0, 1) := by decide +kernel
theorem d_Book_takeBack_58 : decode prog_2_method_9_code 58 = .ok (.getfield 22, 3) := by decide +kernel
theorem d_Book_takeBack_61 : decode prog_2_method_9_code 61 = .ok (.aload_n 0, 1) := by decide +kernel
theorem d_Book_takeBack_62 : decode prog_2_method_9_code 62 = .ok (.getfield 57, 3) := by decide +kernel
theorem d_Book_takeBack_65 : decode prog_2_method_9_code 65 = .ok (.iaload, 1) := by decide +kernel
theorem d_Book_takeBack_66 : decode prog_2_method_9_code 66 = .ok (.putfield 51, 3) := by decide +kernel
theorem d_Book_takeBack_69 : decode prog_2_method_9_code 69 = .ok (.goto 44, 3) := by decide +kernel
theorem d_Book_takeBack_72 : decode prog_2_method_9_code 72 = .ok (.aload_n 0, 1) := by decide +kernel
theorem d_Book_takeBack_73 : decode prog_2_method_9_code 73 = .ok (.dup, 1) := by decide +kernel
theorem d_Book_takeBack_74 : decode prog_2_method_9_code 74 = .ok (.getfield 40, 3) := by decide +kernel
theorem d_Book_takeBack_77 : decode prog_2_method_9_code 77 = .ok (.iconst 1, 1) := by decide +kernel
theorem d_Book_takeBack_78 : decode prog_2_method_9_code 78 = .ok (.isub, 1) := by decide +kernel
theorem d_Book_takeBack_79 : decode prog_2_method_9_code 79 = .ok (.putfield 40, 3) := by decide +kernel
theorem d_Book_takeBack_82 : decode prog_2_method_9_code 82 = .ok (.aload_n 0, 1) := by decide +kernel
theorem d_Book_takeBack_83 : decode prog_2_method_9_code 83 = .ok (.aload_n 0, 1) := by decide +kernel
theorem d_Book_takeBack_84 : decode prog_2_method_9_code 84 = .ok (.getfield 22, 3) := by decide +kernel
theorem d_Book_takeBack_87 : decode prog_2_method_9_code 87 = .ok (.aload_n 0, 1) := by decide +kernel
theorem d_Book_takeBack_88 : decode prog_2_method_9_code 88 = .ok (.getfield 57, 3) := by decide +kernel
theorem d_Book_takeBack_91 : decode prog_2_method_9_code 91 = .ok (.iaload, 1) := by decide +kernel
theorem d_Book_takeBack_92 : decode prog_2_method_9_code 92 = .ok (.putfield 43, 3) := by decide +kernel
theorem d_Book_takeBack_95 : decode prog_2_method_9_code 95 = .ok (.aload_n 0, 1) := by decide +kernel
theorem d_Book_takeBack_96 : decode prog_2_method_9_code 96 = .ok (.dup, 1) := by decide +kernel
theorem d_Book_takeBack_97 : decode prog_2_method_9_code 97 = .ok (.getfield 60, 3) := by decide +kernel
theorem d_Book_takeBack_100 : decode prog_2_method_9_code 100 = .ok (.aload_n 0, 1) := by decide +kernel
theorem d_Book_takeBack_101 : decode prog_2_method_9_code 101 = .ok (.getfield 25, 3) := by decide +kernel
theorem d_Book_takeBack_104 : decode prog_2_method_9_code 104 = .ok (.aload_n 0, 1) := by decide +kernel
theorem d_Book_takeBack_105 : decode prog_2_method_9_code 105 = .ok (.getfield 57, 3) := by decide +kernel
theorem d_Book_takeBack_108 : decode prog_2_method_9_code 108 = .ok (.iaload, 1) := by decide +kernel
theorem d_Book_takeBack_109 : decode prog_2_method_9_code 109 = .ok (.isub, 1) := by decide +kernel
theorem d_Book_takeBack_110 : decode prog_2_method_9_code 110 = .ok (.putfield 60, 3) := by decide +kernel
theorem d_Book_takeBack_113 : decode prog_2_method_9_code 113 = .ok (.return_, 1) := by decide +kernel
theorem d_BH_undo_0 : decode prog_1_method_22_code 0 = .ok (.aload_n 0, 1) := by decide +kernel
theorem d_BH_undo_1 : decode prog_1_method_22_code 1 = .ok (.getfield 26, 3) := by decide +kernel
theorem d_BH_undo_4 : decode prog_1_method_22_code 4 = .ok (.getfield 130, 3) := by decide +kernel
theorem d_BH_undo_7 : decode prog_1_method_22_code 7 = .ok (.ifCond .ne 15, 3) := by decide +kernel
theorem d_BH_undo_10 : decode prog_1_method_22_code 10 = .ok (.aload_n 0, 1) := by decide +kernel
theorem d_BH_undo_11 : decode prog_1_method_22_code 11 = .ok (.getfield 65, 3) := by decide +kernel
theorem d_BH_undo_14 : decode prog_1_method_22_code 14 = .ok (.iconst 4, 1) := by decide +kernel
theorem d_BH_undo_15 : decode prog_1_method_22_code 15 = .ok (.dup2, 1) := by decide +kernel
theorem d_BH_undo_16 : decode prog_1_method_22_code 16 = .ok (.iaload, 1) := by decide +kernel
theorem d_BH_undo_17 : decode prog_1_method_22_code 17 = .ok (.iconst 1, 1) := by decide +kernel
theorem d_BH_undo_18 : decode prog_1_method_22_code 18 = .ok (.iadd, 1) := by decide +kernel
theorem d_BH_undo_19 : decode prog_1_method_22_code 19 = .ok (.iastore, 1) := by decide +kernel
theorem d_BH_undo_20 : decode prog_1_method_22_code 20 = .ok (.iconst 0, 1) := by decide +kernel
theorem d_BH_undo_21 : decode prog_1_method_22_code 21 = .ok (.ireturn, 1) := by decide +kernel
theorem d_BH_undo_22 : decode prog_1_method_22_code 22 = .ok (.aload_n 0, 1) := by decide +kernel
theorem d_BH_undo_23 : decode prog_1_method_22_code 23 = .ok (.getfield 26, 3) := by decide +kernel
theorem d_BH_undo_26 : decode prog_1_method_22_code 26 = .ok (.invokevirtual 237, 3) := by decide +kernel
theorem d_BH_undo_29 : decode prog_1_method_22_code 29 = .ok (.iconst 1, 1) := by decide +kernel
theorem d_BH_undo_30 : decode prog_1_method_22_code 30 = .ok (.ireturn, 1) := by decide +kernel
theorem d_BH_seed_0 : decode prog_1_method_23_code 0 = .ok (.iload_n 1, 1) := by decide +kernel
theorem d_BH_seed_1 : decode prog_1_method_23_code 1 = .ok (.ifCond .ge 15, 3) := by decide +kernel
theorem d_BH_seed_4 : decode prog_1_method_23_code 4 = .ok (.aload_n 0, 1) := by decide +kernel
theorem d_BH_seed_5 : decode prog_1_method_23_code 5 = .ok (.getfield 65, 3) := by decide +kernel
theorem d_BH_seed_8 : decode prog_1_method_23_code 8 = .ok (.iconst 5, 1) := by decide +kernel
theorem d_BH_seed_9 : decode prog_1_method_23_code 9 = .ok (.dup2, 1) := by decide +kernel
theorem d_BH_seed_10 : decode prog_1_method_23_code 10 = .ok (.iaload, 1) := by decide +kernel
theorem d_BH_seed_11 : decode prog_1_method_23_code 11 = .ok (.iconst 1, 1) := by decide +kernel
theorem d_BH_seed_12 : decode prog_1_method_23_code 12 = .ok (.iadd, 1) := by decide +kernel
theorem d_BH_seed_13 : decode prog_1_method_23_code 13 = .ok (.iastore, 1) := by decide +kernel
theorem d_BH_seed_14 : decode prog_1_method_23_code 14 = .ok (.iconst 0, 1) := by decide +kernel
theorem d_BH_seed_15 : decode prog_1_method_23_code 15 = .ok (.ireturn, 1) := by decide +kernel
theorem d_BH_seed_16 : decode prog_1_method_23_code 16 = .ok (.aload_n 0, 1) := by decide +kernel
theorem d_BH_seed_17 : decode prog_1_method_23_code 17 = .ok (.getfield 26, 3) := by decide +kernel
theorem d_BH_seed_20 : decode prog_1_method_23_code 20 = .ok (.iload_n 1, 1) := by decide +kernel
theorem d_BH_seed_21 : decode prog_1_method_23_code 21 = .ok (.putfield 240, 3) := by decide +kernel
theorem d_BH_seed_24 : decode prog_1_method_23_code 24 = .ok (.iconst 1, 1) := by decide +kernel
theorem d_BH_seed_25 : decode prog_1_method_23_code 25 = .ok (.ireturn, 1) := by decide +kernel
theorem d_Book_told_0 : decode prog_2_method_11_code 0 = .ok (.aload_n 0, 1) := by decide +kernel
theorem d_Book_told_1 : decode prog_2_method_11_code 1 = .ok (.getfield 60, 3) := by decide +kernel
theorem d_Book_told_4 : decode prog_2_method_11_code 4 = .ok (.aload_n 0, 1) := by decide +kernel
theorem d_Book_told_5 : decode prog_2_method_11_code 5 = .ok (.invokevirtual 79, 3) := by decide +kernel
theorem d_Book_told_8 : decode prog_2_method_11_code 8 = .ok (.isub, 1) := by decide +kernel
theorem d_Book_told_9 : decode prog_2_method_11_code 9 = .ok (.iload_n 1, 1) := by decide +kernel
theorem d_Book_told_10 : decode prog_2_method_11_code 10 = .ok (.iadd, 1) := by decide +kernel
theorem d_Book_told_11 : decode prog_2_method_11_code 11 = .ok (.istore_n 3, 1) := by decide +kernel
theorem d_Book_told_12 : decode prog_2_method_11_code 12 = .ok (.iload_n 3, 1) := by decide +kernel
theorem d_Book_told_13 : decode prog_2_method_11_code 13 = .ok (.ifCond .ge 5, 3) := by decide +kernel
theorem d_Book_told_16 : decode prog_2_method_11_code 16 = .ok (.iconst (-1), 1) := by decide +kernel
theorem d_Book_told_17 : decode prog_2_method_11_code 17 = .ok (.ireturn, 1) := by decide +kernel
theorem d_Book_told_18 : decode prog_2_method_11_code 18 = .ok (.aload_n 0, 1) := by decide +kernel
theorem d_Book_told_19 : decode prog_2_method_11_code 19 = .ok (.getfield 28, 3) := by decide +kernel
theorem d_Book_told_22 : decode prog_2_method_11_code 22 = .ok (.iload_n 3, 1) := by decide +kernel
theorem d_Book_told_23 : decode prog_2_method_11_code 23 = .ok (.sipush 700, 3) := by decide +kernel
theorem d_Book_told_26 : decode prog_2_method_11_code 26 = .ok (.irem, 1) := by decide +kernel
theorem d_Book_told_27 : decode prog_2_method_11_code 27 = .ok (.iaload, 1) := by decide +kernel
theorem d_Book_told_28 : decode prog_2_method_11_code 28 = .ok (.istore 4, 2) := by decide +kernel
theorem d_Book_told_30 : decode prog_2_method_11_code 30 = .ok (.iload_n 2, 1) := by decide +kernel
theorem d_Book_told_31 : decode prog_2_method_11_code 31 = .ok (.tableswitch 71 0 4 #[33, 39, 48, 57, 65], 33) := by decide +kernel
theorem d_Book_told_64 : decode prog_2_method_11_code 64 = .ok (.iload 4, 2) := by decide +kernel
theorem d_Book_told_66 : decode prog_2_method_11_code 66 = .ok (.bipush 14, 2) := by decide +kernel
theorem d_Book_told_68 : decode prog_2_method_11_code 68 = .ok (.ishr, 1) := by decide +kernel
theorem d_Book_told_69 : decode prog_2_method_11_code 69 = .ok (.ireturn, 1) := by decide +kernel
theorem d_Book_told_70 : decode prog_2_method_11_code 70 = .ok (.iload 4, 2) := by decide +kernel
theorem d_Book_told_72 : decode prog_2_method_11_code 72 = .ok (.bipush 11, 2) := by decide +kernel
theorem d_Book_told_74 : decode prog_2_method_11_code 74 = .ok (.ishr, 1) := by decide +kernel
theorem d_Book_told_75 : decode prog_2_method_11_code 75 = .ok (.bipush 7, 2) := by decide +kernel
theorem d_Book_told_77 : decode prog_2_method_11_code 77 = .ok (.iand, 1) := by decide +kernel
theorem d_Book_told_78 : decode prog_2_method_11_code 78 = .ok (.ireturn, 1) := by decide +kernel
theorem d_Book_told_79 : decode prog_2_method_11_code 79 = .ok (.iload 4, 2) := by decide +kernel
theorem d_Book_told_81 : decode prog_2_method_11_code 81 = .ok (.bipush 8, 2) := by decide +kernel
theorem d_Book_told_83 : decode prog_2_method_11_code 83 = .ok (.ishr, 1) := by decide +kernel
theorem d_Book_told_84 : decode prog_2_method_11_code 84 = .ok (.bipush 7, 2) := by decide +kernel
theorem d_Book_told_86 : decode prog_2_method_11_code 86 = .ok (.iand, 1) := by decide +kernel
theorem d_Book_told_87 : decode prog_2_method_11_code 87 = .ok (.ireturn, 1) := by decide +kernel
theorem d_Book_told_88 : decode prog_2_method_11_code 88 = .ok (.iload 4, 2) := by decide +kernel
theorem d_Book_told_90 : decode prog_2_method_11_code 90 = .ok (.bipush 7, 2) := by decide +kernel
theorem d_Book_told_92 : decode prog_2_method_11_code 92 = .ok (.ishr, 1) := by decide +kernel
theorem d_Book_told_93 : decode prog_2_method_11_code 93 = .ok (.iconst 1, 1) := by decide +kernel
theorem d_Book_told_94 : decode prog_2_method_11_code 94 = .ok (.iand, 1) := by decide +kernel
theorem d_Book_told_95 : decode prog_2_method_11_code 95 = .ok (.ireturn, 1) := by decide +kernel
theorem d_Book_told_96 : decode prog_2_method_11_code 96 = .ok (.iload 4, 2) := by decide +kernel
theorem d_Book_told_98 : decode prog_2_method_11_code 98 = .ok (.bipush 127, 2) := by decide +kernel
theorem d_Book_told_100 : decode prog_2_method_11_code 100 = .ok (.iand, 1) := by decide +kernel
theorem d_Book_told_101 : decode prog_2_method_11_code 101 = .ok (.ireturn, 1) := by decide +kernel
theorem d_Book_told_102 : decode prog_2_method_11_code 102 = .ok (.iconst (-1), 1) := by decide +kernel
theorem d_Book_told_103 : decode prog_2_method_11_code 103 = .ok (.ireturn, 1) := by decide +kernel
theorem d_BH_kept_0 : decode prog_1_method_24_code 0 = .ok (.iload_n 1, 1) := by decide +kernel
theorem d_BH_kept_1 : decode prog_1_method_24_code 1 = .ok (.ifCond .lt 23, 3) := by decide +kernel
theorem d_BH_kept_4 : decode prog_1_method_24_code 4 = .ok (.iload_n 1, 1) := by decide +kernel
theorem d_BH_kept_5 : decode prog_1_method_24_code 5 = .ok (.aload_n 0, 1) := by decide +kernel
theorem d_BH_kept_6 : decode prog_1_method_24_code 6 = .ok (.getfield 26, 3) := by decide +kernel
theorem d_BH_kept_9 : decode prog_1_method_24_code 9 = .ok (.invokevirtual 126, 3) := by decide +kernel
theorem d_BH_kept_12 : decode prog_1_method_24_code 12 = .ok (.if_icmp .ge 12, 3) := by decide +kernel
theorem d_BH_kept_15 : decode prog_1_method_24_code 15 = .ok (.iload_n 2, 1) := by decide +kernel
theorem d_BH_kept_16 : decode prog_1_method_24_code 16 = .ok (.ifCond .lt 8, 3) := by decide +kernel
theorem d_BH_kept_19 : decode prog_1_method_24_code 19 = .ok (.iload_n 2, 1) := by decide +kernel
theorem d_BH_kept_20 : decode prog_1_method_24_code 20 = .ok (.iconst 4, 1) := by decide +kernel
theorem d_BH_kept_21 : decode prog_1_method_24_code 21 = .ok (.if_icmp .le 5, 3) := by decide +kernel
theorem d_BH_kept_24 : decode prog_1_method_24_code 24 = .ok (.iconst (-1), 1) := by decide +kernel
theorem d_BH_kept_25 : decode prog_1_method_24_code 25 = .ok (.ireturn, 1) := by decide +kernel
theorem d_BH_kept_26 : decode prog_1_method_24_code 26 = .ok (.aload_n 0, 1) := by decide +kernel
theorem d_BH_kept_27 : decode prog_1_method_24_code 27 = .ok (.getfield 26, 3) := by decide +kernel
theorem d_BH_kept_30 : decode prog_1_method_24_code 30 = .ok (.iload_n 1, 1) := by decide +kernel
theorem d_BH_kept_31 : decode prog_1_method_24_code 31 = .ok (.iload_n 2, 1) := by decide +kernel
theorem d_BH_kept_32 : decode prog_1_method_24_code 32 = .ok (.invokevirtual 243, 3) := by decide +kernel
theorem d_BH_kept_35 : decode prog_1_method_24_code 35 = .ok (.ireturn, 1) := by decide +kernel
theorem d_BH_canBeSeen_0 : decode prog_1_method_43_code 0 = .ok (.iload_n 1, 1) := by decide +kernel
theorem d_BH_canBeSeen_1 : decode prog_1_method_43_code 1 = .ok (.iconst 1, 1) := by decide +kernel
theorem d_BH_canBeSeen_2 : decode prog_1_method_43_code 2 = .ok (.if_icmp .lt 8, 3) := by decide +kernel
theorem d_BH_canBeSeen_5 : decode prog_1_method_43_code 5 = .ok (.iload_n 1, 1) := by decide +kernel
theorem d_BH_canBeSeen_6 : decode prog_1_method_43_code 6 = .ok (.iconst 4, 1) := by decide +kernel
theorem d_BH_canBeSeen_7 : decode prog_1_method_43_code 7 = .ok (.if_icmp .le 5, 3) := by decide +kernel
theorem d_BH_canBeSeen_10 : decode prog_1_method_43_code 10 = .ok (.iconst 0, 1) := by decide +kernel
theorem d_BH_canBeSeen_11 : decode prog_1_method_43_code 11 = .ok (.ireturn, 1) := by decide +kernel
theorem d_BH_canBeSeen_12 : decode prog_1_method_43_code 12 = .ok (.iconst 0, 1) := by decide +kernel
theorem d_BH_canBeSeen_13 : decode prog_1_method_43_code 13 = .ok (.istore_n 2, 1) := by decide +kernel
theorem d_BH_canBeSeen_14 : decode prog_1_method_43_code 14 = .ok (.iload_n 2, 1) := by decide +kernel
theorem d_BH_canBeSeen_15 : decode prog_1_method_43_code 15 = .ok (.iload_n 1, 1) := by decide +kernel
theorem d_BH_canBeSeen_16 : decode prog_1_method_43_code 16 = .ok (.if_icmp .ge 32, 3) := by decide +kernel
theorem d_BH_canBeSeen_19 : decode prog_1_method_43_code 19 = .ok (.aload_n 0, 1) := by decide +kernel
theorem d_BH_canBeSeen_20 : decode prog_1_method_43_code 20 = .ok (.getfield 10, 3) := by decide +kernel
theorem d_BH_canBeSeen_23 : decode prog_1_method_43_code 23 = .ok (.getfield 76, 3) := by decide +kernel
theorem d_BH_canBeSeen_26 : decode prog_1_method_43_code 26 = .ok (.iload_n 2, 1) := by decide +kernel
theorem d_BH_canBeSeen_27 : decode prog_1_method_43_code 27 = .ok (.iaload, 1) := by decide +kernel
theorem d_BH_canBeSeen_28 : decode prog_1_method_43_code 28 = .ok (.aload_n 0, 1) := by decide +kernel
theorem d_BH_canBeSeen_29 : decode prog_1_method_43_code 29 = .ok (.getfield 26, 3) := by decide +kernel
theorem d_BH_canBeSeen_32 : decode prog_1_method_43_code 32 = .ok (.getfield 114, 3) := by decide +kernel
theorem d_BH_canBeSeen_35 : decode prog_1_method_43_code 35 = .ok (.iconst 0, 1) := by decide +kernel
theorem d_BH_canBeSeen_36 : decode prog_1_method_43_code 36 = .ok (.iaload, 1) := by decide +kernel
theorem d_BH_canBeSeen_37 : decode prog_1_method_43_code 37 = .ok (.if_icmp .le 5, 3) := by decide +kernel
theorem d_BH_canBeSeen_40 : decode prog_1_method_43_code 40 = .ok (.iconst 0, 1) := by decide +kernel
theorem d_BH_canBeSeen_41 : decode prog_1_method_43_code 41 = .ok (.ireturn, 1) := by decide +kernel
theorem d_BH_canBeSeen_42 : decode prog_1_method_43_code 42 = .ok (.iinc 2 1, 3) := by decide +kernel
theorem d_BH_canBeSeen_45 : decode prog_1_method_43_code 45 = .ok (.goto (-31), 3) := by decide +kernel
theorem d_BH_canBeSeen_48 : decode prog_1_method_43_code 48 = .ok (.iconst 1, 1) := by decide +kernel
theorem d_BH_canBeSeen_49 : decode prog_1_method_43_code 49 = .ok (.ireturn, 1) := by decide +kernel
def f_BH_honest_11 (x1 : Int32) (σ : St) : Option (Int32 × St) :=
  bp (f_Tree_weighBells σ) fun σ_2 =>
  if x1 = 0 then
    some ((sI σ_2 39), σ_2)
  else
    bp (f_Tree_winnerLeaves (sA σ_2 9 (2 : Int32).toNatClampNeg) σ_2) fun r_4 =>
    some (r_4, σ_2)
def f_BH_honest (x1 : Int32) (σ : St) : Option (Int32 × St) :=
  if x1 = 0 then
    f_BH_honest_11 x1 σ
  else
    if x1 = 1 then
      f_BH_honest_11 x1 σ
    else
      some ((-1), σ)
set_option maxHeartbeats 4000000 in
set_option maxRecDepth 20000 in
theorem t_BH_honest_11 {r : Int32} {σ2 : St} (C : Cx g A p s m av meth c prog_1_method_17_code 2 "BellHammer" (some .int))  {x1 : Int32} {σ : St} {H : Heap} {locs : List Loc} {ls : Array Slot} (hf : f_BH_honest_11   x1 σ = some (r, σ2)) (w : Wd g (wX g q) A s σ H locs) (hl : lv_has ls 2 [(0, .ref (q 0)), (1, .int x1)]) : WK p l e s m av below meth c 19 g (wX g q) A (some (.int r)) σ2 H locs (F0 m 11 ls []) := by
  obtain ⟨hx, hb, hml, hown, hts, hK, hA, hZ, hlocks, hr, hN⟩ := id C
  unfold f_BH_honest_11 at hf
  refine lv_aload_n hx hb d_BH_honest_11 rfl (lv_at hl 0 rfl) ?_
  refine xg_0_tree C w k512 d_BH_honest_12 ?_
  refine lv_aload_n hx hb d_BH_honest_15 rfl (lv_at hl 0 rfl) ?_
  refine xg_0_fair C w k513 d_BH_honest_16 ?_
  refine lv_aload_n hx hb d_BH_honest_19 rfl (lv_at hl 0 rfl) ?_
  refine xg_0_book C w k509 d_BH_honest_20 ?_
  refine xg_14_now C w k344 d_BH_honest_23 ?_
  obtain ⟨σ_2, h_1, hf⟩ := bp_e hf
  refine k_callV (As := [.ref (q 34), .ref (q 15)]) (rest := []) C w (c_Tree_weighBells (q := q) h_1) cv_Tree_weighBells k928 (xr_25 C w) (by decide) hl.1 rfl (Nat.le_of_ble_eq_true rfl) d_BH_honest_26 (fun H locs w => ?_)
  show WK p l e s m av below meth c 19 g (wX g q) A (some (.int r)) σ2 H locs (F0 m 29 ls [])
  refine lv_iload_n hx hb d_BH_honest_29 rfl (lv_at hl 1 rfl) ?_
  refine lv_if_ne (tgt := 43) hx hb d_BH_honest_30 (by decide) (fun cd => ?_) (fun cd => ?_)
  · have hf := if_e cd hf
    refine lv_aload_n hx hb d_BH_honest_43 rfl (lv_at hl 0 rfl) ?_
    refine xg_0_tree C w k512 d_BH_honest_44 ?_
    refine lv_aload_n hx hb d_BH_honest_47 rfl (lv_at hl 0 rfl) ?_
    refine xg_0_book C w k509 d_BH_honest_48 ?_
    refine xg_14_now C w k344 d_BH_honest_51 ?_
    refine lv_iconst (v := 2) hx hb d_BH_honest_54 (by decide) ?_
    refine xl_15 C w (by decide) d_BH_honest_55 ?_
    obtain ⟨r_4, h_3, hf⟩ := bp_e hf
    refine k_callV (As := [.int (sA σ_2 9 (2 : Int32).toNatClampNeg)]) (rest := []) C w (c_Tree_winnerLeaves (q := q) h_3) cv_Tree_winnerLeaves k920 (xr_25 C w) (by decide) hl.1 rfl (Nat.le_of_ble_eq_true rfl) d_BH_honest_56 (fun H locs w => ?_)
    show WK p l e s m av below meth c 19 g (wX g q) A (some (.int r)) σ2 H locs (F0 m 59 ls [.int r_4])
    obtain ⟨rfl, rfl⟩ := some2_e hf
    exact k_iret C w d_BH_honest_59
  · have hf := it_e cd hf
    refine lv_aload_n hx hb d_BH_honest_33 rfl (lv_at hl 0 rfl) ?_
    refine xg_0_tree C w k512 d_BH_honest_34 ?_
    refine xg_25_winner C w k472 d_BH_honest_37 ?_
    refine lv_goto (tgt := 59) hx hb d_BH_honest_40 (by decide) ?_
    obtain ⟨rfl, rfl⟩ := some2_e hf
    exact k_iret C w d_BH_honest_59
set_option maxHeartbeats 4000000 in
set_option maxRecDepth 20000 in
theorem c_BH_honest {l : Launch} {g : GX} {q : Nat → Nat} {x1 : Int32}  {σ : St} {r : Int32} {σ2 : St} (hf : f_BH_honest  x1 σ = some (r, σ2)) : KK l y_BH_honest prog_1_method_17_code 2 (some .int) 19 g (wX g q) σ [.ref (q 0), .int x1] (some (.int r)) (wX g q) σ2 := by
  refine KK_of (plainFor_of_name (by decide)) (Nat.le_of_ble_eq_true rfl) (fun p e s m below meth c A ls C w hl => ?_)
  have hl : lv_has ls 2 [(0, .ref (q 0)), (1, .int x1)] := hl
  obtain ⟨hx, hb, hml, hown, hts, hK, hA, hZ, hlocks, hr, hN⟩ := id C
  unfold f_BH_honest at hf
  refine lv_iload_n hx hb d_BH_honest_0 rfl (lv_at hl 1 rfl) ?_
  refine lv_if_eq (tgt := 11) hx hb d_BH_honest_1 (by decide) (fun cd => ?_) (fun cd => ?_)
  · have hf := it_e cd hf
    exact t_BH_honest_11 C  hf w (lv_sub hl [0, 1] rfl)
  · have hf := if_e cd hf
    refine lv_iload_n hx hb d_BH_honest_4 rfl (lv_at hl 1 rfl) ?_
    refine lv_iconst (v := 1) hx hb d_BH_honest_5 (by decide) ?_
    refine lv_icmp_eq (tgt := 11) hx hb d_BH_honest_6 (by decide) (fun cd => ?_) (fun cd => ?_)
    · have hf := it_e cd hf
      exact t_BH_honest_11 C  hf w (lv_sub hl [0, 1] rfl)
    · have hf := if_e cd hf
      refine lv_iconst (v := (-1)) hx hb d_BH_honest_9 (by decide) ?_
      obtain ⟨rfl, rfl⟩ := some2_e hf
      exact k_iret C w d_BH_honest_10
def f_BH_wonPairs_40b (k6 : Int32 → Int32 → Int32 → Int32 → Int32 → St → Option (Int32)) (k40 : Int32 → Int32 → Int32 → Int32 → Int32 → Int32 → Int32 → St → Option (Int32)) (x1 : Int32) (x2 : Int32) (x3 : Int32) (x4 : Int32) (x5 : Int32) (x6 : Int32) (x7 : Int32) (σ : St) : Option (Int32) :=
  bp (f_Fair_trait x2 1 σ) fun r_2 =>
  if r_2 < x7 then
    lt ((x5 + 1)) fun x_3 =>
    k6 x1 x2 x3 x4 x_3 σ
  else
    bp (f_Fair_trait x2 0 σ) fun r_5 =>
    bp (f_BH_rise r_5 x7 0 σ) fun r_7 =>
    if x3 = 0 then
      if x6 ≤ r_7 then
        lt ((x7 + 1)) fun x_11 =>
        k40 x1 x2 x3 x4 x5 x6 x_11 σ
      else
        lt ((x4 + 1)) fun x_12 =>
        lt ((x7 + 1)) fun x_13 =>
        k40 x1 x2 x3 x_12 x5 x6 x_13 σ
    else
      if x6 = r_7 then
        lt ((x4 + 1)) fun x_9 =>
        lt ((x7 + 1)) fun x_10 =>
        k40 x1 x2 x3 x_9 x5 x6 x_10 σ
      else
        lt ((x7 + 1)) fun x_8 =>
        k40 x1 x2 x3 x4 x5 x6 x_8 σ
def f_BH_wonPairs_40 (k6 : Int32 → Int32 → Int32 → Int32 → Int32 → St → Option (Int32)) : Nat → Int32 → Int32 → Int32 → Int32 → Int32 → Int32 → Int32 → St → Option (Int32)
  | 0 => fun _ _ _ _ _ _ _ _ => none
  | n + 1 => f_BH_wonPairs_40b  k6 (f_BH_wonPairs_40  k6 n)
def f_BH_wonPairs_6b (k6 : Int32 → Int32 → Int32 → Int32 → Int32 → St → Option (Int32)) (x1 : Int32) (x2 : Int32) (x3 : Int32) (x4 : Int32) (x5 : Int32) (σ : St) : Option (Int32) :=
  bp (f_Fair_trait x1 1 σ) fun r_2 =>
  if r_2 < x5 then
    some x4
  else
    bp (f_Fair_trait x1 0 σ) fun r_4 =>
    bp (f_BH_rise r_4 x5 0 σ) fun r_6 =>
    f_BH_wonPairs_40 k6 FU x1 x2 x3 x4 x5 r_6 0 σ
def f_BH_wonPairs_6 : Nat → Int32 → Int32 → Int32 → Int32 → Int32 → St → Option (Int32)
  | 0 => fun _ _ _ _ _ _ => none
  | n + 1 => f_BH_wonPairs_6b   (f_BH_wonPairs_6   n)
def f_BH_wonPairs (x1 : Int32) (x2 : Int32) (x3 : Int32) (σ : St) : Option (Int32) :=
  f_BH_wonPairs_6 FU x1 x2 x3 0 0 σ
set_option maxHeartbeats 4000000 in
set_option maxRecDepth 20000 in
theorem t_BH_wonPairs_40b {r : Int32} {σ : St} (C : Cx g A p s m av meth c prog_1_method_41_code 9 "BellHammer" (some .int)) {k6 : Int32 → Int32 → Int32 → Int32 → Int32 → St → Option (Int32)} (hk6 : ∀ (x1 : Int32) (x2 : Int32) (x3 : Int32) (x4 : Int32) (x5 : Int32) (H : Heap) (locs : List Loc) (ls : Array Slot), k6 x1 x2 x3 x4 x5 σ = some r → Wd g (wX g q) A s σ H locs → lv_has ls 9 [(0, .ref (q 0)), (1, .int x1), (2, .int x2), (3, .int x3), (4, .int x4), (5, .int x5)] → WK p l e s m av below meth c 1 g (wX g q) A (some (.int r)) σ H locs (F0 m 6 ls [])) {k40 : Int32 → Int32 → Int32 → Int32 → Int32 → Int32 → Int32 → St → Option (Int32)} (hk40 : ∀ (x1 : Int32) (x2 : Int32) (x3 : Int32) (x4 : Int32) (x5 : Int32) (x6 : Int32) (x7 : Int32) (H : Heap) (locs : List Loc) (ls : Array Slot), k40 x1 x2 x3 x4 x5 x6 x7 σ = some r → Wd g (wX g q) A s σ H locs → lv_has ls 9 [(0, .ref (q 0)), (1, .int x1), (2, .int x2), (3, .int x3), (4, .int x4), (5, .int x5), (6, .int x6), (7, .int x7)] → WK p l e s m av below meth c 1 g (wX g q) A (some (.int r)) σ H locs (F0 m 40 ls []))  {x1 : Int32} {x2 : Int32} {x3 : Int32} {x4 : Int32} {x5 : Int32} {x6 : Int32} {x7 : Int32} {H : Heap} {locs : List Loc} {ls : Array Slot} (hf : f_BH_wonPairs_40b  k6 k40 x1 x2 x3 x4 x5 x6 x7 σ = some r) (w : Wd g (wX g q) A s σ H locs) (hl : lv_has ls 9 [(0, .ref (q 0)), (1, .int x1), (2, .int x2), (3, .int x3), (4, .int x4), (5, .int x5), (6, .int x6), (7, .int x7)]) : WK p l e s m av below meth c 1 g (wX g q) A (some (.int r)) σ H locs (F0 m 40 ls []) := by
  obtain ⟨hx, hb, hml, hown, hts, hK, hA, hZ, hlocks, hr, hN⟩ := id C
  unfold f_BH_wonPairs_40b at hf
  refine lv_iload hx hb d_BH_wonPairs_40 (lv_at hl 7 rfl) ?_
  refine lv_aload_n hx hb d_BH_wonPairs_42 rfl (lv_at hl 0 rfl) ?_
  refine xg_0_fair C w k513 d_BH_wonPairs_43 ?_
  refine lv_iload_n hx hb d_BH_wonPairs_46 rfl (lv_at hl 2 rfl) ?_
  refine lv_iconst (v := 1) hx hb d_BH_wonPairs_47 (by decide) ?_
  obtain ⟨r_2, h_1, hf⟩ := bp_e hf
  refine k_callV (As := [.int x2, .int 1]) (rest := [.int x7]) C w (c_Fair_trait (q := q) h_1) cv_Fair_trait k744 (xr_34 C w) (by decide) hl.1 rfl (Nat.le_of_ble_eq_true rfl) d_BH_wonPairs_48 (fun H locs w => ?_)
  show WK p l e s m av below meth c 1 g (wX g q) A (some (.int r)) σ H locs (F0 m 51 ls [.int r_2, .int x7])
  refine lv_icmp_gt (tgt := 101) hx hb d_BH_wonPairs_51 (by decide) (fun cd => ?_) (fun cd => ?_)
  · have hf := it_e cd hf
    obtain ⟨x_3, ex_3⟩ : ∃ y : Int32, y = (x5 + 1) := ⟨_, rfl⟩
    have hf := lt_e ex_3 hf
    refine lv_iinc (v := x_3) (lv' := [(5, .int x_3), (0, .ref (q 0)), (1, .int x1), (2, .int x2), (3, .int x3), (4, .int x4), (6, .int x6), (7, .int x7)]) hx hb d_BH_wonPairs_101 hl (k := 5) rfl (by rw [ex_3]; rfl) (by decide) rfl (fun ls hl => ?_)
    refine lv_goto (tgt := 6) hx hb d_BH_wonPairs_104 (by decide) ?_
    exact hk6 x1 x2 x3 x4 x_3  _ _ _ hf w (lv_sub hl [1, 2, 3, 4, 5, 0] rfl)
  · have hf := if_e cd hf
    refine lv_aload_n hx hb d_BH_wonPairs_54 rfl (lv_at hl 0 rfl) ?_
    refine xg_0_fair C w k513 d_BH_wonPairs_55 ?_
    refine lv_iload_n hx hb d_BH_wonPairs_58 rfl (lv_at hl 2 rfl) ?_
    refine lv_iconst (v := 0) hx hb d_BH_wonPairs_59 (by decide) ?_
    obtain ⟨r_5, h_4, hf⟩ := bp_e hf
    refine k_callV (As := [.int x2, .int 0]) (rest := []) C w (c_Fair_trait (q := q) h_4) cv_Fair_trait k744 (xr_34 C w) (by decide) hl.1 rfl (Nat.le_of_ble_eq_true rfl) d_BH_wonPairs_60 (fun H locs w => ?_)
    show WK p l e s m av below meth c 1 g (wX g q) A (some (.int r)) σ H locs (F0 m 63 ls [.int r_5])
    refine lv_iload hx hb d_BH_wonPairs_63 (lv_at hl 7 rfl) ?_
    refine lv_iconst (v := 0) hx hb d_BH_wonPairs_65 (by decide) ?_
    obtain ⟨r_7, h_6, hf⟩ := bp_e hf
    refine k_callS (As := [.int r_5, .int x7, .int 0]) (rest := []) C w (c_BH_rise (q := q) h_6) cv_BH_rise k795 (by decide) hl.1 rfl (Nat.le_of_ble_eq_true rfl) d_BH_wonPairs_66 (fun H locs w => ?_)
    show WK p l e s m av below meth c 1 g (wX g q) A (some (.int r)) σ H locs (F0 m 69 ls [.int r_7])
    refine lv_istore (lv' := [(8, .int r_7), (0, .ref (q 0)), (1, .int x1), (2, .int x2), (3, .int x3), (4, .int x4), (5, .int x5), (6, .int x6), (7, .int x7)]) hx hb d_BH_wonPairs_69 hl (by decide) rfl (fun ls hl => ?_)
    refine lv_iload_n hx hb d_BH_wonPairs_71 rfl (lv_at hl 4 rfl) ?_
    refine lv_if_ne (tgt := 85) hx hb d_BH_wonPairs_72 (by decide) (fun cd => ?_) (fun cd => ?_)
    · have hf := if_e cd hf
      refine lv_iload hx hb d_BH_wonPairs_85 (lv_at hl 7 rfl) ?_
      refine lv_iload hx hb d_BH_wonPairs_87 (lv_at hl 0 rfl) ?_
      refine lv_icmp_ne (tgt := 95) hx hb d_BH_wonPairs_89 (by decide) (fun cd => ?_) (fun cd => ?_)
      · have hf := if_e cd hf
        obtain ⟨x_8, ex_8⟩ : ∃ y : Int32, y = (x7 + 1) := ⟨_, rfl⟩
        have hf := lt_e ex_8 hf
        refine lv_iinc (v := x_8) (lv' := [(7, .int x_8), (8, .int r_7), (0, .ref (q 0)), (1, .int x1), (2, .int x2), (3, .int x3), (4, .int x4), (5, .int x5), (6, .int x6)]) hx hb d_BH_wonPairs_95 hl (k := 8) rfl (by rw [ex_8]; rfl) (by decide) rfl (fun ls hl => ?_)
        refine lv_goto (tgt := 40) hx hb d_BH_wonPairs_98 (by decide) ?_
        exact hk40 x1 x2 x3 x4 x5 x6 x_8  _ _ _ hf w (lv_sub hl [2, 3, 4, 5, 6, 7, 8, 0] rfl)
      · have hf := it_e cd hf
        obtain ⟨x_9, ex_9⟩ : ∃ y : Int32, y = (x4 + 1) := ⟨_, rfl⟩
        have hf := lt_e ex_9 hf
        refine lv_iinc (v := x_9) (lv' := [(4, .int x_9), (8, .int r_7), (0, .ref (q 0)), (1, .int x1), (2, .int x2), (3, .int x3), (5, .int x5), (6, .int x6), (7, .int x7)]) hx hb d_BH_wonPairs_92 hl (k := 5) rfl (by rw [ex_9]; rfl) (by decide) rfl (fun ls hl => ?_)
        obtain ⟨x_10, ex_10⟩ : ∃ y : Int32, y = (x7 + 1) := ⟨_, rfl⟩
        have hf := lt_e ex_10 hf
        refine lv_iinc (v := x_10) (lv' := [(7, .int x_10), (4, .int x_9), (8, .int r_7), (0, .ref (q 0)), (1, .int x1), (2, .int x2), (3, .int x3), (5, .int x5), (6, .int x6)]) hx hb d_BH_wonPairs_95 hl (k := 8) rfl (by rw [ex_10]; rfl) (by decide) rfl (fun ls hl => ?_)
        refine lv_goto (tgt := 40) hx hb d_BH_wonPairs_98 (by decide) ?_
        exact hk40 x1 x2 x3 x_9 x5 x6 x_10  _ _ _ hf w (lv_sub hl [3, 4, 5, 6, 1, 7, 8, 0] rfl)
    · have hf := it_e cd hf
      refine lv_iload hx hb d_BH_wonPairs_75 (lv_at hl 7 rfl) ?_
      refine lv_iload hx hb d_BH_wonPairs_77 (lv_at hl 0 rfl) ?_
      refine lv_icmp_le (tgt := 95) hx hb d_BH_wonPairs_79 (by decide) (fun cd => ?_) (fun cd => ?_)
      · have hf := it_e cd hf
        obtain ⟨x_11, ex_11⟩ : ∃ y : Int32, y = (x7 + 1) := ⟨_, rfl⟩
        have hf := lt_e ex_11 hf
        refine lv_iinc (v := x_11) (lv' := [(7, .int x_11), (8, .int r_7), (0, .ref (q 0)), (1, .int x1), (2, .int x2), (3, .int x3), (4, .int x4), (5, .int x5), (6, .int x6)]) hx hb d_BH_wonPairs_95 hl (k := 8) rfl (by rw [ex_11]; rfl) (by decide) rfl (fun ls hl => ?_)
        refine lv_goto (tgt := 40) hx hb d_BH_wonPairs_98 (by decide) ?_
        exact hk40 x1 x2 x3 x4 x5 x6 x_11  _ _ _ hf w (lv_sub hl [2, 3, 4, 5, 6, 7, 8, 0] rfl)
      · have hf := if_e cd hf
        refine lv_goto (tgt := 92) hx hb d_BH_wonPairs_82 (by decide) ?_
        obtain ⟨x_12, ex_12⟩ : ∃ y : Int32, y = (x4 + 1) := ⟨_, rfl⟩
        have hf := lt_e ex_12 hf
        refine lv_iinc (v := x_12) (lv' := [(4, .int x_12), (8, .int r_7), (0, .ref (q 0)), (1, .int x1), (2, .int x2), (3, .int x3), (5, .int x5), (6, .int x6), (7, .int x7)]) hx hb d_BH_wonPairs_92 hl (k := 5) rfl (by rw [ex_12]; rfl) (by decide) rfl (fun ls hl => ?_)
        obtain ⟨x_13, ex_13⟩ : ∃ y : Int32, y = (x7 + 1) := ⟨_, rfl⟩
        have hf := lt_e ex_13 hf
        refine lv_iinc (v := x_13) (lv' := [(7, .int x_13), (4, .int x_12), (8, .int r_7), (0, .ref (q 0)), (1, .int x1), (2, .int x2), (3, .int x3), (5, .int x5), (6, .int x6)]) hx hb d_BH_wonPairs_95 hl (k := 8) rfl (by rw [ex_13]; rfl) (by decide) rfl (fun ls hl => ?_)
        refine lv_goto (tgt := 40) hx hb d_BH_wonPairs_98 (by decide) ?_
        exact hk40 x1 x2 x3 x_12 x5 x6 x_13  _ _ _ hf w (lv_sub hl [3, 4, 5, 6, 1, 7, 8, 0] rfl)
set_option maxHeartbeats 4000000 in
set_option maxRecDepth 20000 in
theorem t_BH_wonPairs_40 {r : Int32} {σ : St} (C : Cx g A p s m av meth c prog_1_method_41_code 9 "BellHammer" (some .int)) {k6 : Int32 → Int32 → Int32 → Int32 → Int32 → St → Option (Int32)} (hk6 : ∀ (x1 : Int32) (x2 : Int32) (x3 : Int32) (x4 : Int32) (x5 : Int32) (H : Heap) (locs : List Loc) (ls : Array Slot), k6 x1 x2 x3 x4 x5 σ = some r → Wd g (wX g q) A s σ H locs → lv_has ls 9 [(0, .ref (q 0)), (1, .int x1), (2, .int x2), (3, .int x3), (4, .int x4), (5, .int x5)] → WK p l e s m av below meth c 1 g (wX g q) A (some (.int r)) σ H locs (F0 m 6 ls []))  : ∀ (n : Nat) (x1 : Int32) (x2 : Int32) (x3 : Int32) (x4 : Int32) (x5 : Int32) (x6 : Int32) (x7 : Int32) (H : Heap) (locs : List Loc) (ls : Array Slot), f_BH_wonPairs_40  k6 n x1 x2 x3 x4 x5 x6 x7 σ = some r → Wd g (wX g q) A s σ H locs → lv_has ls 9 [(0, .ref (q 0)), (1, .int x1), (2, .int x2), (3, .int x3), (4, .int x4), (5, .int x5), (6, .int x6), (7, .int x7)] → WK p l e s m av below meth c 1 g (wX g q) A (some (.int r)) σ H locs (F0 m 40 ls []) := by
  intro n
  induction n with
  | zero => intro x1 x2 x3 x4 x5 x6 x7 H locs ls hf; exact absurd hf (by intro z; cases z)
  | succ n ih => intro x1 x2 x3 x4 x5 x6 x7 H locs ls hf w hl; exact t_BH_wonPairs_40b C hk6 ih hf w hl
set_option maxHeartbeats 4000000 in
set_option maxRecDepth 20000 in
theorem t_BH_wonPairs_6b {r : Int32} {σ : St} (C : Cx g A p s m av meth c prog_1_method_41_code 9 "BellHammer" (some .int)) {k6 : Int32 → Int32 → Int32 → Int32 → Int32 → St → Option (Int32)} (hk6 : ∀ (x1 : Int32) (x2 : Int32) (x3 : Int32) (x4 : Int32) (x5 : Int32) (H : Heap) (locs : List Loc) (ls : Array Slot), k6 x1 x2 x3 x4 x5 σ = some r → Wd g (wX g q) A s σ H locs → lv_has ls 9 [(0, .ref (q 0)), (1, .int x1), (2, .int x2), (3, .int x3), (4, .int x4), (5, .int x5)] → WK p l e s m av below meth c 1 g (wX g q) A (some (.int r)) σ H locs (F0 m 6 ls []))  {x1 : Int32} {x2 : Int32} {x3 : Int32} {x4 : Int32} {x5 : Int32} {H : Heap} {locs : List Loc} {ls : Array Slot} (hf : f_BH_wonPairs_6b  k6 x1 x2 x3 x4 x5 σ = some r) (w : Wd g (wX g q) A s σ H locs) (hl : lv_has ls 9 [(0, .ref (q 0)), (1, .int x1), (2, .int x2), (3, .int x3), (4, .int x4), (5, .int x5)]) : WK p l e s m av below meth c 1 g (wX g q) A (some (.int r)) σ H locs (F0 m 6 ls []) := by
  obtain ⟨hx, hb, hml, hown, hts, hK, hA, hZ, hlocks, hr, hN⟩ := id C
  unfold f_BH_wonPairs_6b at hf
  refine lv_iload hx hb d_BH_wonPairs_6 (lv_at hl 5 rfl) ?_
  refine lv_aload_n hx hb d_BH_wonPairs_8 rfl (lv_at hl 0 rfl) ?_
  refine xg_0_fair C w k513 d_BH_wonPairs_9 ?_
  refine lv_iload_n hx hb d_BH_wonPairs_12 rfl (lv_at hl 1 rfl) ?_
  refine lv_iconst (v := 1) hx hb d_BH_wonPairs_13 (by decide) ?_
  obtain ⟨r_2, h_1, hf⟩ := bp_e hf
  refine k_callV (As := [.int x1, .int 1]) (rest := [.int x5]) C w (c_Fair_trait (q := q) h_1) cv_Fair_trait k744 (xr_34 C w) (by decide) hl.1 rfl (Nat.le_of_ble_eq_true rfl) d_BH_wonPairs_14 (fun H locs w => ?_)
  show WK p l e s m av below meth c 1 g (wX g q) A (some (.int r)) σ H locs (F0 m 17 ls [.int r_2, .int x5])
  refine lv_icmp_gt (tgt := 107) hx hb d_BH_wonPairs_17 (by decide) (fun cd => ?_) (fun cd => ?_)
  · have hf := it_e cd hf
    refine lv_iload hx hb d_BH_wonPairs_107 (lv_at hl 4 rfl) ?_
    cases some_e hf
    exact k_iret C w d_BH_wonPairs_109
  · have hf := if_e cd hf
    refine lv_aload_n hx hb d_BH_wonPairs_20 rfl (lv_at hl 0 rfl) ?_
    refine xg_0_fair C w k513 d_BH_wonPairs_21 ?_
    refine lv_iload_n hx hb d_BH_wonPairs_24 rfl (lv_at hl 1 rfl) ?_
    refine lv_iconst (v := 0) hx hb d_BH_wonPairs_25 (by decide) ?_
    obtain ⟨r_4, h_3, hf⟩ := bp_e hf
    refine k_callV (As := [.int x1, .int 0]) (rest := []) C w (c_Fair_trait (q := q) h_3) cv_Fair_trait k744 (xr_34 C w) (by decide) hl.1 rfl (Nat.le_of_ble_eq_true rfl) d_BH_wonPairs_26 (fun H locs w => ?_)
    show WK p l e s m av below meth c 1 g (wX g q) A (some (.int r)) σ H locs (F0 m 29 ls [.int r_4])
    refine lv_iload hx hb d_BH_wonPairs_29 (lv_at hl 5 rfl) ?_
    refine lv_iconst (v := 0) hx hb d_BH_wonPairs_31 (by decide) ?_
    obtain ⟨r_6, h_5, hf⟩ := bp_e hf
    refine k_callS (As := [.int r_4, .int x5, .int 0]) (rest := []) C w (c_BH_rise (q := q) h_5) cv_BH_rise k795 (by decide) hl.1 rfl (Nat.le_of_ble_eq_true rfl) d_BH_wonPairs_32 (fun H locs w => ?_)
    show WK p l e s m av below meth c 1 g (wX g q) A (some (.int r)) σ H locs (F0 m 35 ls [.int r_6])
    refine lv_istore (lv' := [(6, .int r_6), (0, .ref (q 0)), (1, .int x1), (2, .int x2), (3, .int x3), (4, .int x4), (5, .int x5)]) hx hb d_BH_wonPairs_35 hl (by decide) rfl (fun ls hl => ?_)
    refine lv_iconst (v := 0) hx hb d_BH_wonPairs_37 (by decide) ?_
    refine lv_istore (lv' := [(7, .int 0), (6, .int r_6), (0, .ref (q 0)), (1, .int x1), (2, .int x2), (3, .int x3), (4, .int x4), (5, .int x5)]) hx hb d_BH_wonPairs_38 hl (by decide) rfl (fun ls hl => ?_)
    exact t_BH_wonPairs_40 C hk6 FU x1 x2 x3 x4 x5 r_6 0  _ _ _ hf w (lv_sub hl [2, 3, 4, 5, 6, 7, 1, 0] rfl)
set_option maxHeartbeats 4000000 in
set_option maxRecDepth 20000 in
theorem t_BH_wonPairs_6 {r : Int32} {σ : St} (C : Cx g A p s m av meth c prog_1_method_41_code 9 "BellHammer" (some .int))  : ∀ (n : Nat) (x1 : Int32) (x2 : Int32) (x3 : Int32) (x4 : Int32) (x5 : Int32) (H : Heap) (locs : List Loc) (ls : Array Slot), f_BH_wonPairs_6   n x1 x2 x3 x4 x5 σ = some r → Wd g (wX g q) A s σ H locs → lv_has ls 9 [(0, .ref (q 0)), (1, .int x1), (2, .int x2), (3, .int x3), (4, .int x4), (5, .int x5)] → WK p l e s m av below meth c 1 g (wX g q) A (some (.int r)) σ H locs (F0 m 6 ls []) := by
  intro n
  induction n with
  | zero => intro x1 x2 x3 x4 x5 H locs ls hf; exact absurd hf (by intro z; cases z)
  | succ n ih => intro x1 x2 x3 x4 x5 H locs ls hf w hl; exact t_BH_wonPairs_6b C  ih hf w hl
set_option maxHeartbeats 4000000 in
set_option maxRecDepth 20000 in
theorem c_BH_wonPairs {l : Launch} {g : GX} {q : Nat → Nat} {x1 : Int32} {x2 : Int32} {x3 : Int32}  {σ : St} {r : Int32} (hf : f_BH_wonPairs  x1 x2 x3 σ = some r) : KK l y_BH_wonPairs prog_1_method_41_code 9 (some .int) 1 g (wX g q) σ [.ref (q 0), .int x1, .int x2, .int x3] (some (.int r)) (wX g q) σ := by
  refine KK_of (plainFor_of_name (by decide)) (Nat.le_of_ble_eq_true rfl) (fun p e s m below meth c A ls C w hl => ?_)
  have hl : lv_has ls 9 [(0, .ref (q 0)), (1, .int x1), (2, .int x2), (3, .int x3)] := hl
  obtain ⟨hx, hb, hml, hown, hts, hK, hA, hZ, hlocks, hr, hN⟩ := id C
  unfold f_BH_wonPairs at hf
  refine lv_iconst (v := 0) hx hb d_BH_wonPairs_0 (by decide) ?_
  refine lv_istore (lv' := [(4, .int 0), (0, .ref (q 0)), (1, .int x1), (2, .int x2), (3, .int x3)]) hx hb d_BH_wonPairs_1 hl (by decide) rfl (fun ls hl => ?_)
  refine lv_iconst (v := 0) hx hb d_BH_wonPairs_3 (by decide) ?_
  refine lv_istore (lv' := [(5, .int 0), (4, .int 0), (0, .ref (q 0)), (1, .int x1), (2, .int x2), (3, .int x3)]) hx hb d_BH_wonPairs_4 hl (by decide) rfl (fun ls hl => ?_)
  exact t_BH_wonPairs_6 C  FU x1 x2 x3 0 0  _ _ _ hf w (lv_sub hl [2, 3, 4, 5, 1, 0] rfl)
def f_BH_bet_32 (x1 : Int32) (x2 : Int32) (x3 : Int32) (σ : St) : Option (Int32) :=
  bp (f_Fair_trait x1 1 σ) fun r_2 =>
  bp (f_Fair_trait x2 1 σ) fun r_4 =>
  lt (((r_2 + 1) * (r_4 + 1))) fun x_5 =>
  if 0 < x_5 then
    bp (f_BH_wonPairs x1 x2 x3 σ) fun r_7 =>
    gd (nz x_5) <|
    some ((1000 * r_7) / x_5)
  else
    some (-1)
def f_BH_bet (x1 : Int32) (x2 : Int32) (x3 : Int32) (σ : St) : Option (Int32) :=
  bp (f_BH_isTrier x1 σ) fun r_2 =>
  if r_2 = 0 then
    some (-1)
  else
    bp (f_BH_isTrier x2 σ) fun r_4 =>
    if r_4 = 0 then
      some (-1)
    else
      if x1 = x2 then
        some (-1)
      else
        if x3 = 0 then
          f_BH_bet_32 x1 x2 x3 σ
        else
          if x3 = 1 then
            f_BH_bet_32 x1 x2 x3 σ
          else
            some (-1)
set_option maxHeartbeats 4000000 in
set_option maxRecDepth 20000 in
theorem t_BH_bet_32 {r : Int32} {σ : St} (C : Cx g A p s m av meth c prog_1_method_18_code 5 "BellHammer" (some .int))  {x1 : Int32} {x2 : Int32} {x3 : Int32} {H : Heap} {locs : List Loc} {ls : Array Slot} (hf : f_BH_bet_32   x1 x2 x3 σ = some r) (w : Wd g (wX g q) A s σ H locs) (hl : lv_has ls 5 [(0, .ref (q 0)), (1, .int x1), (2, .int x2), (3, .int x3)]) : WK p l e s m av below meth c 2 g (wX g q) A (some (.int r)) σ H locs (F0 m 32 ls []) := by
  obtain ⟨hx, hb, hml, hown, hts, hK, hA, hZ, hlocks, hr, hN⟩ := id C
  unfold f_BH_bet_32 at hf
  refine lv_aload_n hx hb d_BH_bet_32 rfl (lv_at hl 0 rfl) ?_
  refine xg_0_fair C w k513 d_BH_bet_33 ?_
  refine lv_iload_n hx hb d_BH_bet_36 rfl (lv_at hl 1 rfl) ?_
  refine lv_iconst (v := 1) hx hb d_BH_bet_37 (by decide) ?_
  obtain ⟨r_2, h_1, hf⟩ := bp_e hf
  refine k_callV (As := [.int x1, .int 1]) (rest := []) C w (c_Fair_trait (q := q) h_1) cv_Fair_trait k744 (xr_34 C w) (by decide) hl.1 rfl (Nat.le_of_ble_eq_true rfl) d_BH_bet_38 (fun H locs w => ?_)
  show WK p l e s m av below meth c 2 g (wX g q) A (some (.int r)) σ H locs (F0 m 41 ls [.int r_2])
  refine lv_iconst (v := 1) hx hb d_BH_bet_41 (by decide) ?_
  refine lv_iadd hx hb d_BH_bet_42 ?_
  refine lv_aload_n hx hb d_BH_bet_43 rfl (lv_at hl 0 rfl) ?_
  refine xg_0_fair C w k513 d_BH_bet_44 ?_
  refine lv_iload_n hx hb d_BH_bet_47 rfl (lv_at hl 2 rfl) ?_
  refine lv_iconst (v := 1) hx hb d_BH_bet_48 (by decide) ?_
  obtain ⟨r_4, h_3, hf⟩ := bp_e hf
  refine k_callV (As := [.int x2, .int 1]) (rest := [.int (r_2 + 1)]) C w (c_Fair_trait (q := q) h_3) cv_Fair_trait k744 (xr_34 C w) (by decide) hl.1 rfl (Nat.le_of_ble_eq_true rfl) d_BH_bet_49 (fun H locs w => ?_)
  show WK p l e s m av below meth c 2 g (wX g q) A (some (.int r)) σ H locs (F0 m 52 ls [.int r_4, .int (r_2 + 1)])
  refine lv_iconst (v := 1) hx hb d_BH_bet_52 (by decide) ?_
  refine lv_iadd hx hb d_BH_bet_53 ?_
  refine lv_imul hx hb d_BH_bet_54 ?_
  refine lv_topi (fun x_5 ex_5 => ?_)
  have hf := lt_e ex_5 hf
  refine lv_istore (lv' := [(4, .int x_5), (0, .ref (q 0)), (1, .int x1), (2, .int x2), (3, .int x3)]) hx hb d_BH_bet_55 hl (by decide) rfl (fun ls hl => ?_)
  refine lv_iload hx hb d_BH_bet_57 (lv_at hl 0 rfl) ?_
  refine lv_if_gt (tgt := 64) hx hb d_BH_bet_59 (by decide) (fun cd => ?_) (fun cd => ?_)
  · have hf := it_e cd hf
    refine lv_sipush (v := 1000) hx hb d_BH_bet_64 (by decide) ?_
    refine lv_aload_n hx hb d_BH_bet_67 rfl (lv_at hl 1 rfl) ?_
    refine lv_iload_n hx hb d_BH_bet_68 rfl (lv_at hl 2 rfl) ?_
    refine lv_iload_n hx hb d_BH_bet_69 rfl (lv_at hl 3 rfl) ?_
    refine lv_iload_n hx hb d_BH_bet_70 rfl (lv_at hl 4 rfl) ?_
    obtain ⟨r_7, h_6, hf⟩ := bp_e hf
    refine k_callV (As := [.int x1, .int x2, .int x3]) (rest := [.int 1000]) C w (c_BH_wonPairs (q := q) h_6) cv_BH_wonPairs k936 (xr_0 C w) (by decide) hl.1 rfl (Nat.le_of_ble_eq_true rfl) d_BH_bet_71 (fun H locs w => ?_)
    show WK p l e s m av below meth c 2 g (wX g q) A (some (.int r)) σ H locs (F0 m 74 ls [.int r_7, .int 1000])
    refine lv_imul hx hb d_BH_bet_74 ?_
    refine lv_iload hx hb d_BH_bet_75 (lv_at hl 0 rfl) ?_
    obtain ⟨g_8, hf⟩ := gd_e hf
    refine lv_idiv hx hb d_BH_bet_77 (nz_e g_8) ?_
    cases some_e hf
    exact k_iret C w d_BH_bet_78
  · have hf := if_e cd hf
    refine lv_iconst (v := (-1)) hx hb d_BH_bet_62 (by decide) ?_
    cases some_e hf
    exact k_iret C w d_BH_bet_63
set_option maxHeartbeats 4000000 in
set_option maxRecDepth 20000 in
theorem c_BH_bet {l : Launch} {g : GX} {q : Nat → Nat} {x1 : Int32} {x2 : Int32} {x3 : Int32}  {σ : St} {r : Int32} (hf : f_BH_bet  x1 x2 x3 σ = some r) : KK l y_BH_bet prog_1_method_18_code 5 (some .int) 2 g (wX g q) σ [.ref (q 0), .int x1, .int x2, .int x3] (some (.int r)) (wX g q) σ := by
  refine KK_of (plainFor_of_name (by decide)) (Nat.le_of_ble_eq_true rfl) (fun p e s m below meth c A ls C w hl => ?_)
  have hl : lv_has ls 5 [(0, .ref (q 0)), (1, .int x1), (2, .int x2), (3, .int x3)] := hl
  obtain ⟨hx, hb, hml, hown, hts, hK, hA, hZ, hlocks, hr, hN⟩ := id C
  unfold f_BH_bet at hf
  refine lv_aload_n hx hb d_BH_bet_0 rfl (lv_at hl 0 rfl) ?_
  refine lv_iload_n hx hb d_BH_bet_1 rfl (lv_at hl 1 rfl) ?_
  obtain ⟨r_2, h_1, hf⟩ := bp_e hf
  refine k_callV (As := [.int x1]) (rest := []) C w (c_BH_isTrier (q := q) h_1) cv_BH_isTrier k736 (xr_0 C w) (by decide) hl.1 rfl (Nat.le_of_ble_eq_true rfl) d_BH_bet_2 (fun H locs w => ?_)
  show WK p l e s m _ below meth c 2 g (wX g q) A (some (.int r)) σ H locs (F0 m 5 ls [.int r_2])
  refine lv_if_eq (tgt := 30) hx hb d_BH_bet_5 (by decide) (fun cd => ?_) (fun cd => ?_)
  · have hf := it_e cd hf
    refine lv_iconst (v := (-1)) hx hb d_BH_bet_30 (by decide) ?_
    cases some_e hf
    exact k_iret C w d_BH_bet_31
  · have hf := if_e cd hf
    refine lv_aload_n hx hb d_BH_bet_8 rfl (lv_at hl 0 rfl) ?_
    refine lv_iload_n hx hb d_BH_bet_9 rfl (lv_at hl 2 rfl) ?_
    obtain ⟨r_4, h_3, hf⟩ := bp_e hf
    refine k_callV (As := [.int x2]) (rest := []) C w (c_BH_isTrier (q := q) h_3) cv_BH_isTrier k736 (xr_0 C w) (by decide) hl.1 rfl (Nat.le_of_ble_eq_true rfl) d_BH_bet_10 (fun H locs w => ?_)
    show WK p l e s m _ below meth c 2 g (wX g q) A (some (.int r)) σ H locs (F0 m 13 ls [.int r_4])
    refine lv_if_eq (tgt := 30) hx hb d_BH_bet_13 (by decide) (fun cd => ?_) (fun cd => ?_)
    · have hf := it_e cd hf
      refine lv_iconst (v := (-1)) hx hb d_BH_bet_30 (by decide) ?_
      cases some_e hf
      exact k_iret C w d_BH_bet_31
    · have hf := if_e cd hf
      refine lv_iload_n hx hb d_BH_bet_16 rfl (lv_at hl 1 rfl) ?_
      refine lv_iload_n hx hb d_BH_bet_17 rfl (lv_at hl 2 rfl) ?_
      refine lv_icmp_eq (tgt := 30) hx hb d_BH_bet_18 (by decide) (fun cd => ?_) (fun cd => ?_)
      · have hf := it_e cd hf
        refine lv_iconst (v := (-1)) hx hb d_BH_bet_30 (by decide) ?_
        cases some_e hf
        exact k_iret C w d_BH_bet_31
      · have hf := if_e cd hf
        refine lv_iload_n hx hb d_BH_bet_21 rfl (lv_at hl 3 rfl) ?_
        refine lv_if_eq (tgt := 32) hx hb d_BH_bet_22 (by decide) (fun cd => ?_) (fun cd => ?_)
        · have hf := it_e cd hf
          exact t_BH_bet_32 C  hf w (lv_sub hl [0, 1, 2, 3] rfl)
        · have hf := if_e cd hf
          refine lv_iload_n hx hb d_BH_bet_25 rfl (lv_at hl 3 rfl) ?_
          refine lv_iconst (v := 1) hx hb d_BH_bet_26 (by decide) ?_
          refine lv_icmp_eq (tgt := 32) hx hb d_BH_bet_27 (by decide) (fun cd => ?_) (fun cd => ?_)
          · have hf := it_e cd hf
            exact t_BH_bet_32 C  hf w (lv_sub hl [0, 1, 2, 3] rfl)
          · have hf := if_e cd hf
            refine lv_iconst (v := (-1)) hx hb d_BH_bet_30 (by decide) ?_
            cases some_e hf
            exact k_iret C w d_BH_bet_31
def f_Book_addAct_60 (x1 : Int32) (x2 : Int32) (σ : St) : Option (St) :=
  gd (inB (sI σ 23) 20) <|
  lt (uA σ 10 (upd (sA σ 10) (sI σ 23).toNatClampNeg x1)) fun σ_2 =>
  gd (inB (sI σ_2 23) 20) <|
  lt (uA σ_2 11 (upd (sA σ_2 11) (sI σ_2 23).toNatClampNeg x2)) fun σ_4 =>
  gd (inB (sI σ_4 23) 20) <|
  lt (uA σ_4 12 (upd (sA σ_4 12) (sI σ_4 23).toNatClampNeg 0)) fun σ_6 =>
  lt (uI σ_6 23 ((sI σ_6 23) + 1)) fun σ_7 =>
  some σ_7
def f_Book_addAct (x1 : Int32) (x2 : Int32) (σ : St) : Option (St) :=
  if (sI σ 23) < 20 then
    f_Book_addAct_60 x1 x2 σ
  else
    lt (uA σ 10 (va_cpy (sA σ 10) (sA σ 10) (1 : Int32).toNatClampNeg (0 : Int32).toNatClampNeg (19 : Int32).toNatClampNeg)) fun σ_1 =>
    lt (uA σ_1 11 (va_cpy (sA σ_1 11) (sA σ_1 11) (1 : Int32).toNatClampNeg (0 : Int32).toNatClampNeg (19 : Int32).toNatClampNeg)) fun σ_2 =>
    lt (uA σ_2 12 (va_cpy (sA σ_2 12) (sA σ_2 12) (1 : Int32).toNatClampNeg (0 : Int32).toNatClampNeg (19 : Int32).toNatClampNeg)) fun σ_3 =>
    lt (uI σ_3 23 19) fun σ_4 =>
    f_Book_addAct_60 x1 x2 σ_4
set_option maxHeartbeats 4000000 in
set_option maxRecDepth 20000 in
theorem t_Book_addAct_60 {σ2 : St} (C : Cx g A p s m av meth c prog_2_method_3_code 3 "BellHammer$Book" none)  {x1 : Int32} {x2 : Int32} {σ : St} {H : Heap} {locs : List Loc} {ls : Array Slot} (hf : f_Book_addAct_60   x1 x2 σ = some σ2) (w : Wd g (wX g q) A s σ H locs) (hl : lv_has ls 3 [(0, .ref (q 14)), (1, .int x1), (2, .int x2)]) : WK p l e s m av below meth c 1 g (wX g q) A none σ2 H locs (F0 m 60 ls []) := by
  obtain ⟨hx, hb, hml, hown, hts, hK, hA, hZ, hlocks, hr, hN⟩ := id C
  unfold f_Book_addAct_60 at hf
  refine lv_aload_n hx hb d_Book_addAct_60 rfl (lv_at hl 0 rfl) ?_
  refine xg_14_actKind C w k353 d_Book_addAct_61 ?_
  refine lv_aload_n hx hb d_Book_addAct_64 rfl (lv_at hl 0 rfl) ?_
  refine xg_14_acts C w k351 d_Book_addAct_65 ?_
  refine lv_iload_n hx hb d_Book_addAct_68 rfl (lv_at hl 1 rfl) ?_
  obtain ⟨g_1, hf⟩ := gd_e hf
  refine xs_16 C w g_1 d_Book_addAct_69 (fun σ_2 H locs eσ_2 w => ?_)
  have hf := lt_e eσ_2 hf
  refine lv_aload_n hx hb d_Book_addAct_70 rfl (lv_at hl 0 rfl) ?_
  refine xg_14_actOld C w k354 d_Book_addAct_71 ?_
  refine lv_aload_n hx hb d_Book_addAct_74 rfl (lv_at hl 0 rfl) ?_
  refine xg_14_acts C w k351 d_Book_addAct_75 ?_
  refine lv_iload_n hx hb d_Book_addAct_78 rfl (lv_at hl 2 rfl) ?_
  obtain ⟨g_3, hf⟩ := gd_e hf
  refine xs_17 C w g_3 d_Book_addAct_79 (fun σ_4 H locs eσ_4 w => ?_)
  have hf := lt_e eσ_4 hf
  refine lv_aload_n hx hb d_Book_addAct_80 rfl (lv_at hl 0 rfl) ?_
  refine xg_14_actBlows C w k355 d_Book_addAct_81 ?_
  refine lv_aload_n hx hb d_Book_addAct_84 rfl (lv_at hl 0 rfl) ?_
  refine xg_14_acts C w k351 d_Book_addAct_85 ?_
  refine lv_iconst (v := 0) hx hb d_Book_addAct_88 (by decide) ?_
  obtain ⟨g_5, hf⟩ := gd_e hf
  refine xs_18 C w g_5 d_Book_addAct_89 (fun σ_6 H locs eσ_6 w => ?_)
  have hf := lt_e eσ_6 hf
  refine lv_aload_n hx hb d_Book_addAct_90 rfl (lv_at hl 0 rfl) ?_
  refine lv_dup hx hb d_Book_addAct_91 rfl ?_
  refine xg_14_acts C w k351 d_Book_addAct_92 ?_
  refine lv_iconst (v := 1) hx hb d_Book_addAct_95 (by decide) ?_
  refine lv_iadd hx hb d_Book_addAct_96 ?_
  refine xp_14_acts C w k351 d_Book_addAct_97 (fun σ_7 H locs eσ_7 w => ?_)
  have hf := lt_e eσ_7 hf
  cases some_e hf
  exact k_vret C w d_Book_addAct_100
set_option maxHeartbeats 4000000 in
set_option maxRecDepth 20000 in
theorem c_Book_addAct {l : Launch} {g : GX} {q : Nat → Nat} {x1 : Int32} {x2 : Int32}  {σ : St} {σ2 : St} (hf : f_Book_addAct  x1 x2 σ = some σ2) : KK l y_Book_addAct prog_2_method_3_code 3 none 1 g (wX g q) σ [.ref (q 14), .int x1, .int x2] none (wX g q) σ2 := by
  refine KK_of (plainFor_of_name (by decide)) (Nat.le_of_ble_eq_true rfl) (fun p e s m below meth c A ls C w hl => ?_)
  have hl : lv_has ls 3 [(0, .ref (q 14)), (1, .int x1), (2, .int x2)] := hl
  obtain ⟨hx, hb, hml, hown, hts, hK, hA, hZ, hlocks, hr, hN⟩ := id C
  unfold f_Book_addAct at hf
  refine lv_aload_n hx hb d_Book_addAct_0 rfl (lv_at hl 0 rfl) ?_
  refine xg_14_acts C w k351 d_Book_addAct_1 ?_
  refine lv_bipush (v := 20) hx hb d_Book_addAct_4 (by decide) ?_
  refine lv_icmp_lt (tgt := 60) hx hb d_Book_addAct_6 (by decide) (fun cd => ?_) (fun cd => ?_)
  · have hf := it_e cd hf
    exact t_Book_addAct_60 C  hf w (lv_sub hl [0, 1, 2] rfl)
  · have hf := if_e cd hf
    refine lv_aload_n hx hb d_Book_addAct_9 rfl (lv_at hl 0 rfl) ?_
    refine xg_14_actKind C w k353 d_Book_addAct_10 ?_
    refine lv_iconst (v := 1) hx hb d_Book_addAct_13 (by decide) ?_
    refine lv_aload_n hx hb d_Book_addAct_14 rfl (lv_at hl 0 rfl) ?_
    refine xg_14_actKind C w k353 d_Book_addAct_15 ?_
    refine lv_iconst (v := 0) hx hb d_Book_addAct_18 (by decide) ?_
    refine lv_bipush (v := 19) hx hb d_Book_addAct_19 (by decide) ?_
    refine xc_16_16 C w hl.1 (by omega) (Nat.le_of_ble_eq_true rfl) (by decide) (by decide) (by decide) (by decide) (by decide) k336 d_Book_addAct_21 (fun σ_1 H locs eσ_1 w => ?_)
    have hf := lt_e eσ_1 hf
    refine lv_aload_n hx hb d_Book_addAct_24 rfl (lv_at hl 0 rfl) ?_
    refine xg_14_actOld C w k354 d_Book_addAct_25 ?_
    refine lv_iconst (v := 1) hx hb d_Book_addAct_28 (by decide) ?_
    refine lv_aload_n hx hb d_Book_addAct_29 rfl (lv_at hl 0 rfl) ?_
    refine xg_14_actOld C w k354 d_Book_addAct_30 ?_
    refine lv_iconst (v := 0) hx hb d_Book_addAct_33 (by decide) ?_
    refine lv_bipush (v := 19) hx hb d_Book_addAct_34 (by decide) ?_
    refine xc_17_17 C w hl.1 (by omega) (Nat.le_of_ble_eq_true rfl) (by decide) (by decide) (by decide) (by decide) (by decide) k336 d_Book_addAct_36 (fun σ_2 H locs eσ_2 w => ?_)
    have hf := lt_e eσ_2 hf
    refine lv_aload_n hx hb d_Book_addAct_39 rfl (lv_at hl 0 rfl) ?_
    refine xg_14_actBlows C w k355 d_Book_addAct_40 ?_
    refine lv_iconst (v := 1) hx hb d_Book_addAct_43 (by decide) ?_
    refine lv_aload_n hx hb d_Book_addAct_44 rfl (lv_at hl 0 rfl) ?_
    refine xg_14_actBlows C w k355 d_Book_addAct_45 ?_
    refine lv_iconst (v := 0) hx hb d_Book_addAct_48 (by decide) ?_
    refine lv_bipush (v := 19) hx hb d_Book_addAct_49 (by decide) ?_
    refine xc_18_18 C w hl.1 (by omega) (Nat.le_of_ble_eq_true rfl) (by decide) (by decide) (by decide) (by decide) (by decide) k336 d_Book_addAct_51 (fun σ_3 H locs eσ_3 w => ?_)
    have hf := lt_e eσ_3 hf
    refine lv_aload_n hx hb d_Book_addAct_54 rfl (lv_at hl 0 rfl) ?_
    refine lv_bipush (v := 19) hx hb d_Book_addAct_55 (by decide) ?_
    refine xp_14_acts C w k351 d_Book_addAct_57 (fun σ_4 H locs eσ_4 w => ?_)
    have hf := lt_e eσ_4 hf
    exact t_Book_addAct_60 C  hf w (lv_sub hl [0, 1, 2] rfl)
def f_Book_startNight (x1 : Int32) (σ : St) : Option (St) :=
  bp (f_Book_addAct 4 (sI σ 18) σ) fun σ_2 =>
  lt (uI σ_2 17 ((sI σ_2 17) + 1)) fun σ_3 =>
  lt (uI σ_3 20 x1) fun σ_4 =>
  lt (uI σ_4 21 0) fun σ_5 =>
  some σ_5
set_option maxHeartbeats 4000000 in
set_option maxRecDepth 20000 in
theorem c_Book_startNight {l : Launch} {g : GX} {q : Nat → Nat} {x1 : Int32}  {σ : St} {σ2 : St} (hf : f_Book_startNight  x1 σ = some σ2) : KK l y_Book_startNight prog_2_method_7_code 2 none 2 g (wX g q) σ [.ref (q 14), .int x1] none (wX g q) σ2 := by
  refine KK_of (plainFor_of_name (by decide)) (Nat.le_of_ble_eq_true rfl) (fun p e s m below meth c A ls C w hl => ?_)
  have hl : lv_has ls 2 [(0, .ref (q 14)), (1, .int x1)] := hl
  obtain ⟨hx, hb, hml, hown, hts, hK, hA, hZ, hlocks, hr, hN⟩ := id C
  unfold f_Book_startNight at hf
  refine lv_aload_n hx hb d_Book_startNight_0 rfl (lv_at hl 0 rfl) ?_
  refine lv_iconst (v := 4) hx hb d_Book_startNight_1 (by decide) ?_
  refine lv_aload_n hx hb d_Book_startNight_2 rfl (lv_at hl 0 rfl) ?_
  refine xg_14_takings C w k339 d_Book_startNight_3 ?_
  obtain ⟨σ_2, h_1, hf⟩ := bp_e hf
  refine k_callV (As := [.int 4, .int (sI σ 18)]) (rest := []) C w (c_Book_addAct (q := q) h_1) cv_Book_addAct k948 (xr_14 C w) (by decide) hl.1 rfl (Nat.le_of_ble_eq_true rfl) d_Book_startNight_6 (fun H locs w => ?_)
  show WK p l e s m _ below meth c 2 g (wX g q) A none σ2 H locs (F0 m 9 ls [])
  refine lv_aload_n hx hb d_Book_startNight_9 rfl (lv_at hl 0 rfl) ?_
  refine lv_dup hx hb d_Book_startNight_10 rfl ?_
  refine xg_14_nights C w k337 d_Book_startNight_11 ?_
  refine lv_iconst (v := 1) hx hb d_Book_startNight_14 (by decide) ?_
  refine lv_iadd hx hb d_Book_startNight_15 ?_
  refine xp_14_nights C w k337 d_Book_startNight_16 (fun σ_3 H locs eσ_3 w => ?_)
  have hf := lt_e eσ_3 hf
  refine lv_aload_n hx hb d_Book_startNight_19 rfl (lv_at hl 0 rfl) ?_
  refine lv_iload_n hx hb d_Book_startNight_20 rfl (lv_at hl 1 rfl) ?_
  refine xp_14_crowd C w k345 d_Book_startNight_21 (fun σ_4 H locs eσ_4 w => ?_)
  have hf := lt_e eσ_4 hf
  refine lv_aload_n hx hb d_Book_startNight_24 rfl (lv_at hl 0 rfl) ?_
  refine lv_iconst (v := 0) hx hb d_Book_startNight_25 (by decide) ?_
  refine xp_14_rings C w k347 d_Book_startNight_26 (fun σ_5 H locs eσ_5 w => ?_)
  have hf := lt_e eσ_5 hf
  cases some_e hf
  exact k_vret C w d_Book_startNight_29
def f_Turn_coinsBehind_2 (x1 : Int32) (σ : St) : Option (Int32) :=
  some ((sI σ 28) - (x1 * (sI σ 33)))
set_option maxHeartbeats 4000000 in
set_option maxRecDepth 20000 in
theorem c_Turn_coinsBehind_2 {l : Launch} {g : GX} {q : Nat → Nat} {x1 : Int32}  {σ : St} {r : Int32} (hf : f_Turn_coinsBehind_2  x1 σ = some r) : KK l y_Turn_coinsBehind prog_10_method_3_code 2 (some .int) 0 g (wX g q) σ [.ref (q 23), .int x1] (some (.int r)) (wX g q) σ := by
  refine KK_of (plainFor_of_name (by decide)) (Nat.le_of_ble_eq_true rfl) (fun p e s m below meth c A ls C w hl => ?_)
  have hl : lv_has ls 2 [(0, .ref (q 23)), (1, .int x1)] := hl
  obtain ⟨hx, hb, hml, hown, hts, hK, hA, hZ, hlocks, hr, hN⟩ := id C
  unfold f_Turn_coinsBehind_2 at hf
  refine lv_aload_n hx hb d_Turn_coinsBehind_0 rfl (lv_at hl 0 rfl) ?_
  refine xg_23_coins C w k410 d_Turn_coinsBehind_1 ?_
  refine lv_iload_n hx hb d_Turn_coinsBehind_4 rfl (lv_at hl 1 rfl) ?_
  refine lv_aload_n hx hb d_Turn_coinsBehind_5 rfl (lv_at hl 0 rfl) ?_
  refine xg_23_price C w k419 d_Turn_coinsBehind_6 ?_
  refine lv_imul hx hb d_Turn_coinsBehind_9 ?_
  refine lv_isub hx hb d_Turn_coinsBehind_10 ?_
  cases some_e hf
  exact k_iret C w d_Turn_coinsBehind_11
def f_Turn_isRing_2 (x1 : Int32) (σ : St) : Option (Int32) :=
  if x1 < (sI σ 31) then
    some 0
  else
    some 1
set_option maxHeartbeats 4000000 in
set_option maxRecDepth 20000 in
theorem c_Turn_isRing_2 {l : Launch} {g : GX} {q : Nat → Nat} {x1 : Int32}  {σ : St} {r : Int32} (hf : f_Turn_isRing_2  x1 σ = some r) : KK l y_Turn_isRing prog_10_method_6_code 2 (some .boolean) 0 g (wX g q) σ [.ref (q 23), .int x1] (some (.int r)) (wX g q) σ := by
  refine KK_of (plainFor_of_name (by decide)) (Nat.le_of_ble_eq_true rfl) (fun p e s m below meth c A ls C w hl => ?_)
  have hl : lv_has ls 2 [(0, .ref (q 23)), (1, .int x1)] := hl
  obtain ⟨hx, hb, hml, hown, hts, hK, hA, hZ, hlocks, hr, hN⟩ := id C
  unfold f_Turn_isRing_2 at hf
  refine lv_iload_n hx hb d_Turn_isRing_0 rfl (lv_at hl 1 rfl) ?_
  refine lv_aload_n hx hb d_Turn_isRing_1 rfl (lv_at hl 0 rfl) ?_
  refine xg_23_bell C w k415 d_Turn_isRing_2 ?_
  refine lv_icmp_lt (tgt := 12) hx hb d_Turn_isRing_5 (by decide) (fun cd => ?_) (fun cd => ?_)
  · have hf := it_e cd hf
    refine lv_iconst (v := 0) hx hb d_Turn_isRing_12 (by decide) ?_
    cases some_e hf
    exact k_zret C w (by decide) d_Turn_isRing_13
  · have hf := if_e cd hf
    refine lv_iconst (v := 1) hx hb d_Turn_isRing_8 (by decide) ?_
    refine lv_goto (tgt := 13) hx hb d_Turn_isRing_9 (by decide) ?_
    cases some_e hf
    exact k_zret C w (by decide) d_Turn_isRing_13
def f_Turn_goesOn_2 (x1 : Int32) (x2 : Int32) (σ : St) : Option (Int32) :=
  if (sI σ 34) ≤ x1 then
    some 0
  else
    bp (f_Turn_coinsBehind_2 x1 σ) fun r_2 =>
    if (sI σ 33) ≤ r_2 then
      if x1 = 0 then
        some 1
      else
        bp (f_Turn_isRing_2 x2 σ) fun r_4 =>
        if r_4 = 0 then
          if (sI σ 29) < ((sI σ 31) - x2) then
            some 0
          else
            some 1
        else
          some 0
    else
      some 0
set_option maxHeartbeats 4000000 in
set_option maxRecDepth 20000 in
theorem c_Turn_goesOn_2 {l : Launch} {g : GX} {q : Nat → Nat} {x1 : Int32} {x2 : Int32}  {σ : St} {r : Int32} (hf : f_Turn_goesOn_2  x1 x2 σ = some r) : KK l y_Turn_goesOn prog_10_method_4_code 3 (some .boolean) 1 g (wX g q) σ [.ref (q 23), .int x1, .int x2] (some (.int r)) (wX g q) σ := by
  refine KK_of (plainFor_of_name (by decide)) (Nat.le_of_ble_eq_true rfl) (fun p e s m below meth c A ls C w hl => ?_)
  have hl : lv_has ls 3 [(0, .ref (q 23)), (1, .int x1), (2, .int x2)] := hl
  obtain ⟨hx, hb, hml, hown, hts, hK, hA, hZ, hlocks, hr, hN⟩ := id C
  unfold f_Turn_goesOn_2 at hf
  refine lv_iload_n hx hb d_Turn_goesOn_0 rfl (lv_at hl 1 rfl) ?_
  refine lv_aload_n hx hb d_Turn_goesOn_1 rfl (lv_at hl 0 rfl) ?_
  refine xg_23_tries C w k420 d_Turn_goesOn_2 ?_
  refine lv_icmp_ge (tgt := 20) hx hb d_Turn_goesOn_5 (by decide) (fun cd => ?_) (fun cd => ?_)
  · have hf := it_e cd hf
    refine lv_iconst (v := 0) hx hb d_Turn_goesOn_20 (by decide) ?_
    cases some_e hf
    exact k_zret C w (by decide) d_Turn_goesOn_21
  · have hf := if_e cd hf
    refine lv_aload_n hx hb d_Turn_goesOn_8 rfl (lv_at hl 0 rfl) ?_
    refine lv_iload_n hx hb d_Turn_goesOn_9 rfl (lv_at hl 1 rfl) ?_
    obtain ⟨r_2, h_1, hf⟩ := bp_e hf
    refine k_callV (As := [.int x1]) (rest := []) C w (c_Turn_coinsBehind_2 (q := q) h_1) cv_Turn_coinsBehind k854 (xr_23 C w) (by decide) hl.1 rfl (Nat.le_of_ble_eq_true rfl) d_Turn_goesOn_10 (fun H locs w => ?_)
    show WK p l e s m _ below meth c 1 g (wX g q) A (some (.int r)) σ H locs (F0 m 13 ls [.int r_2])
    refine lv_aload_n hx hb d_Turn_goesOn_13 rfl (lv_at hl 0 rfl) ?_
    refine xg_23_price C w k419 d_Turn_goesOn_14 ?_
    refine lv_icmp_ge (tgt := 22) hx hb d_Turn_goesOn_17 (by decide) (fun cd => ?_) (fun cd => ?_)
    · have hf := it_e cd hf
      refine lv_iload_n hx hb d_Turn_goesOn_22 rfl (lv_at hl 1 rfl) ?_
      refine lv_if_eq (tgt := 47) hx hb d_Turn_goesOn_23 (by decide) (fun cd => ?_) (fun cd => ?_)
      · have hf := it_e cd hf
        refine lv_iconst (v := 1) hx hb d_Turn_goesOn_47 (by decide) ?_
        refine lv_goto (tgt := 52) hx hb d_Turn_goesOn_48 (by decide) ?_
        cases some_e hf
        exact k_zret C w (by decide) d_Turn_goesOn_52
      · have hf := if_e cd hf
        refine lv_aload_n hx hb d_Turn_goesOn_26 rfl (lv_at hl 0 rfl) ?_
        refine lv_iload_n hx hb d_Turn_goesOn_27 rfl (lv_at hl 2 rfl) ?_
        obtain ⟨r_4, h_3, hf⟩ := bp_e hf
        refine k_callV (As := [.int x2]) (rest := []) C w (c_Turn_isRing_2 (q := q) h_3) cv_Turn_isRing k858 (xr_23 C w) (by decide) hl.1 rfl (Nat.le_of_ble_eq_true rfl) d_Turn_goesOn_28 (fun H locs w => ?_)
        show WK p l e s m _ below meth c 1 g (wX g q) A (some (.int r)) σ H locs (F0 m 31 ls [.int r_4])
        refine lv_if_ne (tgt := 51) hx hb d_Turn_goesOn_31 (by decide) (fun cd => ?_) (fun cd => ?_)
        · have hf := if_e cd hf
          refine lv_iconst (v := 0) hx hb d_Turn_goesOn_51 (by decide) ?_
          cases some_e hf
          exact k_zret C w (by decide) d_Turn_goesOn_52
        · have hf := it_e cd hf
          refine lv_aload_n hx hb d_Turn_goesOn_34 rfl (lv_at hl 0 rfl) ?_
          refine xg_23_bell C w k415 d_Turn_goesOn_35 ?_
          refine lv_iload_n hx hb d_Turn_goesOn_38 rfl (lv_at hl 2 rfl) ?_
          refine lv_isub hx hb d_Turn_goesOn_39 ?_
          refine lv_aload_n hx hb d_Turn_goesOn_40 rfl (lv_at hl 0 rfl) ?_
          refine xg_23_stays C w k411 d_Turn_goesOn_41 ?_
          refine lv_icmp_gt (tgt := 51) hx hb d_Turn_goesOn_44 (by decide) (fun cd => ?_) (fun cd => ?_)
          · have hf := it_e cd hf
            refine lv_iconst (v := 0) hx hb d_Turn_goesOn_51 (by decide) ?_
            cases some_e hf
            exact k_zret C w (by decide) d_Turn_goesOn_52
          · have hf := if_e cd hf
            refine lv_iconst (v := 1) hx hb d_Turn_goesOn_47 (by decide) ?_
            refine lv_goto (tgt := 52) hx hb d_Turn_goesOn_48 (by decide) ?_
            cases some_e hf
            exact k_zret C w (by decide) d_Turn_goesOn_52
    · have hf := if_e cd hf
      refine lv_iconst (v := 0) hx hb d_Turn_goesOn_20 (by decide) ?_
      cases some_e hf
      exact k_zret C w (by decide) d_Turn_goesOn_21
def f_Book_draw (x1 : Int32) (σ : St) : Option (Int32 × St) :=
  lt (uI σ 22 ((((1103515245 * ((sI σ 22)).toInt64) + 12345) &&& 2147483647)).toInt32) fun σ_1 =>
  if 0 < x1 then
    gd (nz x1) <|
    some ((iR ((sI σ_1 22) / 64) x1), σ_1)
  else
    some (0, σ_1)
set_option maxHeartbeats 4000000 in
set_option maxRecDepth 20000 in
theorem c_Book_draw {l : Launch} {g : GX} {q : Nat → Nat} {x1 : Int32}  {σ : St} {r : Int32} {σ2 : St} (hf : f_Book_draw  x1 σ = some (r, σ2)) : KK l y_Book_draw prog_2_method_12_code 2 (some .int) 0 g (wX g q) σ [.ref (q 14), .int x1] (some (.int r)) (wX g q) σ2 := by
  refine KK_of (plainFor_of_name (by decide)) (Nat.le_of_ble_eq_true rfl) (fun p e s m below meth c A ls C w hl => ?_)
  have hl : lv_has ls 2 [(0, .ref (q 14)), (1, .int x1)] := hl
  obtain ⟨hx, hb, hml, hown, hts, hK, hA, hZ, hlocks, hr, hN⟩ := id C
  unfold f_Book_draw at hf
  refine lv_aload_n hx hb d_Book_draw_0 rfl (lv_at hl 0 rfl) ?_
  refine lv_ldc2 (v := 1103515245) hx hb hown (hts _ k962) d_Book_draw_1 ?_
  refine lv_aload_n hx hb d_Book_draw_4 rfl (lv_at hl 0 rfl) ?_
  refine xg_14_seed C w k349 d_Book_draw_5 ?_
  refine lv_i2l hx hb d_Book_draw_8 rfl ?_
  refine lv_lmul hx hb d_Book_draw_9 ?_
  refine lv_ldc2 (v := 12345) hx hb hown (hts _ k963) d_Book_draw_10 ?_
  refine lv_ladd hx hb d_Book_draw_13 ?_
  refine lv_ldc2 (v := 2147483647) hx hb hown (hts _ k964) d_Book_draw_14 ?_
  refine lv_land hx hb d_Book_draw_17 ?_
  refine lv_l2i hx hb d_Book_draw_18 rfl ?_
  refine xp_14_seed C w k349 d_Book_draw_19 (fun σ_1 H locs eσ_1 w => ?_)
  have hf := lt_e eσ_1 hf
  refine lv_iload_n hx hb d_Book_draw_22 rfl (lv_at hl 1 rfl) ?_
  refine lv_if_gt (tgt := 30) hx hb d_Book_draw_23 (by decide) (fun cd => ?_) (fun cd => ?_)
  · have hf := it_e cd hf
    refine lv_aload_n hx hb d_Book_draw_30 rfl (lv_at hl 0 rfl) ?_
    refine xg_14_seed C w k349 d_Book_draw_31 ?_
    refine lv_bipush (v := 64) hx hb d_Book_draw_34 (by decide) ?_
    refine lv_idiv hx hb d_Book_draw_36 (by decide) ?_
    refine lv_iload_n hx hb d_Book_draw_37 rfl (lv_at hl 1 rfl) ?_
    obtain ⟨g_2, hf⟩ := gd_e hf
    refine r_irem hx hb d_Book_draw_38 (nz_e g_2) ?_
    obtain ⟨rfl, rfl⟩ := some2_e hf
    exact k_iret C w d_Book_draw_39
  · have hf := if_e cd hf
    refine lv_iconst (v := 0) hx hb d_Book_draw_26 (by decide) ?_
    refine lv_goto (tgt := 39) hx hb d_Book_draw_27 (by decide) ?_
    obtain ⟨rfl, rfl⟩ := some2_e hf
    exact k_iret C w d_Book_draw_39
def f_Book_keep_25 (x4 : Int32) (t0 : Int32) (t1 : Int32) (σ : St) : Option (St) :=
  lt ((t1 + t0)) fun x_1 =>
  gd (inB (iR (sI σ 24) 700) 700) <|
  lt (uA σ 13 (upd (sA σ 13) (iR (sI σ 24) 700).toNatClampNeg ((x_1 * 128) + x4))) fun σ_3 =>
  lt (uI σ_3 24 ((sI σ_3 24) + 1)) fun σ_4 =>
  lt (uI σ_4 18 ((sI σ_4 18) + (sA σ_4 9 (2 : Int32).toNatClampNeg))) fun σ_5 =>
  if (sI σ_5 23) ≤ 0 then
    some σ_5
  else
    lt (((sI σ_5 23) - 1)) fun x_6 =>
    gd (inB x_6 20) <|
    gd (inB x_6 20) <|
    lt (uA σ_5 12 (upd (sA σ_5 12) x_6.toNatClampNeg ((sA σ_5 12 x_6.toNatClampNeg) + 1))) fun σ_9 =>
    some σ_9
def f_Book_keep (x1 : Int32) (x2 : Int32) (x3 : Int32) (x4 : Int32) (σ : St) : Option (St) :=
  if x3 = 0 then
    f_Book_keep_25 x4 0 ((((((sI σ 17) * 8) + x1) * 8) + x2) * 2) σ
  else
    f_Book_keep_25 x4 1 ((((((sI σ 17) * 8) + x1) * 8) + x2) * 2) σ
set_option maxHeartbeats 4000000 in
set_option maxRecDepth 20000 in
theorem t_Book_keep_25 {σ2 : St} (C : Cx g A p s m av meth c prog_2_method_8_code 6 "BellHammer$Book" none)  {x4 : Int32} {t0 : Int32} {t1 : Int32} {σ : St} {H : Heap} {locs : List Loc} {ls : Array Slot} (hf : f_Book_keep_25   x4 t0 t1 σ = some σ2) (w : Wd g (wX g q) A s σ H locs) (hl : lv_has ls 6 [(0, .ref (q 14)), (4, .int x4)]) : WK p l e s m av below meth c 0 g (wX g q) A none σ2 H locs (F0 m 25 ls [.int t0, .int t1]) := by
  obtain ⟨hx, hb, hml, hown, hts, hK, hA, hZ, hlocks, hr, hN⟩ := id C
  unfold f_Book_keep_25 at hf
  refine lv_iadd hx hb d_Book_keep_25 ?_
  refine lv_topi (fun x_1 ex_1 => ?_)
  have hf := lt_e ex_1 hf
  refine lv_istore (lv' := [(5, .int x_1), (0, .ref (q 14)), (4, .int x4)]) hx hb d_Book_keep_26 hl (by decide) rfl (fun ls hl => ?_)
  refine lv_aload_n hx hb d_Book_keep_28 rfl (lv_at hl 1 rfl) ?_
  refine xg_14_blows C w k356 d_Book_keep_29 ?_
  refine lv_aload_n hx hb d_Book_keep_32 rfl (lv_at hl 1 rfl) ?_
  refine xg_14_keptBlows C w k357 d_Book_keep_33 ?_
  refine lv_sipush (v := 700) hx hb d_Book_keep_36 (by decide) ?_
  refine r_irem hx hb d_Book_keep_39 (by decide) ?_
  refine lv_iload hx hb d_Book_keep_40 (lv_at hl 0 rfl) ?_
  refine lv_sipush (v := 128) hx hb d_Book_keep_42 (by decide) ?_
  refine lv_imul hx hb d_Book_keep_45 ?_
  refine lv_iload hx hb d_Book_keep_46 (lv_at hl 2 rfl) ?_
  refine lv_iadd hx hb d_Book_keep_48 ?_
  obtain ⟨g_2, hf⟩ := gd_e hf
  refine xs_19 C w g_2 d_Book_keep_49 (fun σ_3 H locs eσ_3 w => ?_)
  have hf := lt_e eσ_3 hf
  refine lv_aload_n hx hb d_Book_keep_50 rfl (lv_at hl 1 rfl) ?_
  refine lv_dup hx hb d_Book_keep_51 rfl ?_
  refine xg_14_keptBlows C w k357 d_Book_keep_52 ?_
  refine lv_iconst (v := 1) hx hb d_Book_keep_55 (by decide) ?_
  refine lv_iadd hx hb d_Book_keep_56 ?_
  refine xp_14_keptBlows C w k357 d_Book_keep_57 (fun σ_4 H locs eσ_4 w => ?_)
  have hf := lt_e eσ_4 hf
  refine lv_aload_n hx hb d_Book_keep_60 rfl (lv_at hl 1 rfl) ?_
  refine lv_dup hx hb d_Book_keep_61 rfl ?_
  refine xg_14_takings C w k339 d_Book_keep_62 ?_
  refine lv_aload_n hx hb d_Book_keep_65 rfl (lv_at hl 1 rfl) ?_
  refine xg_14_now C w k343 d_Book_keep_66 ?_
  refine lv_iconst (v := 2) hx hb d_Book_keep_69 (by decide) ?_
  refine xl_15 C w (by decide) d_Book_keep_70 ?_
  refine lv_iadd hx hb d_Book_keep_71 ?_
  refine xp_14_takings C w k339 d_Book_keep_72 (fun σ_5 H locs eσ_5 w => ?_)
  have hf := lt_e eσ_5 hf
  refine lv_aload_n hx hb d_Book_keep_75 rfl (lv_at hl 1 rfl) ?_
  refine xg_14_acts C w k351 d_Book_keep_76 ?_
  refine lv_if_le (tgt := 97) hx hb d_Book_keep_79 (by decide) (fun cd => ?_) (fun cd => ?_)
  · have hf := it_e cd hf
    cases some_e hf
    exact k_vret C w d_Book_keep_97
  · have hf := if_e cd hf
    refine lv_aload_n hx hb d_Book_keep_82 rfl (lv_at hl 1 rfl) ?_
    refine xg_14_actBlows C w k355 d_Book_keep_83 ?_
    refine lv_aload_n hx hb d_Book_keep_86 rfl (lv_at hl 1 rfl) ?_
    refine xg_14_acts C w k351 d_Book_keep_87 ?_
    refine lv_iconst (v := 1) hx hb d_Book_keep_90 (by decide) ?_
    refine lv_isub hx hb d_Book_keep_91 ?_
    refine lv_topi (fun x_6 ex_6 => ?_)
    have hf := lt_e ex_6 hf
    refine lv_dup2_11 hx hb d_Book_keep_92 rfl rfl ?_
    obtain ⟨g_7, hf⟩ := gd_e hf
    refine xl_18 C w g_7 d_Book_keep_93 ?_
    refine lv_iconst (v := 1) hx hb d_Book_keep_94 (by decide) ?_
    refine lv_iadd hx hb d_Book_keep_95 ?_
    obtain ⟨g_8, hf⟩ := gd_e hf
    refine xs_18 C w g_8 d_Book_keep_96 (fun σ_9 H locs eσ_9 w => ?_)
    have hf := lt_e eσ_9 hf
    cases some_e hf
    exact k_vret C w d_Book_keep_97
set_option maxHeartbeats 4000000 in
set_option maxRecDepth 20000 in
theorem c_Book_keep {l : Launch} {g : GX} {q : Nat → Nat} {x1 : Int32} {x2 : Int32} {x3 : Int32} {x4 : Int32}  {σ : St} {σ2 : St} (hf : f_Book_keep  x1 x2 x3 x4 σ = some σ2) : KK l y_Book_keep prog_2_method_8_code 6 none 0 g (wX g q) σ [.ref (q 14), .int x1, .int x2, .int x3, .int x4] none (wX g q) σ2 := by
  refine KK_of (plainFor_of_name (by decide)) (Nat.le_of_ble_eq_true rfl) (fun p e s m below meth c A ls C w hl => ?_)
  have hl : lv_has ls 6 [(0, .ref (q 14)), (1, .int x1), (2, .int x2), (3, .int x3), (4, .int x4)] := hl
  obtain ⟨hx, hb, hml, hown, hts, hK, hA, hZ, hlocks, hr, hN⟩ := id C
  unfold f_Book_keep at hf
  refine lv_aload_n hx hb d_Book_keep_0 rfl (lv_at hl 0 rfl) ?_
  refine xg_14_nights C w k337 d_Book_keep_1 ?_
  refine lv_bipush (v := 8) hx hb d_Book_keep_4 (by decide) ?_
  refine lv_imul hx hb d_Book_keep_6 ?_
  refine lv_iload_n hx hb d_Book_keep_7 rfl (lv_at hl 1 rfl) ?_
  refine lv_iadd hx hb d_Book_keep_8 ?_
  refine lv_bipush (v := 8) hx hb d_Book_keep_9 (by decide) ?_
  refine lv_imul hx hb d_Book_keep_11 ?_
  refine lv_iload_n hx hb d_Book_keep_12 rfl (lv_at hl 2 rfl) ?_
  refine lv_iadd hx hb d_Book_keep_13 ?_
  refine lv_iconst (v := 2) hx hb d_Book_keep_14 (by decide) ?_
  refine lv_imul hx hb d_Book_keep_15 ?_
  refine lv_iload_n hx hb d_Book_keep_16 rfl (lv_at hl 3 rfl) ?_
  refine lv_if_eq (tgt := 24) hx hb d_Book_keep_17 (by decide) (fun cd => ?_) (fun cd => ?_)
  · have hf := it_e cd hf
    refine lv_iconst (v := 0) hx hb d_Book_keep_24 (by decide) ?_
    exact t_Book_keep_25 C  hf w (lv_sub hl [0, 4] rfl)
  · have hf := if_e cd hf
    refine lv_iconst (v := 1) hx hb d_Book_keep_20 (by decide) ?_
    refine lv_goto (tgt := 25) hx hb d_Book_keep_21 (by decide) ?_
    exact t_Book_keep_25 C  hf w (lv_sub hl [0, 4] rfl)
def f_Turn_isNear_2 (x1 : Int32) (σ : St) : Option (Int32) :=
  if (sI σ 31) ≤ x1 then
    some 0
  else
    if (sI σ 35) < ((sI σ 31) - x1) then
      some 0
    else
      some 1
set_option maxHeartbeats 4000000 in
set_option maxRecDepth 20000 in
theorem c_Turn_isNear_2 {l : Launch} {g : GX} {q : Nat → Nat} {x1 : Int32}  {σ : St} {r : Int32} (hf : f_Turn_isNear_2  x1 σ = some r) : KK l y_Turn_isNear prog_10_method_7_code 2 (some .boolean) 0 g (wX g q) σ [.ref (q 23), .int x1] (some (.int r)) (wX g q) σ := by
  refine KK_of (plainFor_of_name (by decide)) (Nat.le_of_ble_eq_true rfl) (fun p e s m below meth c A ls C w hl => ?_)
  have hl : lv_has ls 2 [(0, .ref (q 23)), (1, .int x1)] := hl
  obtain ⟨hx, hb, hml, hown, hts, hK, hA, hZ, hlocks, hr, hN⟩ := id C
  unfold f_Turn_isNear_2 at hf
  refine lv_iload_n hx hb d_Turn_isNear_0 rfl (lv_at hl 1 rfl) ?_
  refine lv_aload_n hx hb d_Turn_isNear_1 rfl (lv_at hl 0 rfl) ?_
  refine xg_23_bell C w k415 d_Turn_isNear_2 ?_
  refine lv_icmp_ge (tgt := 25) hx hb d_Turn_isNear_5 (by decide) (fun cd => ?_) (fun cd => ?_)
  · have hf := it_e cd hf
    refine lv_iconst (v := 0) hx hb d_Turn_isNear_25 (by decide) ?_
    cases some_e hf
    exact k_zret C w (by decide) d_Turn_isNear_26
  · have hf := if_e cd hf
    refine lv_aload_n hx hb d_Turn_isNear_8 rfl (lv_at hl 0 rfl) ?_
    refine xg_23_bell C w k415 d_Turn_isNear_9 ?_
    refine lv_iload_n hx hb d_Turn_isNear_12 rfl (lv_at hl 1 rfl) ?_
    refine lv_isub hx hb d_Turn_isNear_13 ?_
    refine lv_aload_n hx hb d_Turn_isNear_14 rfl (lv_at hl 0 rfl) ?_
    refine xg_23_near C w k421 d_Turn_isNear_15 ?_
    refine lv_icmp_gt (tgt := 25) hx hb d_Turn_isNear_18 (by decide) (fun cd => ?_) (fun cd => ?_)
    · have hf := it_e cd hf
      refine lv_iconst (v := 0) hx hb d_Turn_isNear_25 (by decide) ?_
      cases some_e hf
      exact k_zret C w (by decide) d_Turn_isNear_26
    · have hf := if_e cd hf
      refine lv_iconst (v := 1) hx hb d_Turn_isNear_21 (by decide) ?_
      refine lv_goto (tgt := 26) hx hb d_Turn_isNear_22 (by decide) ?_
      cases some_e hf
      exact k_zret C w (by decide) d_Turn_isNear_26
def f_Turn_brings_2 (x1 : Int32) (σ : St) : Option (Int32) :=
  bp (f_Turn_isRing_2 x1 σ) fun r_2 =>
  if r_2 = 0 then
    bp (f_Turn_isNear_2 x1 σ) fun r_4 =>
    if r_4 = 0 then
      some (sA σ 16 (2 : Int32).toNatClampNeg)
    else
      some (sA σ 16 (1 : Int32).toNatClampNeg)
  else
    some (sA σ 16 (0 : Int32).toNatClampNeg)
set_option maxHeartbeats 4000000 in
set_option maxRecDepth 20000 in
theorem c_Turn_brings_2 {l : Launch} {g : GX} {q : Nat → Nat} {x1 : Int32}  {σ : St} {r : Int32} (hf : f_Turn_brings_2  x1 σ = some r) : KK l y_Turn_brings prog_10_method_8_code 2 (some .int) 1 g (wX g q) σ [.ref (q 23), .int x1] (some (.int r)) (wX g q) σ := by
  refine KK_of (plainFor_of_name (by decide)) (Nat.le_of_ble_eq_true rfl) (fun p e s m below meth c A ls C w hl => ?_)
  have hl : lv_has ls 2 [(0, .ref (q 23)), (1, .int x1)] := hl
  obtain ⟨hx, hb, hml, hown, hts, hK, hA, hZ, hlocks, hr, hN⟩ := id C
  unfold f_Turn_brings_2 at hf
  refine lv_aload_n hx hb d_Turn_brings_0 rfl (lv_at hl 0 rfl) ?_
  refine lv_iload_n hx hb d_Turn_brings_1 rfl (lv_at hl 1 rfl) ?_
  obtain ⟨r_2, h_1, hf⟩ := bp_e hf
  refine k_callV (As := [.int x1]) (rest := []) C w (c_Turn_isRing_2 (q := q) h_1) cv_Turn_isRing k858 (xr_23 C w) (by decide) hl.1 rfl (Nat.le_of_ble_eq_true rfl) d_Turn_brings_2 (fun H locs w => ?_)
  show WK p l e s m _ below meth c 1 g (wX g q) A (some (.int r)) σ H locs (F0 m 5 ls [.int r_2])
  refine lv_if_eq (tgt := 15) hx hb d_Turn_brings_5 (by decide) (fun cd => ?_) (fun cd => ?_)
  · have hf := it_e cd hf
    refine lv_aload_n hx hb d_Turn_brings_15 rfl (lv_at hl 0 rfl) ?_
    refine lv_iload_n hx hb d_Turn_brings_16 rfl (lv_at hl 1 rfl) ?_
    obtain ⟨r_4, h_3, hf⟩ := bp_e hf
    refine k_callV (As := [.int x1]) (rest := []) C w (c_Turn_isNear_2 (q := q) h_3) cv_Turn_isNear k878 (xr_23 C w) (by decide) hl.1 rfl (Nat.le_of_ble_eq_true rfl) d_Turn_brings_17 (fun H locs w => ?_)
    show WK p l e s m _ below meth c 1 g (wX g q) A (some (.int r)) σ H locs (F0 m 20 ls [.int r_4])
    refine lv_if_eq (tgt := 32) hx hb d_Turn_brings_20 (by decide) (fun cd => ?_) (fun cd => ?_)
    · have hf := it_e cd hf
      refine lv_aload_n hx hb d_Turn_brings_32 rfl (lv_at hl 0 rfl) ?_
      refine xg_23_comes C w k424 d_Turn_brings_33 ?_
      refine lv_iconst (v := 2) hx hb d_Turn_brings_36 (by decide) ?_
      refine xl_24 C w (by decide) d_Turn_brings_37 ?_
      cases some_e hf
      exact k_iret C w d_Turn_brings_38
    · have hf := if_e cd hf
      refine lv_aload_n hx hb d_Turn_brings_23 rfl (lv_at hl 0 rfl) ?_
      refine xg_23_comes C w k424 d_Turn_brings_24 ?_
      refine lv_iconst (v := 1) hx hb d_Turn_brings_27 (by decide) ?_
      refine xl_24 C w (by decide) d_Turn_brings_28 ?_
      refine lv_goto (tgt := 38) hx hb d_Turn_brings_29 (by decide) ?_
      cases some_e hf
      exact k_iret C w d_Turn_brings_38
  · have hf := if_e cd hf
    refine lv_aload_n hx hb d_Turn_brings_8 rfl (lv_at hl 0 rfl) ?_
    refine xg_23_comes C w k424 d_Turn_brings_9 ?_
    refine lv_iconst (v := 0) hx hb d_Turn_brings_12 (by decide) ?_
    refine xl_24 C w (by decide) d_Turn_brings_13 ?_
    cases some_e hf
    exact k_iret C w d_Turn_brings_14
def f_BH_haveTurn_163 (k4 : Int32 → Int32 → Int32 → St → Option (St)) (x1 : Int32) (x2 : Int32) (x3 : Int32) (t0 : Int32) (t1 : Int32) (σ : St) : Option (St) :=
  lt (uI σ 21 (t1 + t0)) fun σ_1 =>
  bp (f_Turn_brings_2 x2 σ_1) fun r_3 =>
  lt (uI σ_1 20 (iMin 999 ((sI σ_1 20) + r_3))) fun σ_4 =>
  lt ((x3 + 1)) fun x_5 =>
  k4 x1 x2 x_5 σ_4
def f_BH_haveTurn_93 (k4 : Int32 → Int32 → Int32 → St → Option (St)) (x1 : Int32) (x3 : Int32) (t0 : Int32) (σ : St) : Option (St) :=
  bd (f_Book_draw ((sI σ 26) + 1) σ) fun r_2 σ_3 =>
  bp (f_Turn_height x3 r_2 t0 σ_3) fun r_5 =>
  bp (f_Book_keep x1 r_2 t0 r_5 σ_3) fun σ_7 =>
  bp (f_Turn_isRing_2 r_5 σ_7) fun r_9 =>
  if r_9 = 0 then
    f_BH_haveTurn_163 k4 x1 r_5 x3 0 (sI σ_7 21) σ_7
  else
    f_BH_haveTurn_163 k4 x1 r_5 x3 1 (sI σ_7 21) σ_7
def f_BH_haveTurn_4b (k4 : Int32 → Int32 → Int32 → St → Option (St)) (x1 : Int32) (x2 : Int32) (x3 : Int32) (σ : St) : Option (St) :=
  if 4 ≤ x3 then
    some σ
  else
    bp (f_Turn_goesOn_2 x3 x2 σ) fun r_2 =>
    if r_2 = 0 then
      some σ
    else
      bp (f_Showman_look (sI σ 20) x3 x2 (sI σ 21) σ) fun σ_4 =>
      bp (f_Turn_coinsBehind_2 x3 σ_4) fun r_6 =>
      bp (f_Showman_lookAt (sI σ_4 30) r_6 σ_4) fun σ_8 =>
      bd (f_Showman_rulesThatHold σ_8) fun r_10 σ_11 =>
      if (r_10 &&& (sI σ_11 19)) = 0 then
        f_BH_haveTurn_93 k4 x1 x3 0 σ_11
      else
        f_BH_haveTurn_93 k4 x1 x3 1 σ_11
def f_BH_haveTurn_4 : Nat → Int32 → Int32 → Int32 → St → Option (St)
  | 0 => fun _ _ _ _ => none
  | n + 1 => f_BH_haveTurn_4b   (f_BH_haveTurn_4   n)
def f_BH_haveTurn (x1 : Int32) (σ : St) : Option (St) :=
  f_BH_haveTurn_4 FU x1 0 0 σ
set_option maxHeartbeats 4000000 in
set_option maxRecDepth 20000 in
theorem t_BH_haveTurn_163 {σ2 : St} (C : Cx g A p s m av meth c prog_1_method_42_code 6 "BellHammer" none) {k4 : Int32 → Int32 → Int32 → St → Option (St)} (hk4 : ∀ (x1 : Int32) (x2 : Int32) (x3 : Int32) (σ : St) (H : Heap) (locs : List Loc) (ls : Array Slot), k4 x1 x2 x3 σ = some σ2 → Wd g (wX g q) A s σ H locs → lv_has ls 6 [(0, .ref (q 0)), (1, .int x1), (2, .int x2), (3, .int x3)] → WK p l e s m av below meth c 4 g (wX g q) A none σ2 H locs (F0 m 4 ls []))  {x1 : Int32} {x2 : Int32} {x3 : Int32} {t0 : Int32} {t1 : Int32} {σ : St} {H : Heap} {locs : List Loc} {ls : Array Slot} (hf : f_BH_haveTurn_163  k4 x1 x2 x3 t0 t1 σ = some σ2) (w : Wd g (wX g q) A s σ H locs) (hl : lv_has ls 6 [(0, .ref (q 0)), (1, .int x1), (2, .int x2), (3, .int x3)]) : WK p l e s m av below meth c 4 g (wX g q) A none σ2 H locs (F0 m 163 ls [.int t0, .int t1, .ref (q 14)]) := by
  obtain ⟨hx, hb, hml, hown, hts, hK, hA, hZ, hlocks, hr, hN⟩ := id C
  unfold f_BH_haveTurn_163 at hf
  refine lv_iadd hx hb d_BH_haveTurn_163 ?_
  refine xp_14_rings C w k348 d_BH_haveTurn_164 (fun σ_1 H locs eσ_1 w => ?_)
  have hf := lt_e eσ_1 hf
  refine lv_aload_n hx hb d_BH_haveTurn_167 rfl (lv_at hl 0 rfl) ?_
  refine xg_0_book C w k509 d_BH_haveTurn_168 ?_
  refine lv_sipush (v := 999) hx hb d_BH_haveTurn_171 (by decide) ?_
  refine lv_aload_n hx hb d_BH_haveTurn_174 rfl (lv_at hl 0 rfl) ?_
  refine xg_0_book C w k509 d_BH_haveTurn_175 ?_
  refine xg_14_crowd C w k346 d_BH_haveTurn_178 ?_
  refine lv_aload_n hx hb d_BH_haveTurn_181 rfl (lv_at hl 0 rfl) ?_
  refine xg_0_turn C w k511 d_BH_haveTurn_182 ?_
  refine lv_iload_n hx hb d_BH_haveTurn_185 rfl (lv_at hl 2 rfl) ?_
  obtain ⟨r_3, h_2, hf⟩ := bp_e hf
  refine k_callV (As := [.int x2]) (rest := [.int (sI σ_1 20), .int 999, .ref (q 14)]) C w (c_Turn_brings_2 (q := q) h_2) cv_Turn_brings k970 (xr_23 C w) (by decide) hl.1 rfl (Nat.le_of_ble_eq_true rfl) d_BH_haveTurn_186 (fun H locs w => ?_)
  show WK p l e s m av below meth c 4 g (wX g q) A none σ2 H locs (F0 m 189 ls [.int r_3, .int (sI σ_1 20), .int 999, .ref (q 14)])
  refine lv_iadd hx hb d_BH_haveTurn_189 ?_
  refine r_min C hl.1 (by omega) (Nat.le_of_ble_eq_true rfl) k971 d_BH_haveTurn_190 ?_
  refine xp_14_crowd C w k346 d_BH_haveTurn_193 (fun σ_4 H locs eσ_4 w => ?_)
  have hf := lt_e eσ_4 hf
  obtain ⟨x_5, ex_5⟩ : ∃ y : Int32, y = (x3 + 1) := ⟨_, rfl⟩
  have hf := lt_e ex_5 hf
  refine lv_iinc (v := x_5) (lv' := [(3, .int x_5), (0, .ref (q 0)), (1, .int x1), (2, .int x2)]) hx hb d_BH_haveTurn_196 hl (k := 3) rfl (by rw [ex_5]; rfl) (by decide) rfl (fun ls hl => ?_)
  refine lv_goto (tgt := 4) hx hb d_BH_haveTurn_199 (by decide) ?_
  exact hk4 x1 x2 x_5 σ_4 _ _ _ hf w (lv_sub hl [1, 2, 3, 0] rfl)
set_option maxHeartbeats 4000000 in
set_option maxRecDepth 20000 in
theorem t_BH_haveTurn_93 {σ2 : St} (C : Cx g A p s m av meth c prog_1_method_42_code 6 "BellHammer" none) {k4 : Int32 → Int32 → Int32 → St → Option (St)} (hk4 : ∀ (x1 : Int32) (x2 : Int32) (x3 : Int32) (σ : St) (H : Heap) (locs : List Loc) (ls : Array Slot), k4 x1 x2 x3 σ = some σ2 → Wd g (wX g q) A s σ H locs → lv_has ls 6 [(0, .ref (q 0)), (1, .int x1), (2, .int x2), (3, .int x3)] → WK p l e s m av below meth c 4 g (wX g q) A none σ2 H locs (F0 m 4 ls []))  {x1 : Int32} {x3 : Int32} {t0 : Int32} {σ : St} {H : Heap} {locs : List Loc} {ls : Array Slot} (hf : f_BH_haveTurn_93  k4 x1 x3 t0 σ = some σ2) (w : Wd g (wX g q) A s σ H locs) (hl : lv_has ls 6 [(0, .ref (q 0)), (1, .int x1), (3, .int x3)]) : WK p l e s m av below meth c 4 g (wX g q) A none σ2 H locs (F0 m 93 ls [.int t0]) := by
  obtain ⟨hx, hb, hml, hown, hts, hK, hA, hZ, hlocks, hr, hN⟩ := id C
  unfold f_BH_haveTurn_93 at hf
  refine lv_istore (lv' := [(4, .int t0), (0, .ref (q 0)), (1, .int x1), (3, .int x3)]) hx hb d_BH_haveTurn_93 hl (by decide) rfl (fun ls hl => ?_)
  refine lv_aload_n hx hb d_BH_haveTurn_95 rfl (lv_at hl 1 rfl) ?_
  refine xg_0_book C w k509 d_BH_haveTurn_96 ?_
  refine lv_aload_n hx hb d_BH_haveTurn_99 rfl (lv_at hl 1 rfl) ?_
  refine xg_0_turn C w k511 d_BH_haveTurn_100 ?_
  refine xg_23_aim C w k408 d_BH_haveTurn_103 ?_
  refine lv_iconst (v := 1) hx hb d_BH_haveTurn_106 (by decide) ?_
  refine lv_iadd hx hb d_BH_haveTurn_107 ?_
  obtain ⟨r_2, σ_3, h_1, hf⟩ := bd_e hf
  refine k_callV (As := [.int ((sI σ 26) + 1)]) (rest := []) C w (c_Book_draw (q := q) h_1) cv_Book_draw k958 (xr_14 C w) (by decide) hl.1 rfl (Nat.le_of_ble_eq_true rfl) d_BH_haveTurn_108 (fun H locs w => ?_)
  show WK p l e s m av below meth c 4 g (wX g q) A none σ2 H locs (F0 m 111 ls [.int r_2])
  refine lv_istore (lv' := [(5, .int r_2), (4, .int t0), (0, .ref (q 0)), (1, .int x1), (3, .int x3)]) hx hb d_BH_haveTurn_111 hl (by decide) rfl (fun ls hl => ?_)
  refine lv_aload_n hx hb d_BH_haveTurn_113 rfl (lv_at hl 2 rfl) ?_
  refine xg_0_turn C w k511 d_BH_haveTurn_114 ?_
  refine lv_iload_n hx hb d_BH_haveTurn_117 rfl (lv_at hl 4 rfl) ?_
  refine lv_iload hx hb d_BH_haveTurn_118 (lv_at hl 0 rfl) ?_
  refine lv_iload hx hb d_BH_haveTurn_120 (lv_at hl 1 rfl) ?_
  obtain ⟨r_5, h_4, hf⟩ := bp_e hf
  refine k_callV (As := [.int x3, .int r_2, .int t0]) (rest := []) C w (c_Turn_height (q := q) h_4) cv_Turn_height k776 (xr_23 C w) (by decide) hl.1 rfl (Nat.le_of_ble_eq_true rfl) d_BH_haveTurn_122 (fun H locs w => ?_)
  show WK p l e s m av below meth c 4 g (wX g q) A none σ2 H locs (F0 m 125 ls [.int r_5])
  refine lv_istore_n (lv' := [(2, .int r_5), (5, .int r_2), (4, .int t0), (0, .ref (q 0)), (1, .int x1), (3, .int x3)]) hx hb d_BH_haveTurn_125 rfl hl (by decide) rfl (fun ls hl => ?_)
  refine lv_aload_n hx hb d_BH_haveTurn_126 rfl (lv_at hl 3 rfl) ?_
  refine xg_0_book C w k509 d_BH_haveTurn_127 ?_
  refine lv_iload_n hx hb d_BH_haveTurn_130 rfl (lv_at hl 4 rfl) ?_
  refine lv_iload hx hb d_BH_haveTurn_131 (lv_at hl 1 rfl) ?_
  refine lv_iload hx hb d_BH_haveTurn_133 (lv_at hl 2 rfl) ?_
  refine lv_iload_n hx hb d_BH_haveTurn_135 rfl (lv_at hl 0 rfl) ?_
  obtain ⟨σ_7, h_6, hf⟩ := bp_e hf
  refine k_callV (As := [.int x1, .int r_2, .int t0, .int r_5]) (rest := []) C w (c_Book_keep (q := q) h_6) cv_Book_keep k965 (xr_14 C w) (by decide) hl.1 rfl (Nat.le_of_ble_eq_true rfl) d_BH_haveTurn_136 (fun H locs w => ?_)
  show WK p l e s m av below meth c 4 g (wX g q) A none σ2 H locs (F0 m 139 ls [])
  refine lv_aload_n hx hb d_BH_haveTurn_139 rfl (lv_at hl 3 rfl) ?_
  refine xg_0_book C w k509 d_BH_haveTurn_140 ?_
  refine lv_dup hx hb d_BH_haveTurn_143 rfl ?_
  refine xg_14_rings C w k348 d_BH_haveTurn_144 ?_
  refine lv_aload_n hx hb d_BH_haveTurn_147 rfl (lv_at hl 3 rfl) ?_
  refine xg_0_turn C w k511 d_BH_haveTurn_148 ?_
  refine lv_iload_n hx hb d_BH_haveTurn_151 rfl (lv_at hl 0 rfl) ?_
  obtain ⟨r_9, h_8, hf⟩ := bp_e hf
  refine k_callV (As := [.int r_5]) (rest := [.int (sI σ_7 21), .ref (q 14)]) C w (c_Turn_isRing_2 (q := q) h_8) cv_Turn_isRing k969 (xr_23 C w) (by decide) hl.1 rfl (Nat.le_of_ble_eq_true rfl) d_BH_haveTurn_152 (fun H locs w => ?_)
  show WK p l e s m av below meth c 4 g (wX g q) A none σ2 H locs (F0 m 155 ls [.int r_9, .int (sI σ_7 21), .ref (q 14)])
  refine lv_if_eq (tgt := 162) hx hb d_BH_haveTurn_155 (by decide) (fun cd => ?_) (fun cd => ?_)
  · have hf := it_e cd hf
    refine lv_iconst (v := 0) hx hb d_BH_haveTurn_162 (by decide) ?_
    exact t_BH_haveTurn_163 C hk4 hf w (lv_sub hl [3, 4, 0, 5] rfl)
  · have hf := if_e cd hf
    refine lv_iconst (v := 1) hx hb d_BH_haveTurn_158 (by decide) ?_
    refine lv_goto (tgt := 163) hx hb d_BH_haveTurn_159 (by decide) ?_
    exact t_BH_haveTurn_163 C hk4 hf w (lv_sub hl [3, 4, 0, 5] rfl)
set_option maxHeartbeats 4000000 in
set_option maxRecDepth 20000 in
theorem t_BH_haveTurn_4b {σ2 : St} (C : Cx g A p s m av meth c prog_1_method_42_code 6 "BellHammer" none) {k4 : Int32 → Int32 → Int32 → St → Option (St)} (hk4 : ∀ (x1 : Int32) (x2 : Int32) (x3 : Int32) (σ : St) (H : Heap) (locs : List Loc) (ls : Array Slot), k4 x1 x2 x3 σ = some σ2 → Wd g (wX g q) A s σ H locs → lv_has ls 6 [(0, .ref (q 0)), (1, .int x1), (2, .int x2), (3, .int x3)] → WK p l e s m av below meth c 4 g (wX g q) A none σ2 H locs (F0 m 4 ls []))  {x1 : Int32} {x2 : Int32} {x3 : Int32} {σ : St} {H : Heap} {locs : List Loc} {ls : Array Slot} (hf : f_BH_haveTurn_4b  k4 x1 x2 x3 σ = some σ2) (w : Wd g (wX g q) A s σ H locs) (hl : lv_has ls 6 [(0, .ref (q 0)), (1, .int x1), (2, .int x2), (3, .int x3)]) : WK p l e s m av below meth c 4 g (wX g q) A none σ2 H locs (F0 m 4 ls []) := by
  obtain ⟨hx, hb, hml, hown, hts, hK, hA, hZ, hlocks, hr, hN⟩ := id C
  unfold f_BH_haveTurn_4b at hf
  refine lv_iload_n hx hb d_BH_haveTurn_4 rfl (lv_at hl 3 rfl) ?_
  refine lv_iconst (v := 4) hx hb d_BH_haveTurn_5 (by decide) ?_
  refine lv_icmp_ge (tgt := 202) hx hb d_BH_haveTurn_6 (by decide) (fun cd => ?_) (fun cd => ?_)
  · have hf := it_e cd hf
    cases some_e hf
    exact k_vret C w d_BH_haveTurn_202
  · have hf := if_e cd hf
    refine lv_aload_n hx hb d_BH_haveTurn_9 rfl (lv_at hl 0 rfl) ?_
    refine xg_0_turn C w k511 d_BH_haveTurn_10 ?_
    refine lv_iload_n hx hb d_BH_haveTurn_13 rfl (lv_at hl 3 rfl) ?_
    refine lv_iload_n hx hb d_BH_haveTurn_14 rfl (lv_at hl 2 rfl) ?_
    obtain ⟨r_2, h_1, hf⟩ := bp_e hf
    refine k_callV (As := [.int x3, .int x2]) (rest := []) C w (c_Turn_goesOn_2 (q := q) h_1) cv_Turn_goesOn k956 (xr_23 C w) (by decide) hl.1 rfl (Nat.le_of_ble_eq_true rfl) d_BH_haveTurn_15 (fun H locs w => ?_)
    show WK p l e s m av below meth c 4 g (wX g q) A none σ2 H locs (F0 m 18 ls [.int r_2])
    refine lv_if_eq (tgt := 202) hx hb d_BH_haveTurn_18 (by decide) (fun cd => ?_) (fun cd => ?_)
    · have hf := it_e cd hf
      cases some_e hf
      exact k_vret C w d_BH_haveTurn_202
    · have hf := if_e cd hf
      refine lv_aload_n hx hb d_BH_haveTurn_21 rfl (lv_at hl 0 rfl) ?_
      refine xg_0_showman C w k510 d_BH_haveTurn_22 ?_
      refine lv_aload_n hx hb d_BH_haveTurn_25 rfl (lv_at hl 0 rfl) ?_
      refine xg_0_book C w k509 d_BH_haveTurn_26 ?_
      refine xg_14_crowd C w k346 d_BH_haveTurn_29 ?_
      refine lv_iload_n hx hb d_BH_haveTurn_32 rfl (lv_at hl 3 rfl) ?_
      refine lv_iload_n hx hb d_BH_haveTurn_33 rfl (lv_at hl 2 rfl) ?_
      refine lv_aload_n hx hb d_BH_haveTurn_34 rfl (lv_at hl 0 rfl) ?_
      refine xg_0_book C w k509 d_BH_haveTurn_35 ?_
      refine xg_14_rings C w k348 d_BH_haveTurn_38 ?_
      obtain ⟨σ_4, h_3, hf⟩ := bp_e hf
      refine k_callV (As := [.int (sI σ 20), .int x3, .int x2, .int (sI σ 21)]) (rest := []) C w (c_Showman_look (q := q) h_3) cv_Showman_look k804 (xr_20 C w) (by decide) hl.1 rfl (Nat.le_of_ble_eq_true rfl) d_BH_haveTurn_41 (fun H locs w => ?_)
      show WK p l e s m av below meth c 4 g (wX g q) A none σ2 H locs (F0 m 44 ls [])
      refine lv_aload_n hx hb d_BH_haveTurn_44 rfl (lv_at hl 0 rfl) ?_
      refine xg_0_showman C w k510 d_BH_haveTurn_45 ?_
      refine lv_aload_n hx hb d_BH_haveTurn_48 rfl (lv_at hl 0 rfl) ?_
      refine xg_0_turn C w k511 d_BH_haveTurn_49 ?_
      refine xg_23_lady C w k414 d_BH_haveTurn_52 ?_
      refine lv_aload_n hx hb d_BH_haveTurn_55 rfl (lv_at hl 0 rfl) ?_
      refine xg_0_turn C w k511 d_BH_haveTurn_56 ?_
      refine lv_iload_n hx hb d_BH_haveTurn_59 rfl (lv_at hl 3 rfl) ?_
      obtain ⟨r_6, h_5, hf⟩ := bp_e hf
      refine k_callV (As := [.int x3]) (rest := [.int (sI σ_4 30), .ref (q 20)]) C w (c_Turn_coinsBehind_2 (q := q) h_5) cv_Turn_coinsBehind k957 (xr_23 C w) (by decide) hl.1 rfl (Nat.le_of_ble_eq_true rfl) d_BH_haveTurn_60 (fun H locs w => ?_)
      show WK p l e s m av below meth c 4 g (wX g q) A none σ2 H locs (F0 m 63 ls [.int r_6, .int (sI σ_4 30), .ref (q 20)])
      obtain ⟨σ_8, h_7, hf⟩ := bp_e hf
      refine k_callV (As := [.int (sI σ_4 30), .int r_6]) (rest := []) C w (c_Showman_lookAt (q := q) h_7) cv_Showman_lookAt k808 (xr_20 C w) (by decide) hl.1 rfl (Nat.le_of_ble_eq_true rfl) d_BH_haveTurn_63 (fun H locs w => ?_)
      show WK p l e s m av below meth c 4 g (wX g q) A none σ2 H locs (F0 m 66 ls [])
      refine lv_aload_n hx hb d_BH_haveTurn_66 rfl (lv_at hl 0 rfl) ?_
      refine xg_0_showman C w k510 d_BH_haveTurn_67 ?_
      refine lv_aload_n hx hb d_BH_haveTurn_70 rfl (lv_at hl 0 rfl) ?_
      refine xg_0_fair C w k513 d_BH_haveTurn_71 ?_
      obtain ⟨r_10, σ_11, h_9, hf⟩ := bd_e hf
      refine k_callV (As := [.ref (q 34)]) (rest := []) C w (c_Showman_rulesThatHold (q := q) h_9) cv_Showman_rulesThatHold k812 (xr_20 C w) (by decide) hl.1 rfl (Nat.le_of_ble_eq_true rfl) d_BH_haveTurn_74 (fun H locs w => ?_)
      show WK p l e s m av below meth c 4 g (wX g q) A none σ2 H locs (F0 m 77 ls [.int r_10])
      refine lv_aload_n hx hb d_BH_haveTurn_77 rfl (lv_at hl 0 rfl) ?_
      refine xg_0_book C w k509 d_BH_haveTurn_78 ?_
      refine xg_14_inForce C w k342 d_BH_haveTurn_81 ?_
      refine lv_iand hx hb d_BH_haveTurn_84 ?_
      refine lv_if_eq (tgt := 92) hx hb d_BH_haveTurn_85 (by decide) (fun cd => ?_) (fun cd => ?_)
      · have hf := it_e cd hf
        refine lv_iconst (v := 0) hx hb d_BH_haveTurn_92 (by decide) ?_
        exact t_BH_haveTurn_93 C hk4 hf w (lv_sub hl [0, 1, 3] rfl)
      · have hf := if_e cd hf
        refine lv_iconst (v := 1) hx hb d_BH_haveTurn_88 (by decide) ?_
        refine lv_goto (tgt := 93) hx hb d_BH_haveTurn_89 (by decide) ?_
        exact t_BH_haveTurn_93 C hk4 hf w (lv_sub hl [0, 1, 3] rfl)
set_option maxHeartbeats 4000000 in
set_option maxRecDepth 20000 in
theorem t_BH_haveTurn_4 {σ2 : St} (C : Cx g A p s m av meth c prog_1_method_42_code 6 "BellHammer" none)  : ∀ (n : Nat) (x1 : Int32) (x2 : Int32) (x3 : Int32) (σ : St) (H : Heap) (locs : List Loc) (ls : Array Slot), f_BH_haveTurn_4   n x1 x2 x3 σ = some σ2 → Wd g (wX g q) A s σ H locs → lv_has ls 6 [(0, .ref (q 0)), (1, .int x1), (2, .int x2), (3, .int x3)] → WK p l e s m av below meth c 4 g (wX g q) A none σ2 H locs (F0 m 4 ls []) := by
  intro n
  induction n with
  | zero => intro x1 x2 x3 σ H locs ls hf; exact absurd hf (by intro z; cases z)
  | succ n ih => intro x1 x2 x3 σ H locs ls hf w hl; exact t_BH_haveTurn_4b C  ih hf w hl
set_option maxHeartbeats 4000000 in
set_option maxRecDepth 20000 in
theorem c_BH_haveTurn {l : Launch} {g : GX} {q : Nat → Nat} {x1 : Int32}  {σ : St} {σ2 : St} (hf : f_BH_haveTurn  x1 σ = some σ2) : KK l y_BH_haveTurn prog_1_method_42_code 6 none 4 g (wX g q) σ [.ref (q 0), .int x1] none (wX g q) σ2 := by
  refine KK_of (plainFor_of_name (by decide)) (Nat.le_of_ble_eq_true rfl) (fun p e s m below meth c A ls C w hl => ?_)
  have hl : lv_has ls 6 [(0, .ref (q 0)), (1, .int x1)] := hl
  obtain ⟨hx, hb, hml, hown, hts, hK, hA, hZ, hlocks, hr, hN⟩ := id C
  unfold f_BH_haveTurn at hf
  refine lv_iconst (v := 0) hx hb d_BH_haveTurn_0 (by decide) ?_
  refine lv_istore_n (lv' := [(2, .int 0), (0, .ref (q 0)), (1, .int x1)]) hx hb d_BH_haveTurn_1 rfl hl (by decide) rfl (fun ls hl => ?_)
  refine lv_iconst (v := 0) hx hb d_BH_haveTurn_2 (by decide) ?_
  refine lv_istore_n (lv' := [(3, .int 0), (2, .int 0), (0, .ref (q 0)), (1, .int x1)]) hx hb d_BH_haveTurn_3 rfl hl (by decide) rfl (fun ls hl => ?_)
  exact t_BH_haveTurn_4 C  FU x1 0 0 σ _ _ _ hf w (lv_sub hl [2, 3, 1, 0] rfl)
def f_BH_night_51b (k51 : Int32 → Int32 → St → Option (Int32 × St)) (x1 : Int32) (x2 : Int32) (σ : St) : Option (Int32 × St) :=
  if (sI σ 54) ≤ x2 then
    some (((sI σ 18) - x1), σ)
  else
    bp (f_Turn_load x2 σ) fun σ_2 =>
    bp (f_BH_haveTurn x2 σ_2) fun σ_4 =>
    lt ((x2 + 1)) fun x_5 =>
    k51 x1 x_5 σ_4
def f_BH_night_51 : Nat → Int32 → Int32 → St → Option (Int32 × St)
  | 0 => fun _ _ _ => none
  | n + 1 => f_BH_night_51b   (f_BH_night_51   n)
def f_BH_night (σ : St) : Option (Int32 × St) :=
  if (sI σ 17) < 999 then
    lt ((sI σ 18)) fun x_1 =>
    bp (f_Book_startNight (sA σ 25 (4 : Int32).toNatClampNeg) σ) fun σ_3 =>
    f_BH_night_51 FU x_1 0 σ_3
  else
    lt (uA σ 30 (upd (sA σ 30) (2 : Int32).toNatClampNeg ((sA σ 30 (2 : Int32).toNatClampNeg) + 1))) fun σ_4 =>
    some ((-1), σ_4)
set_option maxHeartbeats 4000000 in
set_option maxRecDepth 20000 in
theorem t_BH_night_51b {r : Int32} {σ2 : St} (C : Cx g A p s m av meth c prog_1_method_19_code 3 "BellHammer" (some .int)) {k51 : Int32 → Int32 → St → Option (Int32 × St)} (hk51 : ∀ (x1 : Int32) (x2 : Int32) (σ : St) (H : Heap) (locs : List Loc) (ls : Array Slot), k51 x1 x2 σ = some (r, σ2) → Wd g (wX g q) A s σ H locs → lv_has ls 3 [(0, .ref (q 0)), (1, .int x1), (2, .int x2)] → WK p l e s m av below meth c 5 g (wX g q) A (some (.int r)) σ2 H locs (F0 m 51 ls []))  {x1 : Int32} {x2 : Int32} {σ : St} {H : Heap} {locs : List Loc} {ls : Array Slot} (hf : f_BH_night_51b  k51 x1 x2 σ = some (r, σ2)) (w : Wd g (wX g q) A s σ H locs) (hl : lv_has ls 3 [(0, .ref (q 0)), (1, .int x1), (2, .int x2)]) : WK p l e s m av below meth c 5 g (wX g q) A (some (.int r)) σ2 H locs (F0 m 51 ls []) := by
  obtain ⟨hx, hb, hml, hown, hts, hK, hA, hZ, hlocks, hr, hN⟩ := id C
  unfold f_BH_night_51b at hf
  refine lv_iload_n hx hb d_BH_night_51 rfl (lv_at hl 2 rfl) ?_
  refine lv_aload_n hx hb d_BH_night_52 rfl (lv_at hl 0 rfl) ?_
  refine xg_0_fair C w k513 d_BH_night_53 ?_
  refine xg_34_triers C w k276 d_BH_night_56 ?_
  refine lv_icmp_ge (tgt := 92) hx hb d_BH_night_59 (by decide) (fun cd => ?_) (fun cd => ?_)
  · have hf := it_e cd hf
    refine lv_aload_n hx hb d_BH_night_92 rfl (lv_at hl 0 rfl) ?_
    refine xg_0_book C w k509 d_BH_night_93 ?_
    refine xg_14_takings C w k340 d_BH_night_96 ?_
    refine lv_iload_n hx hb d_BH_night_99 rfl (lv_at hl 1 rfl) ?_
    refine lv_isub hx hb d_BH_night_100 ?_
    obtain ⟨rfl, rfl⟩ := some2_e hf
    exact k_iret C w d_BH_night_101
  · have hf := if_e cd hf
    refine lv_aload_n hx hb d_BH_night_62 rfl (lv_at hl 0 rfl) ?_
    refine xg_0_turn C w k511 d_BH_night_63 ?_
    refine lv_aload_n hx hb d_BH_night_66 rfl (lv_at hl 0 rfl) ?_
    refine xg_0_fair C w k513 d_BH_night_67 ?_
    refine lv_iload_n hx hb d_BH_night_70 rfl (lv_at hl 2 rfl) ?_
    refine lv_aload_n hx hb d_BH_night_71 rfl (lv_at hl 0 rfl) ?_
    refine xg_0_book C w k509 d_BH_night_72 ?_
    refine xg_14_now C w k344 d_BH_night_75 ?_
    obtain ⟨σ_2, h_1, hf⟩ := bp_e hf
    refine k_callV (As := [.ref (q 34), .int x2, .ref (q 15)]) (rest := []) C w (c_Turn_load (q := q) h_1) cv_Turn_load k770 (xr_23 C w) (by decide) hl.1 rfl (Nat.le_of_ble_eq_true rfl) d_BH_night_78 (fun H locs w => ?_)
    show WK p l e s m av below meth c 5 g (wX g q) A (some (.int r)) σ2 H locs (F0 m 81 ls [])
    refine lv_aload_n hx hb d_BH_night_81 rfl (lv_at hl 0 rfl) ?_
    refine lv_iload_n hx hb d_BH_night_82 rfl (lv_at hl 2 rfl) ?_
    obtain ⟨σ_4, h_3, hf⟩ := bp_e hf
    refine k_callV (As := [.int x2]) (rest := []) C w (c_BH_haveTurn (q := q) h_3) cv_BH_haveTurn k952 (xr_0 C w) (by decide) hl.1 rfl (Nat.le_of_ble_eq_true rfl) d_BH_night_83 (fun H locs w => ?_)
    show WK p l e s m av below meth c 5 g (wX g q) A (some (.int r)) σ2 H locs (F0 m 86 ls [])
    obtain ⟨x_5, ex_5⟩ : ∃ y : Int32, y = (x2 + 1) := ⟨_, rfl⟩
    have hf := lt_e ex_5 hf
    refine lv_iinc (v := x_5) (lv' := [(2, .int x_5), (0, .ref (q 0)), (1, .int x1)]) hx hb d_BH_night_86 hl (k := 2) rfl (by rw [ex_5]; rfl) (by decide) rfl (fun ls hl => ?_)
    refine lv_goto (tgt := 51) hx hb d_BH_night_89 (by decide) ?_
    exact hk51 x1 x_5 σ_4 _ _ _ hf w (lv_sub hl [1, 2, 0] rfl)
set_option maxHeartbeats 4000000 in
set_option maxRecDepth 20000 in
theorem t_BH_night_51 {r : Int32} {σ2 : St} (C : Cx g A p s m av meth c prog_1_method_19_code 3 "BellHammer" (some .int))  : ∀ (n : Nat) (x1 : Int32) (x2 : Int32) (σ : St) (H : Heap) (locs : List Loc) (ls : Array Slot), f_BH_night_51   n x1 x2 σ = some (r, σ2) → Wd g (wX g q) A s σ H locs → lv_has ls 3 [(0, .ref (q 0)), (1, .int x1), (2, .int x2)] → WK p l e s m av below meth c 5 g (wX g q) A (some (.int r)) σ2 H locs (F0 m 51 ls []) := by
  intro n
  induction n with
  | zero => intro x1 x2 σ H locs ls hf; exact absurd hf (by intro z; cases z)
  | succ n ih => intro x1 x2 σ H locs ls hf w hl; exact t_BH_night_51b C  ih hf w hl
set_option maxHeartbeats 4000000 in
set_option maxRecDepth 20000 in
theorem c_BH_night {l : Launch} {g : GX} {q : Nat → Nat}  {σ : St} {r : Int32} {σ2 : St} (hf : f_BH_night   σ = some (r, σ2)) : KK l y_BH_night prog_1_method_19_code 3 (some .int) 5 g (wX g q) σ [.ref (q 0)] (some (.int r)) (wX g q) σ2 := by
  refine KK_of (plainFor_of_name (by decide)) (Nat.le_of_ble_eq_true rfl) (fun p e s m below meth c A ls C w hl => ?_)
  have hl : lv_has ls 3 [(0, .ref (q 0))] := hl
  obtain ⟨hx, hb, hml, hown, hts, hK, hA, hZ, hlocks, hr, hN⟩ := id C
  unfold f_BH_night at hf
  refine lv_aload_n hx hb d_BH_night_0 rfl (lv_at hl 0 rfl) ?_
  refine xg_0_book C w k509 d_BH_night_1 ?_
  refine xg_14_nights C w k338 d_BH_night_4 ?_
  refine lv_sipush (v := 999) hx hb d_BH_night_7 (by decide) ?_
  refine lv_icmp_lt (tgt := 25) hx hb d_BH_night_10 (by decide) (fun cd => ?_) (fun cd => ?_)
  · have hf := it_e cd hf
    refine lv_aload_n hx hb d_BH_night_25 rfl (lv_at hl 0 rfl) ?_
    refine xg_0_book C w k509 d_BH_night_26 ?_
    refine xg_14_takings C w k340 d_BH_night_29 ?_
    refine lv_topi (fun x_1 ex_1 => ?_)
    have hf := lt_e ex_1 hf
    refine lv_istore_n (lv' := [(1, .int x_1), (0, .ref (q 0))]) hx hb d_BH_night_32 rfl hl (by decide) rfl (fun ls hl => ?_)
    refine lv_aload_n hx hb d_BH_night_33 rfl (lv_at hl 1 rfl) ?_
    refine xg_0_book C w k509 d_BH_night_34 ?_
    refine lv_aload_n hx hb d_BH_night_37 rfl (lv_at hl 1 rfl) ?_
    refine xg_0_fair C w k513 d_BH_night_38 ?_
    refine xg_34_settings C w k263 d_BH_night_41 ?_
    refine lv_iconst (v := 4) hx hb d_BH_night_44 (by decide) ?_
    refine xl_39 C w (by decide) d_BH_night_45 ?_
    obtain ⟨σ_3, h_2, hf⟩ := bp_e hf
    refine k_callV (As := [.int (sA σ 25 (4 : Int32).toNatClampNeg)]) (rest := []) C w (c_Book_startNight (q := q) h_2) cv_Book_startNight k944 (xr_14 C w) (by decide) hl.1 rfl (Nat.le_of_ble_eq_true rfl) d_BH_night_46 (fun H locs w => ?_)
    show WK p l e s m _ below meth c 5 g (wX g q) A (some (.int r)) σ2 H locs (F0 m 49 ls [])
    refine lv_iconst (v := 0) hx hb d_BH_night_49 (by decide) ?_
    refine lv_istore_n (lv' := [(2, .int 0), (1, .int x_1), (0, .ref (q 0))]) hx hb d_BH_night_50 rfl hl (by decide) rfl (fun ls hl => ?_)
    exact t_BH_night_51 C  FU x_1 0 σ_3 _ _ _ hf w (lv_sub hl [2, 1, 0] rfl)
  · have hf := if_e cd hf
    refine lv_aload_n hx hb d_BH_night_13 rfl (lv_at hl 0 rfl) ?_
    refine xg_0_refused C w k519 d_BH_night_14 ?_
    refine lv_iconst (v := 2) hx hb d_BH_night_17 (by decide) ?_
    refine lv_dup2_11 hx hb d_BH_night_18 rfl rfl ?_
    refine xl_44 C w (by decide) d_BH_night_19 ?_
    refine lv_iconst (v := 1) hx hb d_BH_night_20 (by decide) ?_
    refine lv_iadd hx hb d_BH_night_21 ?_
    refine xs_44 C w (by decide) d_BH_night_22 (fun σ_4 H locs eσ_4 w => ?_)
    have hf := lt_e eσ_4 hf
    refine lv_iconst (v := (-1)) hx hb d_BH_night_23 (by decide) ?_
    obtain ⟨rfl, rfl⟩ := some2_e hf
    exact k_iret C w d_BH_night_24
def f_Book_isInForce (x1 : Int32) (σ : St) : Option (Int32) :=
  if (((sI σ 19) >>> (x1 &&& 31)) &&& 1) = 1 then
    some 1
  else
    some 0
set_option maxHeartbeats 4000000 in
set_option maxRecDepth 20000 in
theorem c_Book_isInForce {l : Launch} {g : GX} {q : Nat → Nat} {x1 : Int32}  {σ : St} {r : Int32} (hf : f_Book_isInForce  x1 σ = some r) : KK l y_Book_isInForce prog_2_method_5_code 2 (some .boolean) 0 g (wX g q) σ [.ref (q 14), .int x1] (some (.int r)) (wX g q) σ := by
  refine KK_of (plainFor_of_name (by decide)) (Nat.le_of_ble_eq_true rfl) (fun p e s m below meth c A ls C w hl => ?_)
  have hl : lv_has ls 2 [(0, .ref (q 14)), (1, .int x1)] := hl
  obtain ⟨hx, hb, hml, hown, hts, hK, hA, hZ, hlocks, hr, hN⟩ := id C
  unfold f_Book_isInForce at hf
  refine lv_aload_n hx hb d_Book_isInForce_0 rfl (lv_at hl 0 rfl) ?_
  refine xg_14_inForce C w k341 d_Book_isInForce_1 ?_
  refine lv_iload_n hx hb d_Book_isInForce_4 rfl (lv_at hl 1 rfl) ?_
  refine lv_ishr hx hb d_Book_isInForce_5 ?_
  refine lv_iconst (v := 1) hx hb d_Book_isInForce_6 (by decide) ?_
  refine lv_iand hx hb d_Book_isInForce_7 ?_
  refine lv_iconst (v := 1) hx hb d_Book_isInForce_8 (by decide) ?_
  refine lv_icmp_ne (tgt := 16) hx hb d_Book_isInForce_9 (by decide) (fun cd => ?_) (fun cd => ?_)
  · have hf := if_e cd hf
    refine lv_iconst (v := 0) hx hb d_Book_isInForce_16 (by decide) ?_
    cases some_e hf
    exact k_zret C w (by decide) d_Book_isInForce_17
  · have hf := it_e cd hf
    refine lv_iconst (v := 1) hx hb d_Book_isInForce_12 (by decide) ?_
    refine lv_goto (tgt := 17) hx hb d_Book_isInForce_13 (by decide) ?_
    cases some_e hf
    exact k_zret C w (by decide) d_Book_isInForce_17
def f_Book_turnRule (x1 : Int32) (σ : St) : Option (St) :=
  bp (f_Book_addAct 3 (sI σ 19) σ) fun σ_2 =>
  lt (uI σ_2 19 ((sI σ_2 19) ^^^ (1 <<< (x1 &&& 31)))) fun σ_3 =>
  some σ_3
set_option maxHeartbeats 4000000 in
set_option maxRecDepth 20000 in
theorem c_Book_turnRule {l : Launch} {g : GX} {q : Nat → Nat} {x1 : Int32}  {σ : St} {σ2 : St} (hf : f_Book_turnRule  x1 σ = some σ2) : KK l y_Book_turnRule prog_2_method_6_code 2 none 2 g (wX g q) σ [.ref (q 14), .int x1] none (wX g q) σ2 := by
  refine KK_of (plainFor_of_name (by decide)) (Nat.le_of_ble_eq_true rfl) (fun p e s m below meth c A ls C w hl => ?_)
  have hl : lv_has ls 2 [(0, .ref (q 14)), (1, .int x1)] := hl
  obtain ⟨hx, hb, hml, hown, hts, hK, hA, hZ, hlocks, hr, hN⟩ := id C
  unfold f_Book_turnRule at hf
  refine lv_aload_n hx hb d_Book_turnRule_0 rfl (lv_at hl 0 rfl) ?_
  refine lv_iconst (v := 3) hx hb d_Book_turnRule_1 (by decide) ?_
  refine lv_aload_n hx hb d_Book_turnRule_2 rfl (lv_at hl 0 rfl) ?_
  refine xg_14_inForce C w k341 d_Book_turnRule_3 ?_
  obtain ⟨σ_2, h_1, hf⟩ := bp_e hf
  refine k_callV (As := [.int 3, .int (sI σ 19)]) (rest := []) C w (c_Book_addAct (q := q) h_1) cv_Book_addAct k948 (xr_14 C w) (by decide) hl.1 rfl (Nat.le_of_ble_eq_true rfl) d_Book_turnRule_6 (fun H locs w => ?_)
  show WK p l e s m _ below meth c 2 g (wX g q) A none σ2 H locs (F0 m 9 ls [])
  refine lv_aload_n hx hb d_Book_turnRule_9 rfl (lv_at hl 0 rfl) ?_
  refine lv_dup hx hb d_Book_turnRule_10 rfl ?_
  refine xg_14_inForce C w k341 d_Book_turnRule_11 ?_
  refine lv_iconst (v := 1) hx hb d_Book_turnRule_14 (by decide) ?_
  refine lv_iload_n hx hb d_Book_turnRule_15 rfl (lv_at hl 1 rfl) ?_
  refine lv_ishl hx hb d_Book_turnRule_16 ?_
  refine lv_ixor hx hb d_Book_turnRule_17 ?_
  refine xp_14_inForce C w k341 d_Book_turnRule_18 (fun σ_3 H locs eσ_3 w => ?_)
  have hf := lt_e eσ_3 hf
  cases some_e hf
  exact k_vret C w d_Book_turnRule_21
def f_BH_rule_27 (σ : St) : Option (Int32 × St) :=
  lt (uA σ 30 (upd (sA σ 30) (3 : Int32).toNatClampNeg ((sA σ 30 (3 : Int32).toNatClampNeg) + 1))) fun σ_1 =>
  some (0, σ_1)
def f_BH_rule (x1 : Int32) (x2 : Int32) (σ : St) : Option (Int32 × St) :=
  if x1 < 0 then
    f_BH_rule_27 σ
  else
    if (sI σ 55) ≤ x1 then
      f_BH_rule_27 σ
    else
      bp (f_Book_isInForce x1 σ) fun r_2 =>
      if r_2 = x2 then
        f_BH_rule_27 σ
      else
        bp (f_Book_turnRule x1 σ) fun σ_4 =>
        some (1, σ_4)
set_option maxHeartbeats 4000000 in
set_option maxRecDepth 20000 in
theorem t_BH_rule_27 {r : Int32} {σ2 : St} (C : Cx g A p s m av meth c prog_1_method_20_code 3 "BellHammer" (some .boolean))  {σ : St} {H : Heap} {locs : List Loc} {ls : Array Slot} (hf : f_BH_rule_27    σ = some (r, σ2)) (w : Wd g (wX g q) A s σ H locs) (hl : lv_has ls 3 [(0, .ref (q 0))]) : WK p l e s m av below meth c 3 g (wX g q) A (some (.int r)) σ2 H locs (F0 m 27 ls []) := by
  obtain ⟨hx, hb, hml, hown, hts, hK, hA, hZ, hlocks, hr, hN⟩ := id C
  unfold f_BH_rule_27 at hf
  refine lv_aload_n hx hb d_BH_rule_27 rfl (lv_at hl 0 rfl) ?_
  refine xg_0_refused C w k519 d_BH_rule_28 ?_
  refine lv_iconst (v := 3) hx hb d_BH_rule_31 (by decide) ?_
  refine lv_dup2_11 hx hb d_BH_rule_32 rfl rfl ?_
  refine xl_44 C w (by decide) d_BH_rule_33 ?_
  refine lv_iconst (v := 1) hx hb d_BH_rule_34 (by decide) ?_
  refine lv_iadd hx hb d_BH_rule_35 ?_
  refine xs_44 C w (by decide) d_BH_rule_36 (fun σ_1 H locs eσ_1 w => ?_)
  have hf := lt_e eσ_1 hf
  refine lv_iconst (v := 0) hx hb d_BH_rule_37 (by decide) ?_
  obtain ⟨rfl, rfl⟩ := some2_e hf
  exact k_zret C w (by decide) d_BH_rule_38
set_option maxHeartbeats 4000000 in
set_option maxRecDepth 20000 in
theorem c_BH_rule {l : Launch} {g : GX} {q : Nat → Nat} {x1 : Int32} {x2 : Int32}  {σ : St} {r : Int32} {σ2 : St} (hf : f_BH_rule  x1 x2 σ = some (r, σ2)) : KK l y_BH_rule prog_1_method_20_code 3 (some .boolean) 3 g (wX g q) σ [.ref (q 0), .int x1, .int x2] (some (.int r)) (wX g q) σ2 := by
  refine KK_of (plainFor_of_name (by decide)) (Nat.le_of_ble_eq_true rfl) (fun p e s m below meth c A ls C w hl => ?_)
  have hl : lv_has ls 3 [(0, .ref (q 0)), (1, .int x1), (2, .int x2)] := hl
  obtain ⟨hx, hb, hml, hown, hts, hK, hA, hZ, hlocks, hr, hN⟩ := id C
  unfold f_BH_rule at hf
  refine lv_iload_n hx hb d_BH_rule_0 rfl (lv_at hl 1 rfl) ?_
  refine lv_if_lt (tgt := 27) hx hb d_BH_rule_1 (by decide) (fun cd => ?_) (fun cd => ?_)
  · have hf := it_e cd hf
    exact t_BH_rule_27 C  hf w (lv_sub hl [0] rfl)
  · have hf := if_e cd hf
    refine lv_iload_n hx hb d_BH_rule_4 rfl (lv_at hl 1 rfl) ?_
    refine lv_aload_n hx hb d_BH_rule_5 rfl (lv_at hl 0 rfl) ?_
    refine xg_0_fair C w k513 d_BH_rule_6 ?_
    refine xg_34_rules C w k282 d_BH_rule_9 ?_
    refine lv_icmp_ge (tgt := 27) hx hb d_BH_rule_12 (by decide) (fun cd => ?_) (fun cd => ?_)
    · have hf := it_e cd hf
      exact t_BH_rule_27 C  hf w (lv_sub hl [0] rfl)
    · have hf := if_e cd hf
      refine lv_aload_n hx hb d_BH_rule_15 rfl (lv_at hl 0 rfl) ?_
      refine xg_0_book C w k509 d_BH_rule_16 ?_
      refine lv_iload_n hx hb d_BH_rule_19 rfl (lv_at hl 1 rfl) ?_
      obtain ⟨r_2, h_1, hf⟩ := bp_e hf
      refine k_callV (As := [.int x1]) (rest := []) C w (c_Book_isInForce (q := q) h_1) cv_Book_isInForce k976 (xr_14 C w) (by decide) hl.1 rfl (Nat.le_of_ble_eq_true rfl) d_BH_rule_20 (fun H locs w => ?_)
      show WK p l e s m _ below meth c 3 g (wX g q) A (some (.int r)) σ2 H locs (F0 m 23 ls [.int r_2])
      refine lv_iload_n hx hb d_BH_rule_23 rfl (lv_at hl 2 rfl) ?_
      refine lv_icmp_ne (tgt := 39) hx hb d_BH_rule_24 (by decide) (fun cd => ?_) (fun cd => ?_)
      · have hf := if_e cd hf
        refine lv_aload_n hx hb d_BH_rule_39 rfl (lv_at hl 0 rfl) ?_
        refine xg_0_book C w k509 d_BH_rule_40 ?_
        refine lv_iload_n hx hb d_BH_rule_43 rfl (lv_at hl 1 rfl) ?_
        obtain ⟨σ_4, h_3, hf⟩ := bp_e hf
        refine k_callV (As := [.int x1]) (rest := []) C w (c_Book_turnRule (q := q) h_3) cv_Book_turnRule k980 (xr_14 C w) (by decide) hl.1 rfl (Nat.le_of_ble_eq_true rfl) d_BH_rule_44 (fun H locs w => ?_)
        show WK p l e s m _ below meth c 3 g (wX g q) A (some (.int r)) σ2 H locs (F0 m 47 ls [])
        refine lv_iconst (v := 1) hx hb d_BH_rule_47 (by decide) ?_
        obtain ⟨rfl, rfl⟩ := some2_e hf
        exact k_zret C w (by decide) d_BH_rule_48
      · have hf := it_e cd hf
        exact t_BH_rule_27 C  hf w (lv_sub hl [0] rfl)
def f_Book_change (x1 : Int32) (x2 : Int32) (σ : St) : Option (Int32 × St) :=
  gd (inB x1 3) <|
  lt ((sA σ 9 x1.toNatClampNeg)) fun x_2 =>
  bp (f_Book_addAct x1 x_2 σ) fun σ_4 =>
  gd (inB x1 3) <|
  lt (uA σ_4 9 (upd (sA σ_4 9) x1.toNatClampNeg x2)) fun σ_6 =>
  some (x_2, σ_6)
set_option maxHeartbeats 4000000 in
set_option maxRecDepth 20000 in
theorem c_Book_change {l : Launch} {g : GX} {q : Nat → Nat} {x1 : Int32} {x2 : Int32}  {σ : St} {r : Int32} {σ2 : St} (hf : f_Book_change  x1 x2 σ = some (r, σ2)) : KK l y_Book_change prog_2_method_4_code 4 (some .int) 2 g (wX g q) σ [.ref (q 14), .int x1, .int x2] (some (.int r)) (wX g q) σ2 := by
  refine KK_of (plainFor_of_name (by decide)) (Nat.le_of_ble_eq_true rfl) (fun p e s m below meth c A ls C w hl => ?_)
  have hl : lv_has ls 4 [(0, .ref (q 14)), (1, .int x1), (2, .int x2)] := hl
  obtain ⟨hx, hb, hml, hown, hts, hK, hA, hZ, hlocks, hr, hN⟩ := id C
  unfold f_Book_change at hf
  refine lv_aload_n hx hb d_Book_change_0 rfl (lv_at hl 0 rfl) ?_
  refine xg_14_now C w k343 d_Book_change_1 ?_
  refine lv_iload_n hx hb d_Book_change_4 rfl (lv_at hl 1 rfl) ?_
  obtain ⟨g_1, hf⟩ := gd_e hf
  refine xl_15 C w g_1 d_Book_change_5 ?_
  refine lv_topi (fun x_2 ex_2 => ?_)
  have hf := lt_e ex_2 hf
  refine lv_istore_n (lv' := [(3, .int x_2), (0, .ref (q 14)), (1, .int x1), (2, .int x2)]) hx hb d_Book_change_6 rfl hl (by decide) rfl (fun ls hl => ?_)
  refine lv_aload_n hx hb d_Book_change_7 rfl (lv_at hl 1 rfl) ?_
  refine lv_iload_n hx hb d_Book_change_8 rfl (lv_at hl 2 rfl) ?_
  refine lv_iload_n hx hb d_Book_change_9 rfl (lv_at hl 0 rfl) ?_
  obtain ⟨σ_4, h_3, hf⟩ := bp_e hf
  refine k_callV (As := [.int x1, .int x_2]) (rest := []) C w (c_Book_addAct (q := q) h_3) cv_Book_addAct k948 (xr_14 C w) (by decide) hl.1 rfl (Nat.le_of_ble_eq_true rfl) d_Book_change_10 (fun H locs w => ?_)
  show WK p l e s m _ below meth c 2 g (wX g q) A (some (.int r)) σ2 H locs (F0 m 13 ls [])
  refine lv_aload_n hx hb d_Book_change_13 rfl (lv_at hl 1 rfl) ?_
  refine xg_14_now C w k343 d_Book_change_14 ?_
  refine lv_iload_n hx hb d_Book_change_17 rfl (lv_at hl 2 rfl) ?_
  refine lv_iload_n hx hb d_Book_change_18 rfl (lv_at hl 3 rfl) ?_
  obtain ⟨g_5, hf⟩ := gd_e hf
  refine xs_15 C w g_5 d_Book_change_19 (fun σ_6 H locs eσ_6 w => ?_)
  have hf := lt_e eσ_6 hf
  refine lv_iload_n hx hb d_Book_change_20 rfl (lv_at hl 0 rfl) ?_
  obtain ⟨rfl, rfl⟩ := some2_e hf
  exact k_iret C w d_Book_change_21
def f_BH_set_27 (σ : St) : Option (Int32 × St) :=
  lt (uA σ 30 (upd (sA σ 30) (3 : Int32).toNatClampNeg ((sA σ 30 (3 : Int32).toNatClampNeg) + 1))) fun σ_1 =>
  some ((-1), σ_1)
def f_BH_set (x1 : Int32) (x2 : Int32) (σ : St) : Option (Int32 × St) :=
  if x1 < 0 then
    f_BH_set_27 σ
  else
    if 3 ≤ x1 then
      f_BH_set_27 σ
    else
      gd (inB x1 9) <|
      if x2 < (stV 3 x1) then
        f_BH_set_27 σ
      else
        gd (inB x1 9) <|
        if x2 ≤ (stV 4 x1) then
          bd (f_Book_change x1 x2 σ) fun r_4 σ_5 =>
          some (r_4, σ_5)
        else
          f_BH_set_27 σ
set_option maxHeartbeats 4000000 in
set_option maxRecDepth 20000 in
theorem t_BH_set_27 {r : Int32} {σ2 : St} (C : Cx g A p s m av meth c prog_1_method_21_code 3 "BellHammer" (some .int))  {σ : St} {H : Heap} {locs : List Loc} {ls : Array Slot} (hf : f_BH_set_27    σ = some (r, σ2)) (w : Wd g (wX g q) A s σ H locs) (hl : lv_has ls 3 [(0, .ref (q 0))]) : WK p l e s m av below meth c 3 g (wX g q) A (some (.int r)) σ2 H locs (F0 m 27 ls []) := by
  obtain ⟨hx, hb, hml, hown, hts, hK, hA, hZ, hlocks, hr, hN⟩ := id C
  unfold f_BH_set_27 at hf
  refine lv_aload_n hx hb d_BH_set_27 rfl (lv_at hl 0 rfl) ?_
  refine xg_0_refused C w k519 d_BH_set_28 ?_
  refine lv_iconst (v := 3) hx hb d_BH_set_31 (by decide) ?_
  refine lv_dup2_11 hx hb d_BH_set_32 rfl rfl ?_
  refine xl_44 C w (by decide) d_BH_set_33 ?_
  refine lv_iconst (v := 1) hx hb d_BH_set_34 (by decide) ?_
  refine lv_iadd hx hb d_BH_set_35 ?_
  refine xs_44 C w (by decide) d_BH_set_36 (fun σ_1 H locs eσ_1 w => ?_)
  have hf := lt_e eσ_1 hf
  refine lv_iconst (v := (-1)) hx hb d_BH_set_37 (by decide) ?_
  obtain ⟨rfl, rfl⟩ := some2_e hf
  exact k_iret C w d_BH_set_38
set_option maxHeartbeats 4000000 in
set_option maxRecDepth 20000 in
theorem c_BH_set {l : Launch} {g : GX} {q : Nat → Nat} {x1 : Int32} {x2 : Int32}  {σ : St} {r : Int32} {σ2 : St} (hf : f_BH_set  x1 x2 σ = some (r, σ2)) : KK l y_BH_set prog_1_method_21_code 3 (some .int) 3 g (wX g q) σ [.ref (q 0), .int x1, .int x2] (some (.int r)) (wX g q) σ2 := by
  refine KK_of (plainFor_of_name (by decide)) (Nat.le_of_ble_eq_true rfl) (fun p e s m below meth c A ls C w hl => ?_)
  have hl : lv_has ls 3 [(0, .ref (q 0)), (1, .int x1), (2, .int x2)] := hl
  obtain ⟨hx, hb, hml, hown, hts, hK, hA, hZ, hlocks, hr, hN⟩ := id C
  unfold f_BH_set at hf
  refine lv_iload_n hx hb d_BH_set_0 rfl (lv_at hl 1 rfl) ?_
  refine lv_if_lt (tgt := 27) hx hb d_BH_set_1 (by decide) (fun cd => ?_) (fun cd => ?_)
  · have hf := it_e cd hf
    exact t_BH_set_27 C  hf w (lv_sub hl [0] rfl)
  · have hf := if_e cd hf
    refine lv_iload_n hx hb d_BH_set_4 rfl (lv_at hl 1 rfl) ?_
    refine lv_iconst (v := 3) hx hb d_BH_set_5 (by decide) ?_
    refine lv_icmp_ge (tgt := 27) hx hb d_BH_set_6 (by decide) (fun cd => ?_) (fun cd => ?_)
    · have hf := it_e cd hf
      exact t_BH_set_27 C  hf w (lv_sub hl [0] rfl)
    · have hf := if_e cd hf
      refine lv_iload_n hx hb d_BH_set_9 rfl (lv_at hl 2 rfl) ?_
      refine r_gets C w 3 rfl k988 d_BH_set_10 ?_
      refine lv_iload_n hx hb d_BH_set_13 rfl (lv_at hl 1 rfl) ?_
      obtain ⟨g_1, hf⟩ := gd_e hf
      refine r_sld C w 3 rfl g_1 d_BH_set_14 ?_
      refine lv_icmp_lt (tgt := 27) hx hb d_BH_set_15 (by decide) (fun cd => ?_) (fun cd => ?_)
      · have hf := it_e cd hf
        exact t_BH_set_27 C  hf w (lv_sub hl [0] rfl)
      · have hf := if_e cd hf
        refine lv_iload_n hx hb d_BH_set_18 rfl (lv_at hl 2 rfl) ?_
        refine r_gets C w 4 rfl k989 d_BH_set_19 ?_
        refine lv_iload_n hx hb d_BH_set_22 rfl (lv_at hl 1 rfl) ?_
        obtain ⟨g_2, hf⟩ := gd_e hf
        refine r_sld C w 4 rfl g_2 d_BH_set_23 ?_
        refine lv_icmp_le (tgt := 39) hx hb d_BH_set_24 (by decide) (fun cd => ?_) (fun cd => ?_)
        · have hf := it_e cd hf
          refine lv_aload_n hx hb d_BH_set_39 rfl (lv_at hl 0 rfl) ?_
          refine xg_0_book C w k509 d_BH_set_40 ?_
          refine lv_iload_n hx hb d_BH_set_43 rfl (lv_at hl 1 rfl) ?_
          refine lv_iload_n hx hb d_BH_set_44 rfl (lv_at hl 2 rfl) ?_
          obtain ⟨r_4, σ_5, h_3, hf⟩ := bd_e hf
          refine k_callV (As := [.int x1, .int x2]) (rest := []) C w (c_Book_change (q := q) h_3) cv_Book_change k990 (xr_14 C w) (by decide) hl.1 rfl (Nat.le_of_ble_eq_true rfl) d_BH_set_45 (fun H locs w => ?_)
          show WK p l e s m _ below meth c 3 g (wX g q) A (some (.int r)) σ2 H locs (F0 m 48 ls [.int r_4])
          obtain ⟨rfl, rfl⟩ := some2_e hf
          exact k_iret C w d_BH_set_48
        · have hf := if_e cd hf
          exact t_BH_set_27 C  hf w (lv_sub hl [0] rfl)
def f_Book_takeBack (σ : St) : Option (St) :=
  if (sI σ 23) = 0 then
    some σ
  else
    lt (uI σ 23 ((sI σ 23) - 1)) fun σ_1 =>
    gd (inB (sI σ_1 23) 20) <|
    lt ((sA σ_1 10 (sI σ_1 23).toNatClampNeg)) fun x_3 =>
    if 3 ≤ x_3 then
      if x_3 = 3 then
        gd (inB (sI σ_1 23) 20) <|
        lt (uI σ_1 19 (sA σ_1 11 (sI σ_1 23).toNatClampNeg)) fun σ_10 =>
        some σ_10
      else
        lt (uI σ_1 17 ((sI σ_1 17) - 1)) fun σ_4 =>
        gd (inB (sI σ_4 23) 20) <|
        lt (uI σ_4 18 (sA σ_4 11 (sI σ_4 23).toNatClampNeg)) fun σ_6 =>
        gd (inB (sI σ_6 23) 20) <|
        lt (uI σ_6 24 ((sI σ_6 24) - (sA σ_6 12 (sI σ_6 23).toNatClampNeg))) fun σ_8 =>
        some σ_8
    else
      gd (inB (sI σ_1 23) 20) <|
      gd (inB x_3 3) <|
      lt (uA σ_1 9 (upd (sA σ_1 9) x_3.toNatClampNeg (sA σ_1 11 (sI σ_1 23).toNatClampNeg))) fun σ_13 =>
      some σ_13
set_option maxHeartbeats 4000000 in
set_option maxRecDepth 20000 in
theorem c_Book_takeBack {l : Launch} {g : GX} {q : Nat → Nat}  {σ : St} {σ2 : St} (hf : f_Book_takeBack   σ = some σ2) : KK l y_Book_takeBack prog_2_method_9_code 2 none 0 g (wX g q) σ [.ref (q 14)] none (wX g q) σ2 := by
  refine KK_of (plainFor_of_name (by decide)) (Nat.le_of_ble_eq_true rfl) (fun p e s m below meth c A ls C w hl => ?_)
  have hl : lv_has ls 2 [(0, .ref (q 14))] := hl
  obtain ⟨hx, hb, hml, hown, hts, hK, hA, hZ, hlocks, hr, hN⟩ := id C
  unfold f_Book_takeBack at hf
  refine lv_aload_n hx hb d_Book_takeBack_0 rfl (lv_at hl 0 rfl) ?_
  refine xg_14_acts C w k351 d_Book_takeBack_1 ?_
  refine lv_if_ne (tgt := 8) hx hb d_Book_takeBack_4 (by decide) (fun cd => ?_) (fun cd => ?_)
  · have hf := if_e cd hf
    refine lv_aload_n hx hb d_Book_takeBack_8 rfl (lv_at hl 0 rfl) ?_
    refine lv_dup hx hb d_Book_takeBack_9 rfl ?_
    refine xg_14_acts C w k351 d_Book_takeBack_10 ?_
    refine lv_iconst (v := 1) hx hb d_Book_takeBack_13 (by decide) ?_
    refine lv_isub hx hb d_Book_takeBack_14 ?_
    refine xp_14_acts C w k351 d_Book_takeBack_15 (fun σ_1 H locs eσ_1 w => ?_)
    have hf := lt_e eσ_1 hf
    refine lv_aload_n hx hb d_Book_takeBack_18 rfl (lv_at hl 0 rfl) ?_
    refine xg_14_actKind C w k353 d_Book_takeBack_19 ?_
    refine lv_aload_n hx hb d_Book_takeBack_22 rfl (lv_at hl 0 rfl) ?_
    refine xg_14_acts C w k351 d_Book_takeBack_23 ?_
    obtain ⟨g_2, hf⟩ := gd_e hf
    refine xl_16 C w g_2 d_Book_takeBack_26 ?_
    refine lv_topi (fun x_3 ex_3 => ?_)
    have hf := lt_e ex_3 hf
    refine lv_istore_n (lv' := [(1, .int x_3), (0, .ref (q 14))]) hx hb d_Book_takeBack_27 rfl hl (by decide) rfl (fun ls hl => ?_)
    refine lv_iload_n hx hb d_Book_takeBack_28 rfl (lv_at hl 0 rfl) ?_
    refine lv_iconst (v := 3) hx hb d_Book_takeBack_29 (by decide) ?_
    refine lv_icmp_ge (tgt := 51) hx hb d_Book_takeBack_30 (by decide) (fun cd => ?_) (fun cd => ?_)
    · have hf := it_e cd hf
      refine lv_iload_n hx hb d_Book_takeBack_51 rfl (lv_at hl 0 rfl) ?_
      refine lv_iconst (v := 3) hx hb d_Book_takeBack_52 (by decide) ?_
      refine lv_icmp_ne (tgt := 72) hx hb d_Book_takeBack_53 (by decide) (fun cd => ?_) (fun cd => ?_)
      · have hf := if_e cd hf
        refine lv_aload_n hx hb d_Book_takeBack_72 rfl (lv_at hl 1 rfl) ?_
        refine lv_dup hx hb d_Book_takeBack_73 rfl ?_
        refine xg_14_nights C w k337 d_Book_takeBack_74 ?_
        refine lv_iconst (v := 1) hx hb d_Book_takeBack_77 (by decide) ?_
        refine lv_isub hx hb d_Book_takeBack_78 ?_
        refine xp_14_nights C w k337 d_Book_takeBack_79 (fun σ_4 H locs eσ_4 w => ?_)
        have hf := lt_e eσ_4 hf
        refine lv_aload_n hx hb d_Book_takeBack_82 rfl (lv_at hl 1 rfl) ?_
        refine lv_aload_n hx hb d_Book_takeBack_83 rfl (lv_at hl 1 rfl) ?_
        refine xg_14_actOld C w k354 d_Book_takeBack_84 ?_
        refine lv_aload_n hx hb d_Book_takeBack_87 rfl (lv_at hl 1 rfl) ?_
        refine xg_14_acts C w k351 d_Book_takeBack_88 ?_
        obtain ⟨g_5, hf⟩ := gd_e hf
        refine xl_17 C w g_5 d_Book_takeBack_91 ?_
        refine xp_14_takings C w k339 d_Book_takeBack_92 (fun σ_6 H locs eσ_6 w => ?_)
        have hf := lt_e eσ_6 hf
        refine lv_aload_n hx hb d_Book_takeBack_95 rfl (lv_at hl 1 rfl) ?_
        refine lv_dup hx hb d_Book_takeBack_96 rfl ?_
        refine xg_14_keptBlows C w k357 d_Book_takeBack_97 ?_
        refine lv_aload_n hx hb d_Book_takeBack_100 rfl (lv_at hl 1 rfl) ?_
        refine xg_14_actBlows C w k355 d_Book_takeBack_101 ?_
        refine lv_aload_n hx hb d_Book_takeBack_104 rfl (lv_at hl 1 rfl) ?_
        refine xg_14_acts C w k351 d_Book_takeBack_105 ?_
        obtain ⟨g_7, hf⟩ := gd_e hf
        refine xl_18 C w g_7 d_Book_takeBack_108 ?_
        refine lv_isub hx hb d_Book_takeBack_109 ?_
        refine xp_14_keptBlows C w k357 d_Book_takeBack_110 (fun σ_8 H locs eσ_8 w => ?_)
        have hf := lt_e eσ_8 hf
        cases some_e hf
        exact k_vret C w d_Book_takeBack_113
      · have hf := it_e cd hf
        refine lv_aload_n hx hb d_Book_takeBack_56 rfl (lv_at hl 1 rfl) ?_
        refine lv_aload_n hx hb d_Book_takeBack_57 rfl (lv_at hl 1 rfl) ?_
        refine xg_14_actOld C w k354 d_Book_takeBack_58 ?_
        refine lv_aload_n hx hb d_Book_takeBack_61 rfl (lv_at hl 1 rfl) ?_
        refine xg_14_acts C w k351 d_Book_takeBack_62 ?_
        obtain ⟨g_9, hf⟩ := gd_e hf
        refine xl_17 C w g_9 d_Book_takeBack_65 ?_
        refine xp_14_inForce C w k341 d_Book_takeBack_66 (fun σ_10 H locs eσ_10 w => ?_)
        have hf := lt_e eσ_10 hf
        refine lv_goto (tgt := 113) hx hb d_Book_takeBack_69 (by decide) ?_
        cases some_e hf
        exact k_vret C w d_Book_takeBack_113
    · have hf := if_e cd hf
      refine lv_aload_n hx hb d_Book_takeBack_33 rfl (lv_at hl 1 rfl) ?_
      refine xg_14_now C w k343 d_Book_takeBack_34 ?_
      refine lv_iload_n hx hb d_Book_takeBack_37 rfl (lv_at hl 0 rfl) ?_
      refine lv_aload_n hx hb d_Book_takeBack_38 rfl (lv_at hl 1 rfl) ?_
      refine xg_14_actOld C w k354 d_Book_takeBack_39 ?_
      refine lv_aload_n hx hb d_Book_takeBack_42 rfl (lv_at hl 1 rfl) ?_
      refine xg_14_acts C w k351 d_Book_takeBack_43 ?_
      obtain ⟨g_11, hf⟩ := gd_e hf
      refine xl_17 C w g_11 d_Book_takeBack_46 ?_
      obtain ⟨g_12, hf⟩ := gd_e hf
      refine xs_15 C w g_12 d_Book_takeBack_47 (fun σ_13 H locs eσ_13 w => ?_)
      have hf := lt_e eσ_13 hf
      refine lv_goto (tgt := 113) hx hb d_Book_takeBack_48 (by decide) ?_
      cases some_e hf
      exact k_vret C w d_Book_takeBack_113
  · have hf := it_e cd hf
    cases some_e hf
    exact k_vret C w d_Book_takeBack_7
def f_BH_undo (σ : St) : Option (Int32 × St) :=
  if (sI σ 23) = 0 then
    lt (uA σ 30 (upd (sA σ 30) (4 : Int32).toNatClampNeg ((sA σ 30 (4 : Int32).toNatClampNeg) + 1))) fun σ_3 =>
    some (0, σ_3)
  else
    bp (f_Book_takeBack σ) fun σ_2 =>
    some (1, σ_2)
set_option maxHeartbeats 4000000 in
set_option maxRecDepth 20000 in
theorem c_BH_undo {l : Launch} {g : GX} {q : Nat → Nat}  {σ : St} {r : Int32} {σ2 : St} (hf : f_BH_undo   σ = some (r, σ2)) : KK l y_BH_undo prog_1_method_22_code 1 (some .boolean) 1 g (wX g q) σ [.ref (q 0)] (some (.int r)) (wX g q) σ2 := by
  refine KK_of (plainFor_of_name (by decide)) (Nat.le_of_ble_eq_true rfl) (fun p e s m below meth c A ls C w hl => ?_)
  have hl : lv_has ls 1 [(0, .ref (q 0))] := hl
  obtain ⟨hx, hb, hml, hown, hts, hK, hA, hZ, hlocks, hr, hN⟩ := id C
  unfold f_BH_undo at hf
  refine lv_aload_n hx hb d_BH_undo_0 rfl (lv_at hl 0 rfl) ?_
  refine xg_0_book C w k509 d_BH_undo_1 ?_
  refine xg_14_acts C w k352 d_BH_undo_4 ?_
  refine lv_if_ne (tgt := 22) hx hb d_BH_undo_7 (by decide) (fun cd => ?_) (fun cd => ?_)
  · have hf := if_e cd hf
    refine lv_aload_n hx hb d_BH_undo_22 rfl (lv_at hl 0 rfl) ?_
    refine xg_0_book C w k509 d_BH_undo_23 ?_
    obtain ⟨σ_2, h_1, hf⟩ := bp_e hf
    refine k_callV (As := []) (rest := []) C w (c_Book_takeBack (q := q) h_1) cv_Book_takeBack k998 (xr_14 C w) (by decide) hl.1 rfl (Nat.le_of_ble_eq_true rfl) d_BH_undo_26 (fun H locs w => ?_)
    show WK p l e s m _ below meth c 1 g (wX g q) A (some (.int r)) σ2 H locs (F0 m 29 ls [])
    refine lv_iconst (v := 1) hx hb d_BH_undo_29 (by decide) ?_
    obtain ⟨rfl, rfl⟩ := some2_e hf
    exact k_zret C w (by decide) d_BH_undo_30
  · have hf := it_e cd hf
    refine lv_aload_n hx hb d_BH_undo_10 rfl (lv_at hl 0 rfl) ?_
    refine xg_0_refused C w k519 d_BH_undo_11 ?_
    refine lv_iconst (v := 4) hx hb d_BH_undo_14 (by decide) ?_
    refine lv_dup2_11 hx hb d_BH_undo_15 rfl rfl ?_
    refine xl_44 C w (by decide) d_BH_undo_16 ?_
    refine lv_iconst (v := 1) hx hb d_BH_undo_17 (by decide) ?_
    refine lv_iadd hx hb d_BH_undo_18 ?_
    refine xs_44 C w (by decide) d_BH_undo_19 (fun σ_3 H locs eσ_3 w => ?_)
    have hf := lt_e eσ_3 hf
    refine lv_iconst (v := 0) hx hb d_BH_undo_20 (by decide) ?_
    obtain ⟨rfl, rfl⟩ := some2_e hf
    exact k_zret C w (by decide) d_BH_undo_21
def f_BH_seed (x1 : Int32) (σ : St) : Option (Int32 × St) :=
  if 0 ≤ x1 then
    lt (uI σ 22 x1) fun σ_1 =>
    some (1, σ_1)
  else
    lt (uA σ 30 (upd (sA σ 30) (5 : Int32).toNatClampNeg ((sA σ 30 (5 : Int32).toNatClampNeg) + 1))) fun σ_2 =>
    some (0, σ_2)
set_option maxHeartbeats 4000000 in
set_option maxRecDepth 20000 in
theorem c_BH_seed {l : Launch} {g : GX} {q : Nat → Nat} {x1 : Int32}  {σ : St} {r : Int32} {σ2 : St} (hf : f_BH_seed  x1 σ = some (r, σ2)) : KK l y_BH_seed prog_1_method_23_code 2 (some .boolean) 0 g (wX g q) σ [.ref (q 0), .int x1] (some (.int r)) (wX g q) σ2 := by
  refine KK_of (plainFor_of_name (by decide)) (Nat.le_of_ble_eq_true rfl) (fun p e s m below meth c A ls C w hl => ?_)
  have hl : lv_has ls 2 [(0, .ref (q 0)), (1, .int x1)] := hl
  obtain ⟨hx, hb, hml, hown, hts, hK, hA, hZ, hlocks, hr, hN⟩ := id C
  unfold f_BH_seed at hf
  refine lv_iload_n hx hb d_BH_seed_0 rfl (lv_at hl 1 rfl) ?_
  refine lv_if_ge (tgt := 16) hx hb d_BH_seed_1 (by decide) (fun cd => ?_) (fun cd => ?_)
  · have hf := it_e cd hf
    refine lv_aload_n hx hb d_BH_seed_16 rfl (lv_at hl 0 rfl) ?_
    refine xg_0_book C w k509 d_BH_seed_17 ?_
    refine lv_iload_n hx hb d_BH_seed_20 rfl (lv_at hl 1 rfl) ?_
    refine xp_14_seed C w k350 d_BH_seed_21 (fun σ_1 H locs eσ_1 w => ?_)
    have hf := lt_e eσ_1 hf
    refine lv_iconst (v := 1) hx hb d_BH_seed_24 (by decide) ?_
    obtain ⟨rfl, rfl⟩ := some2_e hf
    exact k_zret C w (by decide) d_BH_seed_25
  · have hf := if_e cd hf
    refine lv_aload_n hx hb d_BH_seed_4 rfl (lv_at hl 0 rfl) ?_
    refine xg_0_refused C w k519 d_BH_seed_5 ?_
    refine lv_iconst (v := 5) hx hb d_BH_seed_8 (by decide) ?_
    refine lv_dup2_11 hx hb d_BH_seed_9 rfl rfl ?_
    refine xl_44 C w (by decide) d_BH_seed_10 ?_
    refine lv_iconst (v := 1) hx hb d_BH_seed_11 (by decide) ?_
    refine lv_iadd hx hb d_BH_seed_12 ?_
    refine xs_44 C w (by decide) d_BH_seed_13 (fun σ_2 H locs eσ_2 w => ?_)
    have hf := lt_e eσ_2 hf
    refine lv_iconst (v := 0) hx hb d_BH_seed_14 (by decide) ?_
    obtain ⟨rfl, rfl⟩ := some2_e hf
    exact k_zret C w (by decide) d_BH_seed_15
def f_Book_told (x1 : Int32) (x2 : Int32) (σ : St) : Option (Int32) :=
  bp (f_Book_toldBlows σ) fun r_2 =>
  lt ((((sI σ 24) - r_2) + x1)) fun x_3 =>
  if 0 ≤ x_3 then
    gd (inB (iR x_3 700) 700) <|
    lt ((sA σ 13 (iR x_3 700).toNatClampNeg)) fun x_5 =>
    if x2 = 0 then
      some (x_5 >>> (14 &&& 31))
    else
      if x2 = 1 then
        some ((x_5 >>> (11 &&& 31)) &&& 7)
      else
        if x2 = 2 then
          some ((x_5 >>> (8 &&& 31)) &&& 7)
        else
          if x2 = 3 then
            some ((x_5 >>> (7 &&& 31)) &&& 1)
          else
            if x2 = 4 then
              some (x_5 &&& 127)
            else
              some (-1)
  else
    some (-1)
set_option maxHeartbeats 4000000 in
set_option maxRecDepth 20000 in
theorem c_Book_told {l : Launch} {g : GX} {q : Nat → Nat} {x1 : Int32} {x2 : Int32}  {σ : St} {r : Int32} (hf : f_Book_told  x1 x2 σ = some r) : KK l y_Book_told prog_2_method_11_code 5 (some .int) 2 g (wX g q) σ [.ref (q 14), .int x1, .int x2] (some (.int r)) (wX g q) σ := by
  refine KK_of (plainFor_of_name (by decide)) (Nat.le_of_ble_eq_true rfl) (fun p e s m below meth c A ls C w hl => ?_)
  have hl : lv_has ls 5 [(0, .ref (q 14)), (1, .int x1), (2, .int x2)] := hl
  obtain ⟨hx, hb, hml, hown, hts, hK, hA, hZ, hlocks, hr, hN⟩ := id C
  unfold f_Book_told at hf
  refine lv_aload_n hx hb d_Book_told_0 rfl (lv_at hl 0 rfl) ?_
  refine xg_14_keptBlows C w k357 d_Book_told_1 ?_
  refine lv_aload_n hx hb d_Book_told_4 rfl (lv_at hl 0 rfl) ?_
  obtain ⟨r_2, h_1, hf⟩ := bp_e hf
  refine k_callV (As := []) (rest := [.int (sI σ 24)]) C w (c_Book_toldBlows (q := q) h_1) cv_Book_toldBlows k1014 (xr_14 C w) (by decide) hl.1 rfl (Nat.le_of_ble_eq_true rfl) d_Book_told_5 (fun H locs w => ?_)
  show WK p l e s m _ below meth c 2 g (wX g q) A (some (.int r)) σ H locs (F0 m 8 ls [.int r_2, .int (sI σ 24)])
  refine lv_isub hx hb d_Book_told_8 ?_
  refine lv_iload_n hx hb d_Book_told_9 rfl (lv_at hl 1 rfl) ?_
  refine lv_iadd hx hb d_Book_told_10 ?_
  refine lv_topi (fun x_3 ex_3 => ?_)
  have hf := lt_e ex_3 hf
  refine lv_istore_n (lv' := [(3, .int x_3), (0, .ref (q 14)), (1, .int x1), (2, .int x2)]) hx hb d_Book_told_11 rfl hl (by decide) rfl (fun ls hl => ?_)
  refine lv_iload_n hx hb d_Book_told_12 rfl (lv_at hl 0 rfl) ?_
  refine lv_if_ge (tgt := 18) hx hb d_Book_told_13 (by decide) (fun cd => ?_) (fun cd => ?_)
  · have hf := it_e cd hf
    refine lv_aload_n hx hb d_Book_told_18 rfl (lv_at hl 1 rfl) ?_
    refine xg_14_blows C w k356 d_Book_told_19 ?_
    refine lv_iload_n hx hb d_Book_told_22 rfl (lv_at hl 0 rfl) ?_
    refine lv_sipush (v := 700) hx hb d_Book_told_23 (by decide) ?_
    refine r_irem hx hb d_Book_told_26 (by decide) ?_
    obtain ⟨g_4, hf⟩ := gd_e hf
    refine xl_19 C w g_4 d_Book_told_27 ?_
    refine lv_topi (fun x_5 ex_5 => ?_)
    have hf := lt_e ex_5 hf
    refine lv_istore (lv' := [(4, .int x_5), (3, .int x_3), (0, .ref (q 14)), (1, .int x1), (2, .int x2)]) hx hb d_Book_told_28 hl (by decide) rfl (fun ls hl => ?_)
    refine lv_iload_n hx hb d_Book_told_30 rfl (lv_at hl 4 rfl) ?_
    by_cases c0 : x2 = 0
    · have hf := it_e c0 hf
      refine lv_tableIn (tgt := 64) hx hb d_Book_told_31 (by rw [c0]; decide) (by rw [c0]; decide) (by rw [c0]; rfl) (by decide) ?_
      refine lv_iload hx hb d_Book_told_64 (lv_at hl 0 rfl) ?_
      refine lv_bipush (v := 14) hx hb d_Book_told_66 (by decide) ?_
      refine lv_ishr hx hb d_Book_told_68 ?_
      cases some_e hf
      exact k_iret C w d_Book_told_69
    have hf := if_e c0 hf
    have n0 := lv_neT c0 (a := 0) rfl
    by_cases c1 : x2 = 1
    · have hf := it_e c1 hf
      refine lv_tableIn (tgt := 70) hx hb d_Book_told_31 (by rw [c1]; decide) (by rw [c1]; decide) (by rw [c1]; rfl) (by decide) ?_
      refine lv_iload hx hb d_Book_told_70 (lv_at hl 0 rfl) ?_
      refine lv_bipush (v := 11) hx hb d_Book_told_72 (by decide) ?_
      refine lv_ishr hx hb d_Book_told_74 ?_
      refine lv_bipush (v := 7) hx hb d_Book_told_75 (by decide) ?_
      refine lv_iand hx hb d_Book_told_77 ?_
      cases some_e hf
      exact k_iret C w d_Book_told_78
    have hf := if_e c1 hf
    have n1 := lv_neT c1 (a := 1) rfl
    by_cases c2 : x2 = 2
    · have hf := it_e c2 hf
      refine lv_tableIn (tgt := 79) hx hb d_Book_told_31 (by rw [c2]; decide) (by rw [c2]; decide) (by rw [c2]; rfl) (by decide) ?_
      refine lv_iload hx hb d_Book_told_79 (lv_at hl 0 rfl) ?_
      refine lv_bipush (v := 8) hx hb d_Book_told_81 (by decide) ?_
      refine lv_ishr hx hb d_Book_told_83 ?_
      refine lv_bipush (v := 7) hx hb d_Book_told_84 (by decide) ?_
      refine lv_iand hx hb d_Book_told_86 ?_
      cases some_e hf
      exact k_iret C w d_Book_told_87
    have hf := if_e c2 hf
    have n2 := lv_neT c2 (a := 2) rfl
    by_cases c3 : x2 = 3
    · have hf := it_e c3 hf
      refine lv_tableIn (tgt := 88) hx hb d_Book_told_31 (by rw [c3]; decide) (by rw [c3]; decide) (by rw [c3]; rfl) (by decide) ?_
      refine lv_iload hx hb d_Book_told_88 (lv_at hl 0 rfl) ?_
      refine lv_bipush (v := 7) hx hb d_Book_told_90 (by decide) ?_
      refine lv_ishr hx hb d_Book_told_92 ?_
      refine lv_iconst (v := 1) hx hb d_Book_told_93 (by decide) ?_
      refine lv_iand hx hb d_Book_told_94 ?_
      cases some_e hf
      exact k_iret C w d_Book_told_95
    have hf := if_e c3 hf
    have n3 := lv_neT c3 (a := 3) rfl
    by_cases c4 : x2 = 4
    · have hf := it_e c4 hf
      refine lv_tableIn (tgt := 96) hx hb d_Book_told_31 (by rw [c4]; decide) (by rw [c4]; decide) (by rw [c4]; rfl) (by decide) ?_
      refine lv_iload hx hb d_Book_told_96 (lv_at hl 0 rfl) ?_
      refine lv_bipush (v := 127) hx hb d_Book_told_98 (by decide) ?_
      refine lv_iand hx hb d_Book_told_100 ?_
      cases some_e hf
      exact k_iret C w d_Book_told_101
    have hf := if_e c4 hf
    have n4 := lv_neT c4 (a := 4) rfl
    refine lv_tableOut (tgt := 102) hx hb d_Book_told_31 (by omega) (by decide) ?_
    refine lv_iconst (v := (-1)) hx hb d_Book_told_102 (by decide) ?_
    cases some_e hf
    exact k_iret C w d_Book_told_103
  · have hf := if_e cd hf
    refine lv_iconst (v := (-1)) hx hb d_Book_told_16 (by decide) ?_
    cases some_e hf
    exact k_iret C w d_Book_told_17
def f_BH_kept (x1 : Int32) (x2 : Int32) (σ : St) : Option (Int32) :=
  if x1 < 0 then
    some (-1)
  else
    bp (f_Book_toldBlows σ) fun r_2 =>
    if r_2 ≤ x1 then
      some (-1)
    else
      if x2 < 0 then
        some (-1)
      else
        if x2 ≤ 4 then
          bp (f_Book_told x1 x2 σ) fun r_4 =>
          some r_4
        else
          some (-1)
set_option maxHeartbeats 4000000 in
set_option maxRecDepth 20000 in
theorem c_BH_kept {l : Launch} {g : GX} {q : Nat → Nat} {x1 : Int32} {x2 : Int32}  {σ : St} {r : Int32} (hf : f_BH_kept  x1 x2 σ = some r) : KK l y_BH_kept prog_1_method_24_code 3 (some .int) 3 g (wX g q) σ [.ref (q 0), .int x1, .int x2] (some (.int r)) (wX g q) σ := by
  refine KK_of (plainFor_of_name (by decide)) (Nat.le_of_ble_eq_true rfl) (fun p e s m below meth c A ls C w hl => ?_)
  have hl : lv_has ls 3 [(0, .ref (q 0)), (1, .int x1), (2, .int x2)] := hl
  obtain ⟨hx, hb, hml, hown, hts, hK, hA, hZ, hlocks, hr, hN⟩ := id C
  unfold f_BH_kept at hf
  refine lv_iload_n hx hb d_BH_kept_0 rfl (lv_at hl 1 rfl) ?_
  refine lv_if_lt (tgt := 24) hx hb d_BH_kept_1 (by decide) (fun cd => ?_) (fun cd => ?_)
  · have hf := it_e cd hf
    refine lv_iconst (v := (-1)) hx hb d_BH_kept_24 (by decide) ?_
    cases some_e hf
    exact k_iret C w d_BH_kept_25
  · have hf := if_e cd hf
    refine lv_iload_n hx hb d_BH_kept_4 rfl (lv_at hl 1 rfl) ?_
    refine lv_aload_n hx hb d_BH_kept_5 rfl (lv_at hl 0 rfl) ?_
    refine xg_0_book C w k509 d_BH_kept_6 ?_
    obtain ⟨r_2, h_1, hf⟩ := bp_e hf
    refine k_callV (As := []) (rest := [.int x1]) C w (c_Book_toldBlows (q := q) h_1) cv_Book_toldBlows k720 (xr_14 C w) (by decide) hl.1 rfl (Nat.le_of_ble_eq_true rfl) d_BH_kept_9 (fun H locs w => ?_)
    show WK p l e s m _ below meth c 3 g (wX g q) A (some (.int r)) σ H locs (F0 m 12 ls [.int r_2, .int x1])
    refine lv_icmp_ge (tgt := 24) hx hb d_BH_kept_12 (by decide) (fun cd => ?_) (fun cd => ?_)
    · have hf := it_e cd hf
      refine lv_iconst (v := (-1)) hx hb d_BH_kept_24 (by decide) ?_
      cases some_e hf
      exact k_iret C w d_BH_kept_25
    · have hf := if_e cd hf
      refine lv_iload_n hx hb d_BH_kept_15 rfl (lv_at hl 2 rfl) ?_
      refine lv_if_lt (tgt := 24) hx hb d_BH_kept_16 (by decide) (fun cd => ?_) (fun cd => ?_)
      · have hf := it_e cd hf
        refine lv_iconst (v := (-1)) hx hb d_BH_kept_24 (by decide) ?_
        cases some_e hf
        exact k_iret C w d_BH_kept_25
      · have hf := if_e cd hf
        refine lv_iload_n hx hb d_BH_kept_19 rfl (lv_at hl 2 rfl) ?_
        refine lv_iconst (v := 4) hx hb d_BH_kept_20 (by decide) ?_
        refine lv_icmp_le (tgt := 26) hx hb d_BH_kept_21 (by decide) (fun cd => ?_) (fun cd => ?_)
        · have hf := it_e cd hf
          refine lv_aload_n hx hb d_BH_kept_26 rfl (lv_at hl 0 rfl) ?_
          refine xg_0_book C w k509 d_BH_kept_27 ?_
          refine lv_iload_n hx hb d_BH_kept_30 rfl (lv_at hl 1 rfl) ?_
          refine lv_iload_n hx hb d_BH_kept_31 rfl (lv_at hl 2 rfl) ?_
          obtain ⟨r_4, h_3, hf⟩ := bp_e hf
          refine k_callV (As := [.int x1, .int x2]) (rest := []) C w (c_Book_told (q := q) h_3) cv_Book_told k1010 (xr_14 C w) (by decide) hl.1 rfl (Nat.le_of_ble_eq_true rfl) d_BH_kept_32 (fun H locs w => ?_)
          show WK p l e s m _ below meth c 3 g (wX g q) A (some (.int r)) σ H locs (F0 m 35 ls [.int r_4])
          cases some_e hf
          exact k_iret C w d_BH_kept_35
        · have hf := if_e cd hf
          refine lv_iconst (v := (-1)) hx hb d_BH_kept_24 (by decide) ?_
          cases some_e hf
          exact k_iret C w d_BH_kept_25
def f_BH_canBeSeen_14b (k14 : Int32 → Int32 → St → Option (Int32)) (x1 : Int32) (x2 : Int32) (σ : St) : Option (Int32) :=
  if x1 ≤ x2 then
    some 1
  else
    gd (inB x2 1600) <|
    if (sA σ 0 x2.toNatClampNeg) ≤ (sA σ 9 (0 : Int32).toNatClampNeg) then
      lt ((x2 + 1)) fun x_2 =>
      k14 x1 x_2 σ
    else
      some 0
def f_BH_canBeSeen_14 : Nat → Int32 → Int32 → St → Option (Int32)
  | 0 => fun _ _ _ => none
  | n + 1 => f_BH_canBeSeen_14b   (f_BH_canBeSeen_14   n)
def f_BH_canBeSeen (x1 : Int32) (σ : St) : Option (Int32) :=
  if x1 < 1 then
    some 0
  else
    if x1 ≤ 4 then
      f_BH_canBeSeen_14 FU x1 0 σ
    else
      some 0
set_option maxHeartbeats 4000000 in
set_option maxRecDepth 20000 in
theorem t_BH_canBeSeen_14b {r : Int32} {σ : St} (C : Cx g A p s m av meth c prog_1_method_43_code 3 "BellHammer" (some .boolean)) {k14 : Int32 → Int32 → St → Option (Int32)} (hk14 : ∀ (x1 : Int32) (x2 : Int32) (H : Heap) (locs : List Loc) (ls : Array Slot), k14 x1 x2 σ = some r → Wd g (wX g q) A s σ H locs → lv_has ls 3 [(0, .ref (q 0)), (1, .int x1), (2, .int x2)] → WK p l e s m av below meth c 0 g (wX g q) A (some (.int r)) σ H locs (F0 m 14 ls []))  {x1 : Int32} {x2 : Int32} {H : Heap} {locs : List Loc} {ls : Array Slot} (hf : f_BH_canBeSeen_14b  k14 x1 x2 σ = some r) (w : Wd g (wX g q) A s σ H locs) (hl : lv_has ls 3 [(0, .ref (q 0)), (1, .int x1), (2, .int x2)]) : WK p l e s m av below meth c 0 g (wX g q) A (some (.int r)) σ H locs (F0 m 14 ls []) := by
  obtain ⟨hx, hb, hml, hown, hts, hK, hA, hZ, hlocks, hr, hN⟩ := id C
  unfold f_BH_canBeSeen_14b at hf
  refine lv_iload_n hx hb d_BH_canBeSeen_14 rfl (lv_at hl 2 rfl) ?_
  refine lv_iload_n hx hb d_BH_canBeSeen_15 rfl (lv_at hl 1 rfl) ?_
  refine lv_icmp_ge (tgt := 48) hx hb d_BH_canBeSeen_16 (by decide) (fun cd => ?_) (fun cd => ?_)
  · have hf := it_e cd hf
    refine lv_iconst (v := 1) hx hb d_BH_canBeSeen_48 (by decide) ?_
    cases some_e hf
    exact k_zret C w (by decide) d_BH_canBeSeen_49
  · have hf := if_e cd hf
    refine lv_aload_n hx hb d_BH_canBeSeen_19 rfl (lv_at hl 0 rfl) ?_
    refine xg_0_tape C w k507 d_BH_canBeSeen_20 ?_
    refine xg_1_bytes C w k134 d_BH_canBeSeen_23 ?_
    refine lv_iload_n hx hb d_BH_canBeSeen_26 rfl (lv_at hl 2 rfl) ?_
    obtain ⟨g_1, hf⟩ := gd_e hf
    refine xl_2 C w g_1 d_BH_canBeSeen_27 ?_
    refine lv_aload_n hx hb d_BH_canBeSeen_28 rfl (lv_at hl 0 rfl) ?_
    refine xg_0_book C w k509 d_BH_canBeSeen_29 ?_
    refine xg_14_now C w k344 d_BH_canBeSeen_32 ?_
    refine lv_iconst (v := 0) hx hb d_BH_canBeSeen_35 (by decide) ?_
    refine xl_15 C w (by decide) d_BH_canBeSeen_36 ?_
    refine lv_icmp_le (tgt := 42) hx hb d_BH_canBeSeen_37 (by decide) (fun cd => ?_) (fun cd => ?_)
    · have hf := it_e cd hf
      obtain ⟨x_2, ex_2⟩ : ∃ y : Int32, y = (x2 + 1) := ⟨_, rfl⟩
      have hf := lt_e ex_2 hf
      refine lv_iinc (v := x_2) (lv' := [(2, .int x_2), (0, .ref (q 0)), (1, .int x1)]) hx hb d_BH_canBeSeen_42 hl (k := 2) rfl (by rw [ex_2]; rfl) (by decide) rfl (fun ls hl => ?_)
      refine lv_goto (tgt := 14) hx hb d_BH_canBeSeen_45 (by decide) ?_
      exact hk14 x1 x_2  _ _ _ hf w (lv_sub hl [1, 2, 0] rfl)
    · have hf := if_e cd hf
      refine lv_iconst (v := 0) hx hb d_BH_canBeSeen_40 (by decide) ?_
      cases some_e hf
      exact k_zret C w (by decide) d_BH_canBeSeen_41
set_option maxHeartbeats 4000000 in
set_option maxRecDepth 20000 in
theorem t_BH_canBeSeen_14 {r : Int32} {σ : St} (C : Cx g A p s m av meth c prog_1_method_43_code 3 "BellHammer" (some .boolean))  : ∀ (n : Nat) (x1 : Int32) (x2 : Int32) (H : Heap) (locs : List Loc) (ls : Array Slot), f_BH_canBeSeen_14   n x1 x2 σ = some r → Wd g (wX g q) A s σ H locs → lv_has ls 3 [(0, .ref (q 0)), (1, .int x1), (2, .int x2)] → WK p l e s m av below meth c 0 g (wX g q) A (some (.int r)) σ H locs (F0 m 14 ls []) := by
  intro n
  induction n with
  | zero => intro x1 x2 H locs ls hf; exact absurd hf (by intro z; cases z)
  | succ n ih => intro x1 x2 H locs ls hf w hl; exact t_BH_canBeSeen_14b C  ih hf w hl
set_option maxHeartbeats 4000000 in
set_option maxRecDepth 20000 in
theorem c_BH_canBeSeen {l : Launch} {g : GX} {q : Nat → Nat} {x1 : Int32}  {σ : St} {r : Int32} (hf : f_BH_canBeSeen  x1 σ = some r) : KK l y_BH_canBeSeen prog_1_method_43_code 3 (some .boolean) 0 g (wX g q) σ [.ref (q 0), .int x1] (some (.int r)) (wX g q) σ := by
  refine KK_of (plainFor_of_name (by decide)) (Nat.le_of_ble_eq_true rfl) (fun p e s m below meth c A ls C w hl => ?_)
  have hl : lv_has ls 3 [(0, .ref (q 0)), (1, .int x1)] := hl
  obtain ⟨hx, hb, hml, hown, hts, hK, hA, hZ, hlocks, hr, hN⟩ := id C
  unfold f_BH_canBeSeen at hf
  refine lv_iload_n hx hb d_BH_canBeSeen_0 rfl (lv_at hl 1 rfl) ?_
  refine lv_iconst (v := 1) hx hb d_BH_canBeSeen_1 (by decide) ?_
  refine lv_icmp_lt (tgt := 10) hx hb d_BH_canBeSeen_2 (by decide) (fun cd => ?_) (fun cd => ?_)
  · have hf := it_e cd hf
    refine lv_iconst (v := 0) hx hb d_BH_canBeSeen_10 (by decide) ?_
    cases some_e hf
    exact k_zret C w (by decide) d_BH_canBeSeen_11
  · have hf := if_e cd hf
    refine lv_iload_n hx hb d_BH_canBeSeen_5 rfl (lv_at hl 1 rfl) ?_
    refine lv_iconst (v := 4) hx hb d_BH_canBeSeen_6 (by decide) ?_
    refine lv_icmp_le (tgt := 12) hx hb d_BH_canBeSeen_7 (by decide) (fun cd => ?_) (fun cd => ?_)
    · have hf := it_e cd hf
      refine lv_iconst (v := 0) hx hb d_BH_canBeSeen_12 (by decide) ?_
      refine lv_istore_n (lv' := [(2, .int 0), (0, .ref (q 0)), (1, .int x1)]) hx hb d_BH_canBeSeen_13 rfl hl (by decide) rfl (fun ls hl => ?_)
      exact t_BH_canBeSeen_14 C  FU x1 0  _ _ _ hf w (lv_sub hl [1, 2, 0] rfl)
    · have hf := if_e cd hf
      refine lv_iconst (v := 0) hx hb d_BH_canBeSeen_10 (by decide) ?_
      cases some_e hf
      exact k_zret C w (by decide) d_BH_canBeSeen_11
