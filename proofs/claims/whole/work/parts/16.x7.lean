variable {p : Program} {l : Launch} {e : Env} {s : State} {m : MethodId} {av : Array Value} {below : List Frame} {meth : Method} {c : Code} {g : GX} {q : Nat → Nat} {A : Nat → Prop}
theorem d_BH_see_0 : decode prog_1_method_25_code 0 = .ok (.aload_n 0, 1) := by decide +kernel
theorem d_BH_see_1 : decode prog_1_method_25_code 1 = .ok (.getfield 10, 3) := by decide +kernel
theorem d_BH_see_4 : decode prog_1_method_25_code 4 = .ok (.getfield 68, 3) := by decide +kernel
theorem d_BH_see_7 : decode prog_1_method_25_code 7 = .ok (.istore_n 2, 1) := by decide +kernel
theorem d_BH_see_8 : decode prog_1_method_25_code 8 = .ok (.aload_n 0, 1) := by decide +kernel
theorem d_BH_see_9 : decode prog_1_method_25_code 9 = .ok (.getfield 10, 3) := by decide +kernel
theorem d_BH_see_12 : decode prog_1_method_25_code 12 = .ok (.iconst 0, 1) := by decide +kernel
theorem d_BH_see_13 : decode prog_1_method_25_code 13 = .ok (.putfield 68, 3) := by decide +kernel
theorem d_BH_see_16 : decode prog_1_method_25_code 16 = .ok (.aload_n 0, 1) := by decide +kernel
theorem d_BH_see_17 : decode prog_1_method_25_code 17 = .ok (.iload_n 1, 1) := by decide +kernel
theorem d_BH_see_18 : decode prog_1_method_25_code 18 = .ok (.invokevirtual 144, 3) := by decide +kernel
theorem d_BH_see_21 : decode prog_1_method_25_code 21 = .ok (.ifCond .eq 11, 3) := by decide +kernel
theorem d_BH_see_24 : decode prog_1_method_25_code 24 = .ok (.aload_n 0, 1) := by decide +kernel
theorem d_BH_see_25 : decode prog_1_method_25_code 25 = .ok (.iload_n 2, 1) := by decide +kernel
theorem d_BH_see_26 : decode prog_1_method_25_code 26 = .ok (.invokevirtual 246, 3) := by decide +kernel
theorem d_BH_see_29 : decode prog_1_method_25_code 29 = .ok (.ifCond .ne 15, 3) := by decide +kernel
theorem d_BH_see_32 : decode prog_1_method_25_code 32 = .ok (.aload_n 0, 1) := by decide +kernel
theorem d_BH_see_33 : decode prog_1_method_25_code 33 = .ok (.getfield 65, 3) := by decide +kernel
theorem d_BH_see_36 : decode prog_1_method_25_code 36 = .ok (.iconst 1, 1) := by decide +kernel
theorem d_BH_see_37 : decode prog_1_method_25_code 37 = .ok (.dup2, 1) := by decide +kernel
theorem d_BH_see_38 : decode prog_1_method_25_code 38 = .ok (.iaload, 1) := by decide +kernel
theorem d_BH_see_39 : decode prog_1_method_25_code 39 = .ok (.iconst 1, 1) := by decide +kernel
theorem d_BH_see_40 : decode prog_1_method_25_code 40 = .ok (.iadd, 1) := by decide +kernel
theorem d_BH_see_41 : decode prog_1_method_25_code 41 = .ok (.iastore, 1) := by decide +kernel
theorem d_BH_see_42 : decode prog_1_method_25_code 42 = .ok (.iconst 0, 1) := by decide +kernel
theorem d_BH_see_43 : decode prog_1_method_25_code 43 = .ok (.ireturn, 1) := by decide +kernel
theorem d_BH_see_44 : decode prog_1_method_25_code 44 = .ok (.iconst 0, 1) := by decide +kernel
theorem d_BH_see_45 : decode prog_1_method_25_code 45 = .ok (.istore_n 3, 1) := by decide +kernel
theorem d_BH_see_46 : decode prog_1_method_25_code 46 = .ok (.iload_n 3, 1) := by decide +kernel
theorem d_BH_see_47 : decode prog_1_method_25_code 47 = .ok (.iload_n 2, 1) := by decide +kernel
theorem d_BH_see_48 : decode prog_1_method_25_code 48 = .ok (.if_icmp .ge 24, 3) := by decide +kernel
theorem d_BH_see_51 : decode prog_1_method_25_code 51 = .ok (.aload_n 0, 1) := by decide +kernel
theorem d_BH_see_52 : decode prog_1_method_25_code 52 = .ok (.getfield 58, 3) := by decide +kernel
theorem d_BH_see_55 : decode prog_1_method_25_code 55 = .ok (.iload_n 3, 1) := by decide +kernel
theorem d_BH_see_56 : decode prog_1_method_25_code 56 = .ok (.aload_n 0, 1) := by decide +kernel
theorem d_BH_see_57 : decode prog_1_method_25_code 57 = .ok (.getfield 10, 3) := by decide +kernel
theorem d_BH_see_60 : decode prog_1_method_25_code 60 = .ok (.getfield 76, 3) := by decide +kernel
theorem d_BH_see_63 : decode prog_1_method_25_code 63 = .ok (.iload_n 3, 1) := by decide +kernel
theorem d_BH_see_64 : decode prog_1_method_25_code 64 = .ok (.iaload, 1) := by decide +kernel
theorem d_BH_see_65 : decode prog_1_method_25_code 65 = .ok (.iastore, 1) := by decide +kernel
theorem d_BH_see_66 : decode prog_1_method_25_code 66 = .ok (.iinc 3 1, 3) := by decide +kernel
theorem d_BH_see_69 : decode prog_1_method_25_code 69 = .ok (.goto (-23), 3) := by decide +kernel
theorem d_BH_see_72 : decode prog_1_method_25_code 72 = .ok (.aload_n 0, 1) := by decide +kernel
theorem d_BH_see_73 : decode prog_1_method_25_code 73 = .ok (.iload_n 2, 1) := by decide +kernel
theorem d_BH_see_74 : decode prog_1_method_25_code 74 = .ok (.putfield 90, 3) := by decide +kernel
theorem d_BH_see_77 : decode prog_1_method_25_code 77 = .ok (.aload_n 0, 1) := by decide +kernel
theorem d_BH_see_78 : decode prog_1_method_25_code 78 = .ok (.iload_n 1, 1) := by decide +kernel
theorem d_BH_see_79 : decode prog_1_method_25_code 79 = .ok (.putfield 249, 3) := by decide +kernel
theorem d_BH_see_82 : decode prog_1_method_25_code 82 = .ok (.iconst 1, 1) := by decide +kernel
theorem d_BH_see_83 : decode prog_1_method_25_code 83 = .ok (.ireturn, 1) := by decide +kernel
theorem d_BH_waysOfBlow_0 : decode prog_1_method_45_code 0 = .ok (.iload_n 1, 1) := by decide +kernel
theorem d_BH_waysOfBlow_1 : decode prog_1_method_45_code 1 = .ok (.ifCond .lt 12, 3) := by decide +kernel
theorem d_BH_waysOfBlow_4 : decode prog_1_method_45_code 4 = .ok (.iload_n 1, 1) := by decide +kernel
theorem d_BH_waysOfBlow_5 : decode prog_1_method_45_code 5 = .ok (.aload_n 0, 1) := by decide +kernel
theorem d_BH_waysOfBlow_6 : decode prog_1_method_45_code 6 = .ok (.getfield 58, 3) := by decide +kernel
theorem d_BH_waysOfBlow_9 : decode prog_1_method_45_code 9 = .ok (.arraylength, 1) := by decide +kernel
theorem d_BH_waysOfBlow_10 : decode prog_1_method_45_code 10 = .ok (.if_icmp .lt 5, 3) := by decide +kernel
theorem d_BH_waysOfBlow_13 : decode prog_1_method_45_code 13 = .ok (.iconst 0, 1) := by decide +kernel
theorem d_BH_waysOfBlow_14 : decode prog_1_method_45_code 14 = .ok (.ireturn, 1) := by decide +kernel
theorem d_BH_waysOfBlow_15 : decode prog_1_method_45_code 15 = .ok (.iconst 0, 1) := by decide +kernel
theorem d_BH_waysOfBlow_16 : decode prog_1_method_45_code 16 = .ok (.istore_n 3, 1) := by decide +kernel
theorem d_BH_waysOfBlow_17 : decode prog_1_method_45_code 17 = .ok (.iconst 0, 1) := by decide +kernel
theorem d_BH_waysOfBlow_18 : decode prog_1_method_45_code 18 = .ok (.istore 4, 2) := by decide +kernel
theorem d_BH_waysOfBlow_20 : decode prog_1_method_45_code 20 = .ok (.iload 4, 2) := by decide +kernel
theorem d_BH_waysOfBlow_22 : decode prog_1_method_45_code 22 = .ok (.aload_n 0, 1) := by decide +kernel
theorem d_BH_waysOfBlow_23 : decode prog_1_method_45_code 23 = .ok (.getfield 40, 3) := by decide +kernel
theorem d_BH_waysOfBlow_26 : decode prog_1_method_45_code 26 = .ok (.getfield 262, 3) := by decide +kernel
theorem d_BH_waysOfBlow_29 : decode prog_1_method_45_code 29 = .ok (.if_icmp .gt 32, 3) := by decide +kernel
theorem d_BH_waysOfBlow_32 : decode prog_1_method_45_code 32 = .ok (.aload_n 0, 1) := by decide +kernel
theorem d_BH_waysOfBlow_33 : decode prog_1_method_45_code 33 = .ok (.getfield 40, 3) := by decide +kernel
theorem d_BH_waysOfBlow_36 : decode prog_1_method_45_code 36 = .ok (.iload_n 1, 1) := by decide +kernel
theorem d_BH_waysOfBlow_37 : decode prog_1_method_45_code 37 = .ok (.iload 4, 2) := by decide +kernel
theorem d_BH_waysOfBlow_39 : decode prog_1_method_45_code 39 = .ok (.iload_n 2, 1) := by decide +kernel
theorem d_BH_waysOfBlow_40 : decode prog_1_method_45_code 40 = .ok (.invokevirtual 167, 3) := by decide +kernel
theorem d_BH_waysOfBlow_43 : decode prog_1_method_45_code 43 = .ok (.aload_n 0, 1) := by decide +kernel
theorem d_BH_waysOfBlow_44 : decode prog_1_method_45_code 44 = .ok (.getfield 58, 3) := by decide +kernel
theorem d_BH_waysOfBlow_47 : decode prog_1_method_45_code 47 = .ok (.iload_n 1, 1) := by decide +kernel
theorem d_BH_waysOfBlow_48 : decode prog_1_method_45_code 48 = .ok (.iaload, 1) := by decide +kernel
theorem d_BH_waysOfBlow_49 : decode prog_1_method_45_code 49 = .ok (.if_icmp .ne 6, 3) := by decide +kernel
theorem d_BH_waysOfBlow_52 : decode prog_1_method_45_code 52 = .ok (.iinc 3 1, 3) := by decide +kernel
theorem d_BH_waysOfBlow_55 : decode prog_1_method_45_code 55 = .ok (.iinc 4 1, 3) := by decide +kernel
theorem d_BH_waysOfBlow_58 : decode prog_1_method_45_code 58 = .ok (.goto (-38), 3) := by decide +kernel
theorem d_BH_waysOfBlow_61 : decode prog_1_method_45_code 61 = .ok (.iload_n 3, 1) := by decide +kernel
theorem d_BH_waysOfBlow_62 : decode prog_1_method_45_code 62 = .ok (.ireturn, 1) := by decide +kernel
theorem d_BH_waysSeen_0 : decode prog_1_method_44_code 0 = .ok (.iconst 1, 1) := by decide +kernel
theorem d_BH_waysSeen_1 : decode prog_1_method_44_code 1 = .ok (.istore_n 1, 1) := by decide +kernel
theorem d_BH_waysSeen_2 : decode prog_1_method_44_code 2 = .ok (.iconst 0, 1) := by decide +kernel
theorem d_BH_waysSeen_3 : decode prog_1_method_44_code 3 = .ok (.istore_n 2, 1) := by decide +kernel
theorem d_BH_waysSeen_4 : decode prog_1_method_44_code 4 = .ok (.iload_n 2, 1) := by decide +kernel
theorem d_BH_waysSeen_5 : decode prog_1_method_44_code 5 = .ok (.aload_n 0, 1) := by decide +kernel
theorem d_BH_waysSeen_6 : decode prog_1_method_44_code 6 = .ok (.getfield 90, 3) := by decide +kernel
theorem d_BH_waysSeen_9 : decode prog_1_method_44_code 9 = .ok (.if_icmp .ge 25, 3) := by decide +kernel
theorem d_BH_waysSeen_12 : decode prog_1_method_44_code 12 = .ok (.iload_n 1, 1) := by decide +kernel
theorem d_BH_waysSeen_13 : decode prog_1_method_44_code 13 = .ok (.aload_n 0, 1) := by decide +kernel
theorem d_BH_waysSeen_14 : decode prog_1_method_44_code 14 = .ok (.iload_n 2, 1) := by decide +kernel
theorem d_BH_waysSeen_15 : decode prog_1_method_44_code 15 = .ok (.iconst 0, 1) := by decide +kernel
theorem d_BH_waysSeen_16 : decode prog_1_method_44_code 16 = .ok (.invokevirtual 255, 3) := by decide +kernel
theorem d_BH_waysSeen_19 : decode prog_1_method_44_code 19 = .ok (.aload_n 0, 1) := by decide +kernel
theorem d_BH_waysSeen_20 : decode prog_1_method_44_code 20 = .ok (.iload_n 2, 1) := by decide +kernel
theorem d_BH_waysSeen_21 : decode prog_1_method_44_code 21 = .ok (.iconst 1, 1) := by decide +kernel
theorem d_BH_waysSeen_22 : decode prog_1_method_44_code 22 = .ok (.invokevirtual 255, 3) := by decide +kernel
theorem d_BH_waysSeen_25 : decode prog_1_method_44_code 25 = .ok (.iadd, 1) := by decide +kernel
theorem d_BH_waysSeen_26 : decode prog_1_method_44_code 26 = .ok (.imul, 1) := by decide +kernel
theorem d_BH_waysSeen_27 : decode prog_1_method_44_code 27 = .ok (.istore_n 1, 1) := by decide +kernel
theorem d_BH_waysSeen_28 : decode prog_1_method_44_code 28 = .ok (.iinc 2 1, 3) := by decide +kernel
theorem d_BH_waysSeen_31 : decode prog_1_method_44_code 31 = .ok (.goto (-27), 3) := by decide +kernel
theorem d_BH_waysSeen_34 : decode prog_1_method_44_code 34 = .ok (.iload_n 1, 1) := by decide +kernel
theorem d_BH_waysSeen_35 : decode prog_1_method_44_code 35 = .ok (.ireturn, 1) := by decide +kernel
theorem d_BH_was_0 : decode prog_1_method_26_code 0 = .ok (.aload_n 0, 1) := by decide +kernel
theorem d_BH_was_1 : decode prog_1_method_26_code 1 = .ok (.getfield 90, 3) := by decide +kernel
theorem d_BH_was_4 : decode prog_1_method_26_code 4 = .ok (.ifCond .eq 16, 3) := by decide +kernel
theorem d_BH_was_7 : decode prog_1_method_26_code 7 = .ok (.iload_n 1, 1) := by decide +kernel
theorem d_BH_was_8 : decode prog_1_method_26_code 8 = .ok (.iconst (-1), 1) := by decide +kernel
theorem d_BH_was_9 : decode prog_1_method_26_code 9 = .ok (.if_icmp .lt 11, 3) := by decide +kernel
theorem d_BH_was_12 : decode prog_1_method_26_code 12 = .ok (.iload_n 1, 1) := by decide +kernel
theorem d_BH_was_13 : decode prog_1_method_26_code 13 = .ok (.aload_n 0, 1) := by decide +kernel
theorem d_BH_was_14 : decode prog_1_method_26_code 14 = .ok (.getfield 90, 3) := by decide +kernel
theorem d_BH_was_17 : decode prog_1_method_26_code 17 = .ok (.if_icmp .lt 5, 3) := by decide +kernel
theorem d_BH_was_20 : decode prog_1_method_26_code 20 = .ok (.iconst (-1), 1) := by decide +kernel
theorem d_BH_was_21 : decode prog_1_method_26_code 21 = .ok (.ireturn, 1) := by decide +kernel
theorem d_BH_was_22 : decode prog_1_method_26_code 22 = .ok (.aload_n 0, 1) := by decide +kernel
theorem d_BH_was_23 : decode prog_1_method_26_code 23 = .ok (.getfield 40, 3) := by decide +kernel
theorem d_BH_was_26 : decode prog_1_method_26_code 26 = .ok (.aload_n 0, 1) := by decide +kernel
theorem d_BH_was_27 : decode prog_1_method_26_code 27 = .ok (.getfield 54, 3) := by decide +kernel
theorem d_BH_was_30 : decode prog_1_method_26_code 30 = .ok (.aload_n 0, 1) := by decide +kernel
theorem d_BH_was_31 : decode prog_1_method_26_code 31 = .ok (.getfield 249, 3) := by decide +kernel
theorem d_BH_was_34 : decode prog_1_method_26_code 34 = .ok (.aload_n 0, 1) := by decide +kernel
theorem d_BH_was_35 : decode prog_1_method_26_code 35 = .ok (.getfield 26, 3) := by decide +kernel
theorem d_BH_was_38 : decode prog_1_method_26_code 38 = .ok (.getfield 114, 3) := by decide +kernel
theorem d_BH_was_41 : decode prog_1_method_26_code 41 = .ok (.invokevirtual 163, 3) := by decide +kernel
theorem d_BH_was_44 : decode prog_1_method_26_code 44 = .ok (.aload_n 0, 1) := by decide +kernel
theorem d_BH_was_45 : decode prog_1_method_26_code 45 = .ok (.invokevirtual 252, 3) := by decide +kernel
theorem d_BH_was_48 : decode prog_1_method_26_code 48 = .ok (.istore_n 2, 1) := by decide +kernel
theorem d_BH_was_49 : decode prog_1_method_26_code 49 = .ok (.iload_n 1, 1) := by decide +kernel
theorem d_BH_was_50 : decode prog_1_method_26_code 50 = .ok (.iconst (-1), 1) := by decide +kernel
theorem d_BH_was_51 : decode prog_1_method_26_code 51 = .ok (.if_icmp .ne 5, 3) := by decide +kernel
theorem d_BH_was_54 : decode prog_1_method_26_code 54 = .ok (.iload_n 2, 1) := by decide +kernel
theorem d_BH_was_55 : decode prog_1_method_26_code 55 = .ok (.ireturn, 1) := by decide +kernel
theorem d_BH_was_56 : decode prog_1_method_26_code 56 = .ok (.aload_n 0, 1) := by decide +kernel
theorem d_BH_was_57 : decode prog_1_method_26_code 57 = .ok (.iload_n 1, 1) := by decide +kernel
theorem d_BH_was_58 : decode prog_1_method_26_code 58 = .ok (.iconst 1, 1) := by decide +kernel
theorem d_BH_was_59 : decode prog_1_method_26_code 59 = .ok (.invokevirtual 255, 3) := by decide +kernel
theorem d_BH_was_62 : decode prog_1_method_26_code 62 = .ok (.istore_n 3, 1) := by decide +kernel
theorem d_BH_was_63 : decode prog_1_method_26_code 63 = .ok (.iload_n 3, 1) := by decide +kernel
theorem d_BH_was_64 : decode prog_1_method_26_code 64 = .ok (.aload_n 0, 1) := by decide +kernel
theorem d_BH_was_65 : decode prog_1_method_26_code 65 = .ok (.iload_n 1, 1) := by decide +kernel
theorem d_BH_was_66 : decode prog_1_method_26_code 66 = .ok (.iconst 0, 1) := by decide +kernel
theorem d_BH_was_67 : decode prog_1_method_26_code 67 = .ok (.invokevirtual 255, 3) := by decide +kernel
theorem d_BH_was_70 : decode prog_1_method_26_code 70 = .ok (.iadd, 1) := by decide +kernel
theorem d_BH_was_71 : decode prog_1_method_26_code 71 = .ok (.istore 4, 2) := by decide +kernel
theorem d_BH_was_73 : decode prog_1_method_26_code 73 = .ok (.iload_n 2, 1) := by decide +kernel
theorem d_BH_was_74 : decode prog_1_method_26_code 74 = .ok (.ifCond .eq 8, 3) := by decide +kernel
theorem d_BH_was_77 : decode prog_1_method_26_code 77 = .ok (.iload 4, 2) := by decide +kernel
theorem d_BH_was_79 : decode prog_1_method_26_code 79 = .ok (.ifCond .ne 7, 3) := by decide +kernel
theorem d_BH_was_82 : decode prog_1_method_26_code 82 = .ok (.iconst 0, 1) := by decide +kernel
theorem d_BH_was_83 : decode prog_1_method_26_code 83 = .ok (.goto 11, 3) := by decide +kernel
theorem d_BH_was_86 : decode prog_1_method_26_code 86 = .ok (.sipush 1000, 3) := by decide +kernel
theorem d_BH_was_89 : decode prog_1_method_26_code 89 = .ok (.iload_n 3, 1) := by decide +kernel
theorem d_BH_was_90 : decode prog_1_method_26_code 90 = .ok (.imul, 1) := by decide +kernel
theorem d_BH_was_91 : decode prog_1_method_26_code 91 = .ok (.iload 4, 2) := by decide +kernel
theorem d_BH_was_93 : decode prog_1_method_26_code 93 = .ok (.idiv, 1) := by decide +kernel
theorem d_BH_was_94 : decode prog_1_method_26_code 94 = .ok (.ireturn, 1) := by decide +kernel
theorem d_BH_strong_0 : decode prog_1_method_27_code 0 = .ok (.aload_n 0, 1) := by decide +kernel
theorem d_BH_strong_1 : decode prog_1_method_27_code 1 = .ok (.getfield 90, 3) := by decide +kernel
theorem d_BH_strong_4 : decode prog_1_method_27_code 4 = .ok (.ifCond .eq 12, 3) := by decide +kernel
theorem d_BH_strong_7 : decode prog_1_method_27_code 7 = .ok (.iload_n 1, 1) := by decide +kernel
theorem d_BH_strong_8 : decode prog_1_method_27_code 8 = .ok (.ifCond .lt 8, 3) := by decide +kernel
theorem d_BH_strong_11 : decode prog_1_method_27_code 11 = .ok (.iload_n 1, 1) := by decide +kernel
theorem d_BH_strong_12 : decode prog_1_method_27_code 12 = .ok (.iconst 2, 1) := by decide +kernel
theorem d_BH_strong_13 : decode prog_1_method_27_code 13 = .ok (.if_icmp .le 5, 3) := by decide +kernel
theorem d_BH_strong_16 : decode prog_1_method_27_code 16 = .ok (.iconst (-1), 1) := by decide +kernel
theorem d_BH_strong_17 : decode prog_1_method_27_code 17 = .ok (.ireturn, 1) := by decide +kernel
theorem d_BH_strong_18 : decode prog_1_method_27_code 18 = .ok (.aload_n 0, 1) := by decide +kernel
theorem d_BH_strong_19 : decode prog_1_method_27_code 19 = .ok (.getfield 40, 3) := by decide +kernel
theorem d_BH_strong_22 : decode prog_1_method_27_code 22 = .ok (.aload_n 0, 1) := by decide +kernel
theorem d_BH_strong_23 : decode prog_1_method_27_code 23 = .ok (.getfield 54, 3) := by decide +kernel
theorem d_BH_strong_26 : decode prog_1_method_27_code 26 = .ok (.aload_n 0, 1) := by decide +kernel
theorem d_BH_strong_27 : decode prog_1_method_27_code 27 = .ok (.getfield 249, 3) := by decide +kernel
theorem d_BH_strong_30 : decode prog_1_method_27_code 30 = .ok (.aload_n 0, 1) := by decide +kernel
theorem d_BH_strong_31 : decode prog_1_method_27_code 31 = .ok (.getfield 26, 3) := by decide +kernel
theorem d_BH_strong_34 : decode prog_1_method_27_code 34 = .ok (.getfield 114, 3) := by decide +kernel
theorem d_BH_strong_37 : decode prog_1_method_27_code 37 = .ok (.invokevirtual 163, 3) := by decide +kernel
theorem d_BH_strong_40 : decode prog_1_method_27_code 40 = .ok (.iconst 0, 1) := by decide +kernel
theorem d_BH_strong_41 : decode prog_1_method_27_code 41 = .ok (.istore_n 2, 1) := by decide +kernel
theorem d_BH_strong_42 : decode prog_1_method_27_code 42 = .ok (.iconst (-1), 1) := by decide +kernel
theorem d_BH_strong_43 : decode prog_1_method_27_code 43 = .ok (.istore_n 3, 1) := by decide +kernel
theorem d_BH_strong_44 : decode prog_1_method_27_code 44 = .ok (.iconst (-1), 1) := by decide +kernel
theorem d_BH_strong_45 : decode prog_1_method_27_code 45 = .ok (.istore 4, 2) := by decide +kernel
theorem d_BH_strong_47 : decode prog_1_method_27_code 47 = .ok (.iconst 1, 1) := by decide +kernel
theorem d_BH_strong_48 : decode prog_1_method_27_code 48 = .ok (.istore 5, 2) := by decide +kernel
theorem d_BH_strong_50 : decode prog_1_method_27_code 50 = .ok (.iload 5, 2) := by decide +kernel
theorem d_BH_strong_52 : decode prog_1_method_27_code 52 = .ok (.bipush 99, 2) := by decide +kernel
theorem d_BH_strong_54 : decode prog_1_method_27_code 54 = .ok (.if_icmp .gt 44, 3) := by decide +kernel
theorem d_BH_strong_57 : decode prog_1_method_27_code 57 = .ok (.aload_n 0, 1) := by decide +kernel
theorem d_BH_strong_58 : decode prog_1_method_27_code 58 = .ok (.getfield 40, 3) := by decide +kernel
theorem d_BH_strong_61 : decode prog_1_method_27_code 61 = .ok (.iload 5, 2) := by decide +kernel
theorem d_BH_strong_63 : decode prog_1_method_27_code 63 = .ok (.putfield 259, 3) := by decide +kernel
theorem d_BH_strong_66 : decode prog_1_method_27_code 66 = .ok (.aload_n 0, 1) := by decide +kernel
theorem d_BH_strong_67 : decode prog_1_method_27_code 67 = .ok (.invokevirtual 252, 3) := by decide +kernel
theorem d_BH_strong_70 : decode prog_1_method_27_code 70 = .ok (.ifCond .le 22, 3) := by decide +kernel
theorem d_BH_strong_73 : decode prog_1_method_27_code 73 = .ok (.iinc 2 1, 3) := by decide +kernel
theorem d_BH_strong_76 : decode prog_1_method_27_code 76 = .ok (.iload_n 3, 1) := by decide +kernel
theorem d_BH_strong_77 : decode prog_1_method_27_code 77 = .ok (.iconst (-1), 1) := by decide +kernel
theorem d_BH_strong_78 : decode prog_1_method_27_code 78 = .ok (.if_icmp .ne 8, 3) := by decide +kernel
theorem d_BH_strong_81 : decode prog_1_method_27_code 81 = .ok (.iload 5, 2) := by decide +kernel
theorem d_BH_strong_83 : decode prog_1_method_27_code 83 = .ok (.goto 4, 3) := by decide +kernel
theorem d_BH_strong_86 : decode prog_1_method_27_code 86 = .ok (.iload_n 3, 1) := by decide +kernel
theorem d_BH_strong_87 : decode prog_1_method_27_code 87 = .ok (.istore_n 3, 1) := by decide +kernel
theorem d_BH_strong_88 : decode prog_1_method_27_code 88 = .ok (.iload 5, 2) := by decide +kernel
theorem d_BH_strong_90 : decode prog_1_method_27_code 90 = .ok (.istore 4, 2) := by decide +kernel
theorem d_BH_strong_92 : decode prog_1_method_27_code 92 = .ok (.iinc 5 1, 3) := by decide +kernel
theorem d_BH_strong_95 : decode prog_1_method_27_code 95 = .ok (.goto (-45), 3) := by decide +kernel
theorem d_BH_strong_98 : decode prog_1_method_27_code 98 = .ok (.iload_n 1, 1) := by decide +kernel
theorem d_BH_strong_99 : decode prog_1_method_27_code 99 = .ok (.ifCond .ne 5, 3) := by decide +kernel
theorem d_BH_strong_102 : decode prog_1_method_27_code 102 = .ok (.iload_n 2, 1) := by decide +kernel
theorem d_BH_strong_103 : decode prog_1_method_27_code 103 = .ok (.ireturn, 1) := by decide +kernel
theorem d_BH_strong_104 : decode prog_1_method_27_code 104 = .ok (.iload_n 1, 1) := by decide +kernel
theorem d_BH_strong_105 : decode prog_1_method_27_code 105 = .ok (.iconst 1, 1) := by decide +kernel
theorem d_BH_strong_106 : decode prog_1_method_27_code 106 = .ok (.if_icmp .ne 7, 3) := by decide +kernel
theorem d_BH_strong_109 : decode prog_1_method_27_code 109 = .ok (.iload_n 3, 1) := by decide +kernel
theorem d_BH_strong_110 : decode prog_1_method_27_code 110 = .ok (.goto 5, 3) := by decide +kernel
theorem d_BH_strong_113 : decode prog_1_method_27_code 113 = .ok (.iload 4, 2) := by decide +kernel
theorem d_BH_strong_115 : decode prog_1_method_27_code 115 = .ok (.ireturn, 1) := by decide +kernel
theorem d_BH_next_0 : decode prog_1_method_28_code 0 = .ok (.aload_n 0, 1) := by decide +kernel
theorem d_BH_next_1 : decode prog_1_method_28_code 1 = .ok (.getfield 90, 3) := by decide +kernel
theorem d_BH_next_4 : decode prog_1_method_28_code 4 = .ok (.ifCond .eq 19, 3) := by decide +kernel
theorem d_BH_next_7 : decode prog_1_method_28_code 7 = .ok (.aload_n 0, 1) := by decide +kernel
theorem d_BH_next_8 : decode prog_1_method_28_code 8 = .ok (.getfield 90, 3) := by decide +kernel
theorem d_BH_next_11 : decode prog_1_method_28_code 11 = .ok (.aload_n 0, 1) := by decide +kernel
theorem d_BH_next_12 : decode prog_1_method_28_code 12 = .ok (.getfield 54, 3) := by decide +kernel
theorem d_BH_next_15 : decode prog_1_method_28_code 15 = .ok (.getfield 117, 3) := by decide +kernel
theorem d_BH_next_18 : decode prog_1_method_28_code 18 = .ok (.iconst 3, 1) := by decide +kernel
theorem d_BH_next_19 : decode prog_1_method_28_code 19 = .ok (.iaload, 1) := by decide +kernel
theorem d_BH_next_20 : decode prog_1_method_28_code 20 = .ok (.if_icmp .lt 5, 3) := by decide +kernel
theorem d_BH_next_23 : decode prog_1_method_28_code 23 = .ok (.iconst (-1), 1) := by decide +kernel
theorem d_BH_next_24 : decode prog_1_method_28_code 24 = .ok (.ireturn, 1) := by decide +kernel
theorem d_BH_next_25 : decode prog_1_method_28_code 25 = .ok (.aload_n 0, 1) := by decide +kernel
theorem d_BH_next_26 : decode prog_1_method_28_code 26 = .ok (.getfield 40, 3) := by decide +kernel
theorem d_BH_next_29 : decode prog_1_method_28_code 29 = .ok (.aload_n 0, 1) := by decide +kernel
theorem d_BH_next_30 : decode prog_1_method_28_code 30 = .ok (.getfield 54, 3) := by decide +kernel
theorem d_BH_next_33 : decode prog_1_method_28_code 33 = .ok (.aload_n 0, 1) := by decide +kernel
theorem d_BH_next_34 : decode prog_1_method_28_code 34 = .ok (.getfield 249, 3) := by decide +kernel
theorem d_BH_next_37 : decode prog_1_method_28_code 37 = .ok (.aload_n 0, 1) := by decide +kernel
theorem d_BH_next_38 : decode prog_1_method_28_code 38 = .ok (.getfield 26, 3) := by decide +kernel
theorem d_BH_next_41 : decode prog_1_method_28_code 41 = .ok (.getfield 114, 3) := by decide +kernel
theorem d_BH_next_44 : decode prog_1_method_28_code 44 = .ok (.invokevirtual 163, 3) := by decide +kernel
theorem d_BH_next_47 : decode prog_1_method_28_code 47 = .ok (.iconst 0, 1) := by decide +kernel
theorem d_BH_next_48 : decode prog_1_method_28_code 48 = .ok (.istore_n 2, 1) := by decide +kernel
theorem d_BH_next_49 : decode prog_1_method_28_code 49 = .ok (.iconst 0, 1) := by decide +kernel
theorem d_BH_next_50 : decode prog_1_method_28_code 50 = .ok (.istore_n 3, 1) := by decide +kernel
theorem d_BH_next_51 : decode prog_1_method_28_code 51 = .ok (.iload_n 3, 1) := by decide +kernel
theorem d_BH_next_52 : decode prog_1_method_28_code 52 = .ok (.aload_n 0, 1) := by decide +kernel
theorem d_BH_next_53 : decode prog_1_method_28_code 53 = .ok (.getfield 40, 3) := by decide +kernel
theorem d_BH_next_56 : decode prog_1_method_28_code 56 = .ok (.getfield 262, 3) := by decide +kernel
theorem d_BH_next_59 : decode prog_1_method_28_code 59 = .ok (.if_icmp .gt 35, 3) := by decide +kernel
theorem d_BH_next_62 : decode prog_1_method_28_code 62 = .ok (.aload_n 0, 1) := by decide +kernel
theorem d_BH_next_63 : decode prog_1_method_28_code 63 = .ok (.getfield 40, 3) := by decide +kernel
theorem d_BH_next_66 : decode prog_1_method_28_code 66 = .ok (.aload_n 0, 1) := by decide +kernel
theorem d_BH_next_67 : decode prog_1_method_28_code 67 = .ok (.getfield 40, 3) := by decide +kernel
theorem d_BH_next_70 : decode prog_1_method_28_code 70 = .ok (.aload_n 0, 1) := by decide +kernel
theorem d_BH_next_71 : decode prog_1_method_28_code 71 = .ok (.getfield 90, 3) := by decide +kernel
theorem d_BH_next_74 : decode prog_1_method_28_code 74 = .ok (.iload_n 3, 1) := by decide +kernel
theorem d_BH_next_75 : decode prog_1_method_28_code 75 = .ok (.iload_n 1, 1) := by decide +kernel
theorem d_BH_next_76 : decode prog_1_method_28_code 76 = .ok (.invokevirtual 167, 3) := by decide +kernel
theorem d_BH_next_79 : decode prog_1_method_28_code 79 = .ok (.invokevirtual 265, 3) := by decide +kernel
theorem d_BH_next_82 : decode prog_1_method_28_code 82 = .ok (.ifCond .eq 6, 3) := by decide +kernel
theorem d_BH_next_85 : decode prog_1_method_28_code 85 = .ok (.iinc 2 1, 3) := by decide +kernel
theorem d_BH_next_88 : decode prog_1_method_28_code 88 = .ok (.iinc 3 1, 3) := by decide +kernel
theorem d_BH_next_91 : decode prog_1_method_28_code 91 = .ok (.goto (-40), 3) := by decide +kernel
theorem d_BH_next_94 : decode prog_1_method_28_code 94 = .ok (.aload_n 0, 1) := by decide +kernel
theorem d_BH_next_95 : decode prog_1_method_28_code 95 = .ok (.getfield 40, 3) := by decide +kernel
theorem d_BH_next_98 : decode prog_1_method_28_code 98 = .ok (.getfield 262, 3) := by decide +kernel
theorem d_BH_next_101 : decode prog_1_method_28_code 101 = .ok (.iconst 1, 1) := by decide +kernel
theorem d_BH_next_102 : decode prog_1_method_28_code 102 = .ok (.iadd, 1) := by decide +kernel
theorem d_BH_next_103 : decode prog_1_method_28_code 103 = .ok (.istore_n 3, 1) := by decide +kernel
theorem d_BH_next_104 : decode prog_1_method_28_code 104 = .ok (.iload_n 3, 1) := by decide +kernel
theorem d_BH_next_105 : decode prog_1_method_28_code 105 = .ok (.ifCond .gt 7, 3) := by decide +kernel
theorem d_BH_next_108 : decode prog_1_method_28_code 108 = .ok (.iconst (-1), 1) := by decide +kernel
theorem d_BH_next_109 : decode prog_1_method_28_code 109 = .ok (.goto 10, 3) := by decide +kernel
theorem d_BH_next_112 : decode prog_1_method_28_code 112 = .ok (.sipush 1000, 3) := by decide +kernel
theorem d_BH_next_115 : decode prog_1_method_28_code 115 = .ok (.iload_n 2, 1) := by decide +kernel
theorem d_BH_next_116 : decode prog_1_method_28_code 116 = .ok (.imul, 1) := by decide +kernel
theorem d_BH_next_117 : decode prog_1_method_28_code 117 = .ok (.iload_n 3, 1) := by decide +kernel
theorem d_BH_next_118 : decode prog_1_method_28_code 118 = .ok (.idiv, 1) := by decide +kernel
theorem d_BH_next_119 : decode prog_1_method_28_code 119 = .ok (.ireturn, 1) := by decide +kernel
theorem d_BH_isTellingOff_0 : decode prog_1_method_46_code 0 = .ok (.aload_n 0, 1) := by decide +kernel
theorem d_BH_isTellingOff_1 : decode prog_1_method_46_code 1 = .ok (.getfield 40, 3) := by decide +kernel
theorem d_BH_isTellingOff_4 : decode prog_1_method_46_code 4 = .ok (.iconst 0, 1) := by decide +kernel
theorem d_BH_isTellingOff_5 : decode prog_1_method_46_code 5 = .ok (.iload_n 1, 1) := by decide +kernel
theorem d_BH_isTellingOff_6 : decode prog_1_method_46_code 6 = .ok (.iconst 0, 1) := by decide +kernel
theorem d_BH_isTellingOff_7 : decode prog_1_method_46_code 7 = .ok (.invokevirtual 167, 3) := by decide +kernel
theorem d_BH_isTellingOff_10 : decode prog_1_method_46_code 10 = .ok (.istore_n 2, 1) := by decide +kernel
theorem d_BH_isTellingOff_11 : decode prog_1_method_46_code 11 = .ok (.aload_n 0, 1) := by decide +kernel
theorem d_BH_isTellingOff_12 : decode prog_1_method_46_code 12 = .ok (.getfield 40, 3) := by decide +kernel
theorem d_BH_isTellingOff_15 : decode prog_1_method_46_code 15 = .ok (.iconst 0, 1) := by decide +kernel
theorem d_BH_isTellingOff_16 : decode prog_1_method_46_code 16 = .ok (.iload_n 1, 1) := by decide +kernel
theorem d_BH_isTellingOff_17 : decode prog_1_method_46_code 17 = .ok (.iconst 1, 1) := by decide +kernel
theorem d_BH_isTellingOff_18 : decode prog_1_method_46_code 18 = .ok (.invokevirtual 167, 3) := by decide +kernel
theorem d_BH_isTellingOff_21 : decode prog_1_method_46_code 21 = .ok (.istore_n 3, 1) := by decide +kernel
theorem d_BH_isTellingOff_22 : decode prog_1_method_46_code 22 = .ok (.iconst 0, 1) := by decide +kernel
theorem d_BH_isTellingOff_23 : decode prog_1_method_46_code 23 = .ok (.istore 4, 2) := by decide +kernel
theorem d_BH_isTellingOff_25 : decode prog_1_method_46_code 25 = .ok (.iload 4, 2) := by decide +kernel
theorem d_BH_isTellingOff_27 : decode prog_1_method_46_code 27 = .ok (.iload_n 1, 1) := by decide +kernel
theorem d_BH_isTellingOff_28 : decode prog_1_method_46_code 28 = .ok (.if_icmp .gt 41, 3) := by decide +kernel
theorem d_BH_isTellingOff_31 : decode prog_1_method_46_code 31 = .ok (.aload_n 0, 1) := by decide +kernel
theorem d_BH_isTellingOff_32 : decode prog_1_method_46_code 32 = .ok (.getfield 40, 3) := by decide +kernel
theorem d_BH_isTellingOff_35 : decode prog_1_method_46_code 35 = .ok (.iconst 0, 1) := by decide +kernel
theorem d_BH_isTellingOff_36 : decode prog_1_method_46_code 36 = .ok (.iload 4, 2) := by decide +kernel
theorem d_BH_isTellingOff_38 : decode prog_1_method_46_code 38 = .ok (.iconst 1, 1) := by decide +kernel
theorem d_BH_isTellingOff_39 : decode prog_1_method_46_code 39 = .ok (.invokevirtual 167, 3) := by decide +kernel
theorem d_BH_isTellingOff_42 : decode prog_1_method_46_code 42 = .ok (.iload_n 2, 1) := by decide +kernel
theorem d_BH_isTellingOff_43 : decode prog_1_method_46_code 43 = .ok (.if_icmp .eq 18, 3) := by decide +kernel
theorem d_BH_isTellingOff_46 : decode prog_1_method_46_code 46 = .ok (.aload_n 0, 1) := by decide +kernel
theorem d_BH_isTellingOff_47 : decode prog_1_method_46_code 47 = .ok (.getfield 40, 3) := by decide +kernel
theorem d_BH_isTellingOff_50 : decode prog_1_method_46_code 50 = .ok (.iconst 0, 1) := by decide +kernel
theorem d_BH_isTellingOff_51 : decode prog_1_method_46_code 51 = .ok (.iload 4, 2) := by decide +kernel
theorem d_BH_isTellingOff_53 : decode prog_1_method_46_code 53 = .ok (.iconst 0, 1) := by decide +kernel
theorem d_BH_isTellingOff_54 : decode prog_1_method_46_code 54 = .ok (.invokevirtual 167, 3) := by decide +kernel
theorem d_BH_isTellingOff_57 : decode prog_1_method_46_code 57 = .ok (.iload_n 3, 1) := by decide +kernel
theorem d_BH_isTellingOff_58 : decode prog_1_method_46_code 58 = .ok (.if_icmp .ne 5, 3) := by decide +kernel
theorem d_BH_isTellingOff_61 : decode prog_1_method_46_code 61 = .ok (.iconst 0, 1) := by decide +kernel
theorem d_BH_isTellingOff_62 : decode prog_1_method_46_code 62 = .ok (.ireturn, 1) := by decide +kernel
theorem d_BH_isTellingOff_63 : decode prog_1_method_46_code 63 = .ok (.iinc 4 1, 3) := by decide +kernel
theorem d_BH_isTellingOff_66 : decode prog_1_method_46_code 66 = .ok (.goto (-41), 3) := by decide +kernel
theorem d_BH_isTellingOff_69 : decode prog_1_method_46_code 69 = .ok (.iconst 1, 1) := by decide +kernel
theorem d_BH_isTellingOff_70 : decode prog_1_method_46_code 70 = .ok (.ireturn, 1) := by decide +kernel
theorem d_BH_clear_0 : decode prog_1_method_29_code 0 = .ok (.aload_n 0, 1) := by decide +kernel
theorem d_BH_clear_1 : decode prog_1_method_29_code 1 = .ok (.iload_n 1, 1) := by decide +kernel
theorem d_BH_clear_2 : decode prog_1_method_29_code 2 = .ok (.invokevirtual 144, 3) := by decide +kernel
theorem d_BH_clear_5 : decode prog_1_method_29_code 5 = .ok (.ifCond .ne 5, 3) := by decide +kernel
theorem d_BH_clear_8 : decode prog_1_method_29_code 8 = .ok (.iconst (-1), 1) := by decide +kernel
theorem d_BH_clear_9 : decode prog_1_method_29_code 9 = .ok (.ireturn, 1) := by decide +kernel
theorem d_BH_clear_10 : decode prog_1_method_29_code 10 = .ok (.aload_n 0, 1) := by decide +kernel
theorem d_BH_clear_11 : decode prog_1_method_29_code 11 = .ok (.getfield 40, 3) := by decide +kernel
theorem d_BH_clear_14 : decode prog_1_method_29_code 14 = .ok (.aload_n 0, 1) := by decide +kernel
theorem d_BH_clear_15 : decode prog_1_method_29_code 15 = .ok (.getfield 54, 3) := by decide +kernel
theorem d_BH_clear_18 : decode prog_1_method_29_code 18 = .ok (.iload_n 1, 1) := by decide +kernel
theorem d_BH_clear_19 : decode prog_1_method_29_code 19 = .ok (.aload_n 0, 1) := by decide +kernel
theorem d_BH_clear_20 : decode prog_1_method_29_code 20 = .ok (.getfield 26, 3) := by decide +kernel
theorem d_BH_clear_23 : decode prog_1_method_29_code 23 = .ok (.getfield 114, 3) := by decide +kernel
theorem d_BH_clear_26 : decode prog_1_method_29_code 26 = .ok (.invokevirtual 163, 3) := by decide +kernel
theorem d_BH_clear_29 : decode prog_1_method_29_code 29 = .ok (.iconst (-1), 1) := by decide +kernel
theorem d_BH_clear_30 : decode prog_1_method_29_code 30 = .ok (.istore_n 2, 1) := by decide +kernel
theorem d_BH_clear_31 : decode prog_1_method_29_code 31 = .ok (.iconst 0, 1) := by decide +kernel
theorem d_BH_clear_32 : decode prog_1_method_29_code 32 = .ok (.istore_n 3, 1) := by decide +kernel
theorem d_BH_clear_33 : decode prog_1_method_29_code 33 = .ok (.iload_n 3, 1) := by decide +kernel
theorem d_BH_clear_34 : decode prog_1_method_29_code 34 = .ok (.bipush 9, 2) := by decide +kernel
theorem d_BH_clear_36 : decode prog_1_method_29_code 36 = .ok (.if_icmp .gt 19, 3) := by decide +kernel
theorem d_BH_clear_39 : decode prog_1_method_29_code 39 = .ok (.aload_n 0, 1) := by decide +kernel
theorem d_BH_clear_40 : decode prog_1_method_29_code 40 = .ok (.iload_n 3, 1) := by decide +kernel
theorem d_BH_clear_41 : decode prog_1_method_29_code 41 = .ok (.invokevirtual 268, 3) := by decide +kernel
theorem d_BH_clear_44 : decode prog_1_method_29_code 44 = .ok (.ifCond .eq 11, 3) := by decide +kernel
theorem d_BH_clear_47 : decode prog_1_method_29_code 47 = .ok (.iload_n 3, 1) := by decide +kernel
theorem d_BH_clear_48 : decode prog_1_method_29_code 48 = .ok (.istore_n 2, 1) := by decide +kernel
theorem d_BH_clear_49 : decode prog_1_method_29_code 49 = .ok (.iinc 3 1, 3) := by decide +kernel
theorem d_BH_clear_52 : decode prog_1_method_29_code 52 = .ok (.goto (-19), 3) := by decide +kernel
theorem d_BH_clear_55 : decode prog_1_method_29_code 55 = .ok (.iload_n 2, 1) := by decide +kernel
theorem d_BH_clear_56 : decode prog_1_method_29_code 56 = .ok (.ireturn, 1) := by decide +kernel
theorem d_BH_blowsAt_0 : decode prog_1_method_47_code 0 = .ok (.iconst 0, 1) := by decide +kernel
theorem d_BH_blowsAt_1 : decode prog_1_method_47_code 1 = .ok (.istore_n 3, 1) := by decide +kernel
theorem d_BH_blowsAt_2 : decode prog_1_method_47_code 2 = .ok (.iconst 0, 1) := by decide +kernel
theorem d_BH_blowsAt_3 : decode prog_1_method_47_code 3 = .ok (.istore 4, 2) := by decide +kernel
theorem d_BH_blowsAt_5 : decode prog_1_method_47_code 5 = .ok (.iload 4, 2) := by decide +kernel
theorem d_BH_blowsAt_7 : decode prog_1_method_47_code 7 = .ok (.aload_n 0, 1) := by decide +kernel
theorem d_BH_blowsAt_8 : decode prog_1_method_47_code 8 = .ok (.getfield 26, 3) := by decide +kernel
theorem d_BH_blowsAt_11 : decode prog_1_method_47_code 11 = .ok (.invokevirtual 126, 3) := by decide +kernel
theorem d_BH_blowsAt_14 : decode prog_1_method_47_code 14 = .ok (.if_icmp .ge 47, 3) := by decide +kernel
theorem d_BH_blowsAt_17 : decode prog_1_method_47_code 17 = .ok (.aload_n 0, 1) := by decide +kernel
theorem d_BH_blowsAt_18 : decode prog_1_method_47_code 18 = .ok (.getfield 26, 3) := by decide +kernel
theorem d_BH_blowsAt_21 : decode prog_1_method_47_code 21 = .ok (.iload 4, 2) := by decide +kernel
theorem d_BH_blowsAt_23 : decode prog_1_method_47_code 23 = .ok (.iconst 1, 1) := by decide +kernel
theorem d_BH_blowsAt_24 : decode prog_1_method_47_code 24 = .ok (.invokevirtual 243, 3) := by decide +kernel
theorem d_BH_blowsAt_27 : decode prog_1_method_47_code 27 = .ok (.iload_n 2, 1) := by decide +kernel
theorem d_BH_blowsAt_28 : decode prog_1_method_47_code 28 = .ok (.if_icmp .ne 27, 3) := by decide +kernel
theorem d_BH_blowsAt_31 : decode prog_1_method_47_code 31 = .ok (.aload_n 0, 1) := by decide +kernel
theorem d_BH_blowsAt_32 : decode prog_1_method_47_code 32 = .ok (.getfield 54, 3) := by decide +kernel
theorem d_BH_blowsAt_35 : decode prog_1_method_47_code 35 = .ok (.aload_n 0, 1) := by decide +kernel
theorem d_BH_blowsAt_36 : decode prog_1_method_47_code 36 = .ok (.getfield 26, 3) := by decide +kernel
theorem d_BH_blowsAt_39 : decode prog_1_method_47_code 39 = .ok (.iload 4, 2) := by decide +kernel
theorem d_BH_blowsAt_41 : decode prog_1_method_47_code 41 = .ok (.iconst 4, 1) := by decide +kernel
theorem d_BH_blowsAt_42 : decode prog_1_method_47_code 42 = .ok (.invokevirtual 243, 3) := by decide +kernel
theorem d_BH_blowsAt_45 : decode prog_1_method_47_code 45 = .ok (.invokevirtual 156, 3) := by decide +kernel
theorem d_BH_blowsAt_48 : decode prog_1_method_47_code 48 = .ok (.iload_n 1, 1) := by decide +kernel
theorem d_BH_blowsAt_49 : decode prog_1_method_47_code 49 = .ok (.if_icmp .ne 6, 3) := by decide +kernel
theorem d_BH_blowsAt_52 : decode prog_1_method_47_code 52 = .ok (.iinc 3 1, 3) := by decide +kernel
theorem d_BH_blowsAt_55 : decode prog_1_method_47_code 55 = .ok (.iinc 4 1, 3) := by decide +kernel
theorem d_BH_blowsAt_58 : decode prog_1_method_47_code 58 = .ok (.goto (-53), 3) := by decide +kernel
theorem d_BH_blowsAt_61 : decode prog_1_method_47_code 61 = .ok (.iload_n 3, 1) := by decide +kernel
theorem d_BH_blowsAt_62 : decode prog_1_method_47_code 62 = .ok (.ireturn, 1) := by decide +kernel
theorem d_BH_reach_0 : decode prog_1_method_30_code 0 = .ok (.aload_n 0, 1) := by decide +kernel
theorem d_BH_reach_1 : decode prog_1_method_30_code 1 = .ok (.iload_n 1, 1) := by decide +kernel
theorem d_BH_reach_2 : decode prog_1_method_30_code 2 = .ok (.invokevirtual 133, 3) := by decide +kernel
theorem d_BH_reach_5 : decode prog_1_method_30_code 5 = .ok (.ifCond .eq 12, 3) := by decide +kernel
theorem d_BH_reach_8 : decode prog_1_method_30_code 8 = .ok (.iload_n 2, 1) := by decide +kernel
theorem d_BH_reach_9 : decode prog_1_method_30_code 9 = .ok (.ifCond .eq 10, 3) := by decide +kernel
theorem d_BH_reach_12 : decode prog_1_method_30_code 12 = .ok (.iload_n 2, 1) := by decide +kernel
theorem d_BH_reach_13 : decode prog_1_method_30_code 13 = .ok (.iconst 1, 1) := by decide +kernel
theorem d_BH_reach_14 : decode prog_1_method_30_code 14 = .ok (.if_icmp .eq 5, 3) := by decide +kernel
theorem d_BH_reach_17 : decode prog_1_method_30_code 17 = .ok (.iconst (-1), 1) := by decide +kernel
theorem d_BH_reach_18 : decode prog_1_method_30_code 18 = .ok (.ireturn, 1) := by decide +kernel
theorem d_BH_reach_19 : decode prog_1_method_30_code 19 = .ok (.iload_n 2, 1) := by decide +kernel
theorem d_BH_reach_20 : decode prog_1_method_30_code 20 = .ok (.ifCond .ne 38, 3) := by decide +kernel
theorem d_BH_reach_23 : decode prog_1_method_30_code 23 = .ok (.iconst 0, 1) := by decide +kernel
theorem d_BH_reach_24 : decode prog_1_method_30_code 24 = .ok (.istore_n 3, 1) := by decide +kernel
theorem d_BH_reach_25 : decode prog_1_method_30_code 25 = .ok (.iconst 0, 1) := by decide +kernel
theorem d_BH_reach_26 : decode prog_1_method_30_code 26 = .ok (.istore 4, 2) := by decide +kernel
theorem d_BH_reach_28 : decode prog_1_method_30_code 28 = .ok (.iload 4, 2) := by decide +kernel
theorem d_BH_reach_30 : decode prog_1_method_30_code 30 = .ok (.aload_n 0, 1) := by decide +kernel
theorem d_BH_reach_31 : decode prog_1_method_30_code 31 = .ok (.getfield 54, 3) := by decide +kernel
theorem d_BH_reach_34 : decode prog_1_method_30_code 34 = .ok (.getfield 105, 3) := by decide +kernel
theorem d_BH_reach_37 : decode prog_1_method_30_code 37 = .ok (.if_icmp .ge 19, 3) := by decide +kernel
theorem d_BH_reach_40 : decode prog_1_method_30_code 40 = .ok (.iload_n 3, 1) := by decide +kernel
theorem d_BH_reach_41 : decode prog_1_method_30_code 41 = .ok (.aload_n 0, 1) := by decide +kernel
theorem d_BH_reach_42 : decode prog_1_method_30_code 42 = .ok (.iload_n 1, 1) := by decide +kernel
theorem d_BH_reach_43 : decode prog_1_method_30_code 43 = .ok (.iload 4, 2) := by decide +kernel
theorem d_BH_reach_45 : decode prog_1_method_30_code 45 = .ok (.invokevirtual 271, 3) := by decide +kernel
theorem d_BH_reach_48 : decode prog_1_method_30_code 48 = .ok (.iadd, 1) := by decide +kernel
theorem d_BH_reach_49 : decode prog_1_method_30_code 49 = .ok (.istore_n 3, 1) := by decide +kernel
theorem d_BH_reach_50 : decode prog_1_method_30_code 50 = .ok (.iinc 4 1, 3) := by decide +kernel
theorem d_BH_reach_53 : decode prog_1_method_30_code 53 = .ok (.goto (-25), 3) := by decide +kernel
theorem d_BH_reach_56 : decode prog_1_method_30_code 56 = .ok (.iload_n 3, 1) := by decide +kernel
theorem d_BH_reach_57 : decode prog_1_method_30_code 57 = .ok (.ireturn, 1) := by decide +kernel
theorem d_BH_reach_58 : decode prog_1_method_30_code 58 = .ok (.iconst 0, 1) := by decide +kernel
theorem d_BH_reach_59 : decode prog_1_method_30_code 59 = .ok (.istore_n 3, 1) := by decide +kernel
theorem d_BH_reach_60 : decode prog_1_method_30_code 60 = .ok (.iconst (-1), 1) := by decide +kernel
theorem d_BH_reach_61 : decode prog_1_method_30_code 61 = .ok (.istore 4, 2) := by decide +kernel
theorem d_BH_reach_63 : decode prog_1_method_30_code 63 = .ok (.iconst 0, 1) := by decide +kernel
theorem d_BH_reach_64 : decode prog_1_method_30_code 64 = .ok (.istore 5, 2) := by decide +kernel
theorem d_BH_reach_66 : decode prog_1_method_30_code 66 = .ok (.iload 5, 2) := by decide +kernel
theorem d_BH_reach_68 : decode prog_1_method_30_code 68 = .ok (.aload_n 0, 1) := by decide +kernel
theorem d_BH_reach_69 : decode prog_1_method_30_code 69 = .ok (.getfield 54, 3) := by decide +kernel
theorem d_BH_reach_72 : decode prog_1_method_30_code 72 = .ok (.getfield 105, 3) := by decide +kernel
theorem d_BH_reach_75 : decode prog_1_method_30_code 75 = .ok (.if_icmp .ge 31, 3) := by decide +kernel
theorem d_BH_reach_78 : decode prog_1_method_30_code 78 = .ok (.aload_n 0, 1) := by decide +kernel
theorem d_BH_reach_79 : decode prog_1_method_30_code 79 = .ok (.iload_n 1, 1) := by decide +kernel
theorem d_BH_reach_80 : decode prog_1_method_30_code 80 = .ok (.iload 5, 2) := by decide +kernel
theorem d_BH_reach_82 : decode prog_1_method_30_code 82 = .ok (.invokevirtual 271, 3) := by decide +kernel
theorem d_BH_reach_85 : decode prog_1_method_30_code 85 = .ok (.istore 6, 2) := by decide +kernel
theorem d_BH_reach_87 : decode prog_1_method_30_code 87 = .ok (.iload 6, 2) := by decide +kernel
theorem d_BH_reach_89 : decode prog_1_method_30_code 89 = .ok (.iload_n 3, 1) := by decide +kernel
theorem d_BH_reach_90 : decode prog_1_method_30_code 90 = .ok (.if_icmp .le 10, 3) := by decide +kernel
theorem d_BH_reach_93 : decode prog_1_method_30_code 93 = .ok (.iload 6, 2) := by decide +kernel
theorem d_BH_reach_95 : decode prog_1_method_30_code 95 = .ok (.istore_n 3, 1) := by decide +kernel
theorem d_BH_reach_96 : decode prog_1_method_30_code 96 = .ok (.iload 5, 2) := by decide +kernel
theorem d_BH_reach_98 : decode prog_1_method_30_code 98 = .ok (.istore 4, 2) := by decide +kernel
theorem d_BH_reach_100 : decode prog_1_method_30_code 100 = .ok (.iinc 5 1, 3) := by decide +kernel
theorem d_BH_reach_103 : decode prog_1_method_30_code 103 = .ok (.goto (-37), 3) := by decide +kernel
theorem d_BH_reach_106 : decode prog_1_method_30_code 106 = .ok (.iload 4, 2) := by decide +kernel
theorem d_BH_reach_108 : decode prog_1_method_30_code 108 = .ok (.ireturn, 1) := by decide +kernel
theorem d_Book_checkOf_0 : decode prog_2_method_15_code 0 = .ok (.sipush 139, 3) := by decide +kernel
theorem d_Book_checkOf_3 : decode prog_2_method_15_code 3 = .ok (.istore_n 1, 1) := by decide +kernel
theorem d_Book_checkOf_4 : decode prog_2_method_15_code 4 = .ok (.iconst 0, 1) := by decide +kernel
theorem d_Book_checkOf_5 : decode prog_2_method_15_code 5 = .ok (.istore_n 2, 1) := by decide +kernel
theorem d_Book_checkOf_6 : decode prog_2_method_15_code 6 = .ok (.iload_n 2, 1) := by decide +kernel
theorem d_Book_checkOf_7 : decode prog_2_method_15_code 7 = .ok (.bipush 9, 2) := by decide +kernel
theorem d_Book_checkOf_9 : decode prog_2_method_15_code 9 = .ok (.if_icmp .ge 27, 3) := by decide +kernel
theorem d_Book_checkOf_12 : decode prog_2_method_15_code 12 = .ok (.iload_n 2, 1) := by decide +kernel
theorem d_Book_checkOf_13 : decode prog_2_method_15_code 13 = .ok (.aload_n 0, 1) := by decide +kernel
theorem d_Book_checkOf_14 : decode prog_2_method_15_code 14 = .ok (.arraylength, 1) := by decide +kernel
theorem d_Book_checkOf_15 : decode prog_2_method_15_code 15 = .ok (.if_icmp .ge 21, 3) := by decide +kernel
theorem d_Book_checkOf_18 : decode prog_2_method_15_code 18 = .ok (.iconst 3, 1) := by decide +kernel
theorem d_Book_checkOf_19 : decode prog_2_method_15_code 19 = .ok (.iload_n 1, 1) := by decide +kernel
theorem d_Book_checkOf_20 : decode prog_2_method_15_code 20 = .ok (.imul, 1) := by decide +kernel
theorem d_Book_checkOf_21 : decode prog_2_method_15_code 21 = .ok (.aload_n 0, 1) := by decide +kernel
theorem d_Book_checkOf_22 : decode prog_2_method_15_code 22 = .ok (.iload_n 2, 1) := by decide +kernel
theorem d_Book_checkOf_23 : decode prog_2_method_15_code 23 = .ok (.iaload, 1) := by decide +kernel
theorem d_Book_checkOf_24 : decode prog_2_method_15_code 24 = .ok (.iadd, 1) := by decide +kernel
theorem d_Book_checkOf_25 : decode prog_2_method_15_code 25 = .ok (.sipush 253, 3) := by decide +kernel
theorem d_Book_checkOf_28 : decode prog_2_method_15_code 28 = .ok (.irem, 1) := by decide +kernel
theorem d_Book_checkOf_29 : decode prog_2_method_15_code 29 = .ok (.istore_n 1, 1) := by decide +kernel
theorem d_Book_checkOf_30 : decode prog_2_method_15_code 30 = .ok (.iinc 2 1, 3) := by decide +kernel
theorem d_Book_checkOf_33 : decode prog_2_method_15_code 33 = .ok (.goto (-27), 3) := by decide +kernel
theorem d_Book_checkOf_36 : decode prog_2_method_15_code 36 = .ok (.iload_n 1, 1) := by decide +kernel
theorem d_Book_checkOf_37 : decode prog_2_method_15_code 37 = .ok (.ireturn, 1) := by decide +kernel
theorem d_Book_write_0 : decode prog_2_method_13_code 0 = .ok (.aload_n 1, 1) := by decide +kernel
theorem d_Book_write_1 : decode prog_2_method_13_code 1 = .ok (.arraylength, 1) := by decide +kernel
theorem d_Book_write_2 : decode prog_2_method_13_code 2 = .ok (.bipush 10, 2) := by decide +kernel
theorem d_Book_write_4 : decode prog_2_method_13_code 4 = .ok (.if_icmp .ge 4, 3) := by decide +kernel
theorem d_Book_write_7 : decode prog_2_method_13_code 7 = .ok (.return_, 1) := by decide +kernel
theorem d_Book_write_8 : decode prog_2_method_13_code 8 = .ok (.aload_n 1, 1) := by decide +kernel
theorem d_Book_write_9 : decode prog_2_method_13_code 9 = .ok (.iconst 0, 1) := by decide +kernel
theorem d_Book_write_10 : decode prog_2_method_13_code 10 = .ok (.aload_n 0, 1) := by decide +kernel
theorem d_Book_write_11 : decode prog_2_method_13_code 11 = .ok (.getfield 40, 3) := by decide +kernel
theorem d_Book_write_14 : decode prog_2_method_13_code 14 = .ok (.bipush 8, 2) := by decide +kernel
theorem d_Book_write_16 : decode prog_2_method_13_code 16 = .ok (.ishr, 1) := by decide +kernel
theorem d_Book_write_17 : decode prog_2_method_13_code 17 = .ok (.iastore, 1) := by decide +kernel
theorem d_Book_write_18 : decode prog_2_method_13_code 18 = .ok (.aload_n 1, 1) := by decide +kernel
theorem d_Book_write_19 : decode prog_2_method_13_code 19 = .ok (.iconst 1, 1) := by decide +kernel
theorem d_Book_write_20 : decode prog_2_method_13_code 20 = .ok (.aload_n 0, 1) := by decide +kernel
theorem d_Book_write_21 : decode prog_2_method_13_code 21 = .ok (.getfield 40, 3) := by decide +kernel
theorem d_Book_write_24 : decode prog_2_method_13_code 24 = .ok (.sipush 255, 3) := by decide +kernel
theorem d_Book_write_27 : decode prog_2_method_13_code 27 = .ok (.iand, 1) := by decide +kernel
theorem d_Book_write_28 : decode prog_2_method_13_code 28 = .ok (.iastore, 1) := by decide +kernel
theorem d_Book_write_29 : decode prog_2_method_13_code 29 = .ok (.aload_n 1, 1) := by decide +kernel
theorem d_Book_write_30 : decode prog_2_method_13_code 30 = .ok (.iconst 2, 1) := by decide +kernel
theorem d_Book_write_31 : decode prog_2_method_13_code 31 = .ok (.aload_n 0, 1) := by decide +kernel
theorem d_Book_write_32 : decode prog_2_method_13_code 32 = .ok (.getfield 43, 3) := by decide +kernel
theorem d_Book_write_35 : decode prog_2_method_13_code 35 = .ok (.bipush 16, 2) := by decide +kernel
theorem d_Book_write_37 : decode prog_2_method_13_code 37 = .ok (.ishr, 1) := by decide +kernel
theorem d_Book_write_38 : decode prog_2_method_13_code 38 = .ok (.iastore, 1) := by decide +kernel
theorem d_Book_write_39 : decode prog_2_method_13_code 39 = .ok (.aload_n 1, 1) := by decide +kernel
theorem d_Book_write_40 : decode prog_2_method_13_code 40 = .ok (.iconst 3, 1) := by decide +kernel
theorem d_Book_write_41 : decode prog_2_method_13_code 41 = .ok (.aload_n 0, 1) := by decide +kernel
theorem d_Book_write_42 : decode prog_2_method_13_code 42 = .ok (.getfield 43, 3) := by decide +kernel
theorem d_Book_write_45 : decode prog_2_method_13_code 45 = .ok (.bipush 8, 2) := by decide +kernel
theorem d_Book_write_47 : decode prog_2_method_13_code 47 = .ok (.ishr, 1) := by decide +kernel
theorem d_Book_write_48 : decode prog_2_method_13_code 48 = .ok (.sipush 255, 3) := by decide +kernel
theorem d_Book_write_51 : decode prog_2_method_13_code 51 = .ok (.iand, 1) := by decide +kernel
theorem d_Book_write_52 : decode prog_2_method_13_code 52 = .ok (.iastore, 1) := by decide +kernel
theorem d_Book_write_53 : decode prog_2_method_13_code 53 = .ok (.aload_n 1, 1) := by decide +kernel
theorem d_Book_write_54 : decode prog_2_method_13_code 54 = .ok (.iconst 4, 1) := by decide +kernel
theorem d_Book_write_55 : decode prog_2_method_13_code 55 = .ok (.aload_n 0, 1) := by decide +kernel
theorem d_Book_write_56 : decode prog_2_method_13_code 56 = .ok (.getfield 43, 3) := by decide +kernel
theorem d_Book_write_59 : decode prog_2_method_13_code 59 = .ok (.sipush 255, 3) := by decide +kernel
theorem d_Book_write_62 : decode prog_2_method_13_code 62 = .ok (.iand, 1) := by decide +kernel
theorem d_Book_write_63 : decode prog_2_method_13_code 63 = .ok (.iastore, 1) := by decide +kernel
theorem d_Book_write_64 : decode prog_2_method_13_code 64 = .ok (.aload_n 1, 1) := by decide +kernel
theorem d_Book_write_65 : decode prog_2_method_13_code 65 = .ok (.iconst 5, 1) := by decide +kernel
theorem d_Book_write_66 : decode prog_2_method_13_code 66 = .ok (.aload_n 0, 1) := by decide +kernel
theorem d_Book_write_67 : decode prog_2_method_13_code 67 = .ok (.getfield 51, 3) := by decide +kernel
theorem d_Book_write_70 : decode prog_2_method_13_code 70 = .ok (.iastore, 1) := by decide +kernel
theorem d_Book_write_71 : decode prog_2_method_13_code 71 = .ok (.aload_n 0, 1) := by decide +kernel
theorem d_Book_write_72 : decode prog_2_method_13_code 72 = .ok (.getfield 11, 3) := by decide +kernel
theorem d_Book_write_75 : decode prog_2_method_13_code 75 = .ok (.iconst 0, 1) := by decide +kernel
theorem d_Book_write_76 : decode prog_2_method_13_code 76 = .ok (.aload_n 1, 1) := by decide +kernel
theorem d_Book_write_77 : decode prog_2_method_13_code 77 = .ok (.bipush 6, 2) := by decide +kernel
theorem d_Book_write_79 : decode prog_2_method_13_code 79 = .ok (.iconst 3, 1) := by decide +kernel
theorem d_Book_write_80 : decode prog_2_method_13_code 80 = .ok (.invokestatic 34, 3) := by decide +kernel
theorem d_Book_write_83 : decode prog_2_method_13_code 83 = .ok (.aload_n 1, 1) := by decide +kernel
theorem d_Book_write_84 : decode prog_2_method_13_code 84 = .ok (.bipush 9, 2) := by decide +kernel
theorem d_Book_write_86 : decode prog_2_method_13_code 86 = .ok (.aload_n 1, 1) := by decide +kernel
theorem d_Book_write_87 : decode prog_2_method_13_code 87 = .ok (.invokestatic 89, 3) := by decide +kernel
theorem d_Book_write_90 : decode prog_2_method_13_code 90 = .ok (.iastore, 1) := by decide +kernel
theorem d_Book_write_91 : decode prog_2_method_13_code 91 = .ok (.return_, 1) := by decide +kernel
theorem d_BH_image_0 : decode prog_1_method_31_code 0 = .ok (.aload_n 0, 1) := by decide +kernel
theorem d_BH_image_1 : decode prog_1_method_31_code 1 = .ok (.getfield 26, 3) := by decide +kernel
theorem d_BH_image_4 : decode prog_1_method_31_code 4 = .ok (.aload_n 0, 1) := by decide +kernel
theorem d_BH_image_5 : decode prog_1_method_31_code 5 = .ok (.getfield 62, 3) := by decide +kernel
theorem d_BH_image_8 : decode prog_1_method_31_code 8 = .ok (.invokevirtual 274, 3) := by decide +kernel
theorem d_BH_image_11 : decode prog_1_method_31_code 11 = .ok (.aload_n 0, 1) := by decide +kernel
theorem d_BH_image_12 : decode prog_1_method_31_code 12 = .ok (.bipush 10, 2) := by decide +kernel
theorem d_BH_image_14 : decode prog_1_method_31_code 14 = .ok (.putfield 278, 3) := by decide +kernel
theorem d_BH_image_17 : decode prog_1_method_31_code 17 = .ok (.aload_n 0, 1) := by decide +kernel
theorem d_BH_image_18 : decode prog_1_method_31_code 18 = .ok (.getfield 278, 3) := by decide +kernel
theorem d_BH_image_21 : decode prog_1_method_31_code 21 = .ok (.ireturn, 1) := by decide +kernel
theorem d_BH_octet_0 : decode prog_1_method_32_code 0 = .ok (.iload_n 1, 1) := by decide +kernel
theorem d_BH_octet_1 : decode prog_1_method_32_code 1 = .ok (.ifCond .lt 11, 3) := by decide +kernel
theorem d_BH_octet_4 : decode prog_1_method_32_code 4 = .ok (.iload_n 1, 1) := by decide +kernel
theorem d_BH_octet_5 : decode prog_1_method_32_code 5 = .ok (.aload_n 0, 1) := by decide +kernel
theorem d_BH_octet_6 : decode prog_1_method_32_code 6 = .ok (.getfield 278, 3) := by decide +kernel
theorem d_BH_octet_9 : decode prog_1_method_32_code 9 = .ok (.if_icmp .lt 7, 3) := by decide +kernel
theorem d_BH_octet_12 : decode prog_1_method_32_code 12 = .ok (.iconst (-1), 1) := by decide +kernel
theorem d_BH_octet_13 : decode prog_1_method_32_code 13 = .ok (.goto 9, 3) := by decide +kernel
theorem d_BH_octet_16 : decode prog_1_method_32_code 16 = .ok (.aload_n 0, 1) := by decide +kernel
theorem d_BH_octet_17 : decode prog_1_method_32_code 17 = .ok (.getfield 62, 3) := by decide +kernel
theorem d_BH_octet_20 : decode prog_1_method_32_code 20 = .ok (.iload_n 1, 1) := by decide +kernel
theorem d_BH_octet_21 : decode prog_1_method_32_code 21 = .ok (.iaload, 1) := by decide +kernel
theorem d_BH_octet_22 : decode prog_1_method_32_code 22 = .ok (.ireturn, 1) := by decide +kernel
theorem d_Book_takeOver_0 : decode prog_2_method_14_code 0 = .ok (.aload_n 1, 1) := by decide +kernel
theorem d_Book_takeOver_1 : decode prog_2_method_14_code 1 = .ok (.arraylength, 1) := by decide +kernel
theorem d_Book_takeOver_2 : decode prog_2_method_14_code 2 = .ok (.bipush 10, 2) := by decide +kernel
theorem d_Book_takeOver_4 : decode prog_2_method_14_code 4 = .ok (.if_icmp .lt 14, 3) := by decide +kernel
theorem d_Book_takeOver_7 : decode prog_2_method_14_code 7 = .ok (.aload_n 1, 1) := by decide +kernel
theorem d_Book_takeOver_8 : decode prog_2_method_14_code 8 = .ok (.bipush 9, 2) := by decide +kernel
theorem d_Book_takeOver_10 : decode prog_2_method_14_code 10 = .ok (.iaload, 1) := by decide +kernel
theorem d_Book_takeOver_11 : decode prog_2_method_14_code 11 = .ok (.aload_n 1, 1) := by decide +kernel
theorem d_Book_takeOver_12 : decode prog_2_method_14_code 12 = .ok (.invokestatic 89, 3) := by decide +kernel
theorem d_Book_takeOver_15 : decode prog_2_method_14_code 15 = .ok (.if_icmp .eq 5, 3) := by decide +kernel
theorem d_Book_takeOver_18 : decode prog_2_method_14_code 18 = .ok (.iconst 0, 1) := by decide +kernel
theorem d_Book_takeOver_19 : decode prog_2_method_14_code 19 = .ok (.ireturn, 1) := by decide +kernel
theorem d_Book_takeOver_20 : decode prog_2_method_14_code 20 = .ok (.aload_n 1, 1) := by decide +kernel
theorem d_Book_takeOver_21 : decode prog_2_method_14_code 21 = .ok (.iconst 0, 1) := by decide +kernel
theorem d_Book_takeOver_22 : decode prog_2_method_14_code 22 = .ok (.iaload, 1) := by decide +kernel
theorem d_Book_takeOver_23 : decode prog_2_method_14_code 23 = .ok (.bipush 8, 2) := by decide +kernel
theorem d_Book_takeOver_25 : decode prog_2_method_14_code 25 = .ok (.ishl, 1) := by decide +kernel
theorem d_Book_takeOver_26 : decode prog_2_method_14_code 26 = .ok (.aload_n 1, 1) := by decide +kernel
theorem d_Book_takeOver_27 : decode prog_2_method_14_code 27 = .ok (.iconst 1, 1) := by decide +kernel
theorem d_Book_takeOver_28 : decode prog_2_method_14_code 28 = .ok (.iaload, 1) := by decide +kernel
theorem d_Book_takeOver_29 : decode prog_2_method_14_code 29 = .ok (.ior, 1) := by decide +kernel
theorem d_Book_takeOver_30 : decode prog_2_method_14_code 30 = .ok (.istore_n 3, 1) := by decide +kernel
theorem d_Book_takeOver_31 : decode prog_2_method_14_code 31 = .ok (.aload_n 1, 1) := by decide +kernel
theorem d_Book_takeOver_32 : decode prog_2_method_14_code 32 = .ok (.iconst 2, 1) := by decide +kernel
theorem d_Book_takeOver_33 : decode prog_2_method_14_code 33 = .ok (.iaload, 1) := by decide +kernel
theorem d_Book_takeOver_34 : decode prog_2_method_14_code 34 = .ok (.bipush 16, 2) := by decide +kernel
theorem d_Book_takeOver_36 : decode prog_2_method_14_code 36 = .ok (.ishl, 1) := by decide +kernel
theorem d_Book_takeOver_37 : decode prog_2_method_14_code 37 = .ok (.aload_n 1, 1) := by decide +kernel
theorem d_Book_takeOver_38 : decode prog_2_method_14_code 38 = .ok (.iconst 3, 1) := by decide +kernel
theorem d_Book_takeOver_39 : decode prog_2_method_14_code 39 = .ok (.iaload, 1) := by decide +kernel
theorem d_Book_takeOver_40 : decode prog_2_method_14_code 40 = .ok (.bipush 8, 2) := by decide +kernel
theorem d_Book_takeOver_42 : decode prog_2_method_14_code 42 = .ok (.ishl, 1) := by decide +kernel
theorem d_Book_takeOver_43 : decode prog_2_method_14_code 43 = .ok (.ior, 1) := by decide +kernel
theorem d_Book_takeOver_44 : decode prog_2_method_14_code 44 = .ok (.aload_n 1, 1) := by decide +kernel
theorem d_Book_takeOver_45 : decode prog_2_method_14_code 45 = .ok (.iconst 4, 1) := by decide +kernel
theorem d_Book_takeOver_46 : decode prog_2_method_14_code 46 = .ok (.iaload, 1) := by decide +kernel
theorem d_Book_takeOver_47 : decode prog_2_method_14_code 47 = .ok (.ior, 1) := by decide +kernel
theorem d_Book_takeOver_48 : decode prog_2_method_14_code 48 = .ok (.istore 4, 2) := by decide +kernel
theorem d_Book_takeOver_50 : decode prog_2_method_14_code 50 = .ok (.iload_n 3, 1) := by decide +kernel
theorem d_Book_takeOver_51 : decode prog_2_method_14_code 51 = .ok (.sipush 999, 3) := by decide +kernel
theorem d_Book_takeOver_54 : decode prog_2_method_14_code 54 = .ok (.if_icmp .gt 21, 3) := by decide +kernel
theorem d_Book_takeOver_57 : decode prog_2_method_14_code 57 = .ok (.iload 4, 2) := by decide +kernel
theorem d_Book_takeOver_59 : decode prog_2_method_14_code 59 = .ok (.iload_n 3, 1) := by decide +kernel
theorem d_Book_takeOver_60 : decode prog_2_method_14_code 60 = .ok (.sipush 288, 3) := by decide +kernel
theorem d_Book_takeOver_63 : decode prog_2_method_14_code 63 = .ok (.imul, 1) := by decide +kernel
theorem d_Book_takeOver_64 : decode prog_2_method_14_code 64 = .ok (.if_icmp .gt 11, 3) := by decide +kernel
theorem d_Book_takeOver_67 : decode prog_2_method_14_code 67 = .ok (.aload_n 1, 1) := by decide +kernel
theorem d_Book_takeOver_68 : decode prog_2_method_14_code 68 = .ok (.iconst 5, 1) := by decide +kernel
theorem d_Book_takeOver_69 : decode prog_2_method_14_code 69 = .ok (.iaload, 1) := by decide +kernel
theorem d_Book_takeOver_70 : decode prog_2_method_14_code 70 = .ok (.iload_n 2, 1) := by decide +kernel
theorem d_Book_takeOver_71 : decode prog_2_method_14_code 71 = .ok (.ishr, 1) := by decide +kernel
theorem d_Book_takeOver_72 : decode prog_2_method_14_code 72 = .ok (.ifCond .eq 5, 3) := by decide +kernel
theorem d_Book_takeOver_75 : decode prog_2_method_14_code 75 = .ok (.iconst 0, 1) := by decide +kernel
theorem d_Book_takeOver_76 : decode prog_2_method_14_code 76 = .ok (.ireturn, 1) := by decide +kernel
theorem d_Book_takeOver_77 : decode prog_2_method_14_code 77 = .ok (.iconst 0, 1) := by decide +kernel
theorem d_Book_takeOver_78 : decode prog_2_method_14_code 78 = .ok (.istore 5, 2) := by decide +kernel
theorem d_Book_takeOver_80 : decode prog_2_method_14_code 80 = .ok (.iload 5, 2) := by decide +kernel
theorem d_Book_takeOver_82 : decode prog_2_method_14_code 82 = .ok (.iconst 3, 1) := by decide +kernel
theorem d_Book_takeOver_83 : decode prog_2_method_14_code 83 = .ok (.if_icmp .ge 43, 3) := by decide +kernel
theorem d_Book_takeOver_86 : decode prog_2_method_14_code 86 = .ok (.aload_n 1, 1) := by decide +kernel
theorem d_Book_takeOver_87 : decode prog_2_method_14_code 87 = .ok (.bipush 6, 2) := by decide +kernel
theorem d_Book_takeOver_89 : decode prog_2_method_14_code 89 = .ok (.iload 5, 2) := by decide +kernel
theorem d_Book_takeOver_91 : decode prog_2_method_14_code 91 = .ok (.iadd, 1) := by decide +kernel
theorem d_Book_takeOver_92 : decode prog_2_method_14_code 92 = .ok (.iaload, 1) := by decide +kernel
theorem d_Book_takeOver_93 : decode prog_2_method_14_code 93 = .ok (.getstatic 93, 3) := by decide +kernel
theorem d_Book_takeOver_96 : decode prog_2_method_14_code 96 = .ok (.iload 5, 2) := by decide +kernel
theorem d_Book_takeOver_98 : decode prog_2_method_14_code 98 = .ok (.iaload, 1) := by decide +kernel
theorem d_Book_takeOver_99 : decode prog_2_method_14_code 99 = .ok (.if_icmp .lt 19, 3) := by decide +kernel
theorem d_Book_takeOver_102 : decode prog_2_method_14_code 102 = .ok (.aload_n 1, 1) := by decide +kernel
theorem d_Book_takeOver_103 : decode prog_2_method_14_code 103 = .ok (.bipush 6, 2) := by decide +kernel
theorem d_Book_takeOver_105 : decode prog_2_method_14_code 105 = .ok (.iload 5, 2) := by decide +kernel
theorem d_Book_takeOver_107 : decode prog_2_method_14_code 107 = .ok (.iadd, 1) := by decide +kernel
theorem d_Book_takeOver_108 : decode prog_2_method_14_code 108 = .ok (.iaload, 1) := by decide +kernel
theorem d_Book_takeOver_109 : decode prog_2_method_14_code 109 = .ok (.getstatic 96, 3) := by decide +kernel
theorem d_Book_takeOver_112 : decode prog_2_method_14_code 112 = .ok (.iload 5, 2) := by decide +kernel
theorem d_Book_takeOver_114 : decode prog_2_method_14_code 114 = .ok (.iaload, 1) := by decide +kernel
theorem d_Book_takeOver_115 : decode prog_2_method_14_code 115 = .ok (.if_icmp .le 5, 3) := by decide +kernel
theorem d_Book_takeOver_118 : decode prog_2_method_14_code 118 = .ok (.iconst 0, 1) := by decide +kernel
theorem d_Book_takeOver_119 : decode prog_2_method_14_code 119 = .ok (.ireturn, 1) := by decide +kernel
theorem d_Book_takeOver_120 : decode prog_2_method_14_code 120 = .ok (.iinc 5 1, 3) := by decide +kernel
theorem d_Book_takeOver_123 : decode prog_2_method_14_code 123 = .ok (.goto (-43), 3) := by decide +kernel
theorem d_Book_takeOver_126 : decode prog_2_method_14_code 126 = .ok (.aload_n 0, 1) := by decide +kernel
theorem d_Book_takeOver_127 : decode prog_2_method_14_code 127 = .ok (.iload_n 3, 1) := by decide +kernel
theorem d_Book_takeOver_128 : decode prog_2_method_14_code 128 = .ok (.putfield 40, 3) := by decide +kernel
theorem d_Book_takeOver_131 : decode prog_2_method_14_code 131 = .ok (.aload_n 0, 1) := by decide +kernel
theorem d_Book_takeOver_132 : decode prog_2_method_14_code 132 = .ok (.iload 4, 2) := by decide +kernel
theorem d_Book_takeOver_134 : decode prog_2_method_14_code 134 = .ok (.putfield 43, 3) := by decide +kernel
theorem d_Book_takeOver_137 : decode prog_2_method_14_code 137 = .ok (.aload_n 0, 1) := by decide +kernel
theorem d_Book_takeOver_138 : decode prog_2_method_14_code 138 = .ok (.aload_n 1, 1) := by decide +kernel
theorem d_Book_takeOver_139 : decode prog_2_method_14_code 139 = .ok (.iconst 5, 1) := by decide +kernel
theorem d_Book_takeOver_140 : decode prog_2_method_14_code 140 = .ok (.iaload, 1) := by decide +kernel
theorem d_Book_takeOver_141 : decode prog_2_method_14_code 141 = .ok (.putfield 51, 3) := by decide +kernel
theorem d_Book_takeOver_144 : decode prog_2_method_14_code 144 = .ok (.aload_n 1, 1) := by decide +kernel
theorem d_Book_takeOver_145 : decode prog_2_method_14_code 145 = .ok (.bipush 6, 2) := by decide +kernel
theorem d_Book_takeOver_147 : decode prog_2_method_14_code 147 = .ok (.aload_n 0, 1) := by decide +kernel
theorem d_Book_takeOver_148 : decode prog_2_method_14_code 148 = .ok (.getfield 11, 3) := by decide +kernel
theorem d_Book_takeOver_151 : decode prog_2_method_14_code 151 = .ok (.iconst 0, 1) := by decide +kernel
theorem d_Book_takeOver_152 : decode prog_2_method_14_code 152 = .ok (.iconst 3, 1) := by decide +kernel
theorem d_Book_takeOver_153 : decode prog_2_method_14_code 153 = .ok (.invokestatic 34, 3) := by decide +kernel
theorem d_Book_takeOver_156 : decode prog_2_method_14_code 156 = .ok (.aload_n 0, 1) := by decide +kernel
theorem d_Book_takeOver_157 : decode prog_2_method_14_code 157 = .ok (.iconst 0, 1) := by decide +kernel
theorem d_Book_takeOver_158 : decode prog_2_method_14_code 158 = .ok (.putfield 57, 3) := by decide +kernel
theorem d_Book_takeOver_161 : decode prog_2_method_14_code 161 = .ok (.aload_n 0, 1) := by decide +kernel
theorem d_Book_takeOver_162 : decode prog_2_method_14_code 162 = .ok (.iconst 0, 1) := by decide +kernel
theorem d_Book_takeOver_163 : decode prog_2_method_14_code 163 = .ok (.putfield 60, 3) := by decide +kernel
theorem d_Book_takeOver_166 : decode prog_2_method_14_code 166 = .ok (.iconst 1, 1) := by decide +kernel
theorem d_Book_takeOver_167 : decode prog_2_method_14_code 167 = .ok (.ireturn, 1) := by decide +kernel
theorem d_BH_on_0 : decode prog_1_method_33_code 0 = .ok (.aload_n 0, 1) := by decide +kernel
theorem d_BH_on_1 : decode prog_1_method_33_code 1 = .ok (.getfield 10, 3) := by decide +kernel
theorem d_BH_on_4 : decode prog_1_method_33_code 4 = .ok (.getfield 68, 3) := by decide +kernel
theorem d_BH_on_7 : decode prog_1_method_33_code 7 = .ok (.istore_n 1, 1) := by decide +kernel
theorem d_BH_on_8 : decode prog_1_method_33_code 8 = .ok (.aload_n 0, 1) := by decide +kernel
theorem d_BH_on_9 : decode prog_1_method_33_code 9 = .ok (.getfield 10, 3) := by decide +kernel
theorem d_BH_on_12 : decode prog_1_method_33_code 12 = .ok (.iconst 0, 1) := by decide +kernel
theorem d_BH_on_13 : decode prog_1_method_33_code 13 = .ok (.putfield 68, 3) := by decide +kernel
theorem d_BH_on_16 : decode prog_1_method_33_code 16 = .ok (.iload_n 1, 1) := by decide +kernel
theorem d_BH_on_17 : decode prog_1_method_33_code 17 = .ok (.bipush 10, 2) := by decide +kernel
theorem d_BH_on_19 : decode prog_1_method_33_code 19 = .ok (.if_icmp .ne 27, 3) := by decide +kernel
theorem d_BH_on_22 : decode prog_1_method_33_code 22 = .ok (.aload_n 0, 1) := by decide +kernel
theorem d_BH_on_23 : decode prog_1_method_33_code 23 = .ok (.getfield 26, 3) := by decide +kernel
theorem d_BH_on_26 : decode prog_1_method_33_code 26 = .ok (.aload_n 0, 1) := by decide +kernel
theorem d_BH_on_27 : decode prog_1_method_33_code 27 = .ok (.getfield 10, 3) := by decide +kernel
theorem d_BH_on_30 : decode prog_1_method_33_code 30 = .ok (.getfield 76, 3) := by decide +kernel
theorem d_BH_on_33 : decode prog_1_method_33_code 33 = .ok (.aload_n 0, 1) := by decide +kernel
theorem d_BH_on_34 : decode prog_1_method_33_code 34 = .ok (.getfield 54, 3) := by decide +kernel
theorem d_BH_on_37 : decode prog_1_method_33_code 37 = .ok (.getfield 108, 3) := by decide +kernel
theorem d_BH_on_40 : decode prog_1_method_33_code 40 = .ok (.invokevirtual 281, 3) := by decide +kernel
theorem d_BH_on_43 : decode prog_1_method_33_code 43 = .ok (.ifCond .ne 15, 3) := by decide +kernel
theorem d_BH_on_46 : decode prog_1_method_33_code 46 = .ok (.aload_n 0, 1) := by decide +kernel
theorem d_BH_on_47 : decode prog_1_method_33_code 47 = .ok (.getfield 65, 3) := by decide +kernel
theorem d_BH_on_50 : decode prog_1_method_33_code 50 = .ok (.iconst 5, 1) := by decide +kernel
theorem d_BH_on_51 : decode prog_1_method_33_code 51 = .ok (.dup2, 1) := by decide +kernel
theorem d_BH_on_52 : decode prog_1_method_33_code 52 = .ok (.iaload, 1) := by decide +kernel
theorem d_BH_on_53 : decode prog_1_method_33_code 53 = .ok (.iconst 1, 1) := by decide +kernel
theorem d_BH_on_54 : decode prog_1_method_33_code 54 = .ok (.iadd, 1) := by decide +kernel
theorem d_BH_on_55 : decode prog_1_method_33_code 55 = .ok (.iastore, 1) := by decide +kernel
theorem d_BH_on_56 : decode prog_1_method_33_code 56 = .ok (.iconst 0, 1) := by decide +kernel
theorem d_BH_on_57 : decode prog_1_method_33_code 57 = .ok (.ireturn, 1) := by decide +kernel
theorem d_BH_on_58 : decode prog_1_method_33_code 58 = .ok (.iconst 1, 1) := by decide +kernel
theorem d_BH_on_59 : decode prog_1_method_33_code 59 = .ok (.ireturn, 1) := by decide +kernel
theorem d_BH_status_0 : decode prog_1_method_34_code 0 = .ok (.iload_n 1, 1) := by decide +kernel
theorem d_BH_status_1 : decode prog_1_method_34_code 1 = .ok (.ifCond .lt 9, 3) := by decide +kernel
theorem d_BH_status_4 : decode prog_1_method_34_code 4 = .ok (.iload_n 1, 1) := by decide +kernel
theorem d_BH_status_5 : decode prog_1_method_34_code 5 = .ok (.bipush 6, 2) := by decide +kernel
theorem d_BH_status_7 : decode prog_1_method_34_code 7 = .ok (.if_icmp .lt 7, 3) := by decide +kernel
theorem d_BH_status_10 : decode prog_1_method_34_code 10 = .ok (.iconst (-1), 1) := by decide +kernel
theorem d_BH_status_11 : decode prog_1_method_34_code 11 = .ok (.goto 9, 3) := by decide +kernel
theorem d_BH_status_14 : decode prog_1_method_34_code 14 = .ok (.aload_n 0, 1) := by decide +kernel
theorem d_BH_status_15 : decode prog_1_method_34_code 15 = .ok (.getfield 65, 3) := by decide +kernel
theorem d_BH_status_18 : decode prog_1_method_34_code 18 = .ok (.iload_n 1, 1) := by decide +kernel
theorem d_BH_status_19 : decode prog_1_method_34_code 19 = .ok (.iaload, 1) := by decide +kernel
theorem d_BH_status_20 : decode prog_1_method_34_code 20 = .ok (.ireturn, 1) := by decide +kernel
def f_BH_see_46b (k46 : Int32 → Int32 → Int32 → St → Option (Int32 × St)) (x1 : Int32) (x2 : Int32) (x3 : Int32) (σ : St) : Option (Int32 × St) :=
  if x2 ≤ x3 then
    lt (uI σ 0 x2) fun σ_1 =>
    lt (uI σ_1 1 x1) fun σ_2 =>
    some (1, σ_2)
  else
    gd (inB x3 1600) <|
    gd (inB x3 4) <|
    lt (uA σ 28 (upd (sA σ 28) x3.toNatClampNeg (sA σ 0 x3.toNatClampNeg))) fun σ_5 =>
    lt ((x3 + 1)) fun x_6 =>
    k46 x1 x2 x_6 σ_5
def f_BH_see_46 : Nat → Int32 → Int32 → Int32 → St → Option (Int32 × St)
  | 0 => fun _ _ _ _ => none
  | n + 1 => f_BH_see_46b   (f_BH_see_46   n)
def f_BH_see_32 (σ : St) : Option (Int32 × St) :=
  lt (uA σ 30 (upd (sA σ 30) (1 : Int32).toNatClampNeg ((sA σ 30 (1 : Int32).toNatClampNeg) + 1))) fun σ_1 =>
  some (0, σ_1)
def f_BH_see (x1 : Int32) (σ : St) : Option (Int32 × St) :=
  lt ((sI σ 3)) fun x_1 =>
  lt (uI σ 3 0) fun σ_2 =>
  bp (f_BH_isTrier x1 σ_2) fun r_4 =>
  if r_4 = 0 then
    f_BH_see_32 σ_2
  else
    bp (f_BH_canBeSeen x_1 σ_2) fun r_6 =>
    if r_6 = 0 then
      f_BH_see_32 σ_2
    else
      f_BH_see_46 FU x1 x_1 0 σ_2
set_option maxHeartbeats 4000000 in
set_option maxRecDepth 20000 in
theorem t_BH_see_46b {r : Int32} {σ2 : St} (C : Cx g A p s m av meth c prog_1_method_25_code 4 "BellHammer" (some .boolean)) {k46 : Int32 → Int32 → Int32 → St → Option (Int32 × St)} (hk46 : ∀ (x1 : Int32) (x2 : Int32) (x3 : Int32) (σ : St) (H : Heap) (locs : List Loc) (ls : Array Slot), k46 x1 x2 x3 σ = some (r, σ2) → Wd g (wX g q) A s σ H locs → lv_has ls 4 [(0, .ref (q 0)), (1, .int x1), (2, .int x2), (3, .int x3)] → WK p l e s m av below meth c 1 g (wX g q) A (some (.int r)) σ2 H locs (F0 m 46 ls []))  {x1 : Int32} {x2 : Int32} {x3 : Int32} {σ : St} {H : Heap} {locs : List Loc} {ls : Array Slot} (hf : f_BH_see_46b  k46 x1 x2 x3 σ = some (r, σ2)) (w : Wd g (wX g q) A s σ H locs) (hl : lv_has ls 4 [(0, .ref (q 0)), (1, .int x1), (2, .int x2), (3, .int x3)]) : WK p l e s m av below meth c 1 g (wX g q) A (some (.int r)) σ2 H locs (F0 m 46 ls []) := by
  obtain ⟨hx, hb, hml, hown, hts, hK, hA, hZ, hlocks, hr, hN⟩ := id C
  unfold f_BH_see_46b at hf
  refine lv_iload_n hx hb d_BH_see_46 rfl (lv_at hl 3 rfl) ?_
  refine lv_iload_n hx hb d_BH_see_47 rfl (lv_at hl 2 rfl) ?_
  refine lv_icmp_ge (tgt := 72) hx hb d_BH_see_48 (by decide) (fun cd => ?_) (fun cd => ?_)
  · have hf := it_e cd hf
    refine lv_aload_n hx hb d_BH_see_72 rfl (lv_at hl 0 rfl) ?_
    refine lv_iload_n hx hb d_BH_see_73 rfl (lv_at hl 2 rfl) ?_
    refine xp_0_seenBlows C w k515 d_BH_see_74 (fun σ_1 H locs eσ_1 w => ?_)
    have hf := lt_e eσ_1 hf
    refine lv_aload_n hx hb d_BH_see_77 rfl (lv_at hl 0 rfl) ?_
    refine lv_iload_n hx hb d_BH_see_78 rfl (lv_at hl 1 rfl) ?_
    refine xp_0_seenTrier C w k516 d_BH_see_79 (fun σ_2 H locs eσ_2 w => ?_)
    have hf := lt_e eσ_2 hf
    refine lv_iconst (v := 1) hx hb d_BH_see_82 (by decide) ?_
    obtain ⟨rfl, rfl⟩ := some2_e hf
    exact k_zret C w (by decide) d_BH_see_83
  · have hf := if_e cd hf
    refine lv_aload_n hx hb d_BH_see_51 rfl (lv_at hl 0 rfl) ?_
    refine xg_0_seen C w k514 d_BH_see_52 ?_
    refine lv_iload_n hx hb d_BH_see_55 rfl (lv_at hl 3 rfl) ?_
    refine lv_aload_n hx hb d_BH_see_56 rfl (lv_at hl 0 rfl) ?_
    refine xg_0_tape C w k507 d_BH_see_57 ?_
    refine xg_1_bytes C w k134 d_BH_see_60 ?_
    refine lv_iload_n hx hb d_BH_see_63 rfl (lv_at hl 3 rfl) ?_
    obtain ⟨g_3, hf⟩ := gd_e hf
    refine xl_2 C w g_3 d_BH_see_64 ?_
    obtain ⟨g_4, hf⟩ := gd_e hf
    refine xs_42 C w g_4 d_BH_see_65 (fun σ_5 H locs eσ_5 w => ?_)
    have hf := lt_e eσ_5 hf
    obtain ⟨x_6, ex_6⟩ : ∃ y : Int32, y = (x3 + 1) := ⟨_, rfl⟩
    have hf := lt_e ex_6 hf
    refine lv_iinc (v := x_6) (lv' := [(3, .int x_6), (0, .ref (q 0)), (1, .int x1), (2, .int x2)]) hx hb d_BH_see_66 hl (k := 3) rfl (by rw [ex_6]; rfl) (by decide) rfl (fun ls hl => ?_)
    refine lv_goto (tgt := 46) hx hb d_BH_see_69 (by decide) ?_
    exact hk46 x1 x2 x_6 σ_5 _ _ _ hf w (lv_sub hl [1, 2, 3, 0] rfl)
set_option maxHeartbeats 4000000 in
set_option maxRecDepth 20000 in
theorem t_BH_see_46 {r : Int32} {σ2 : St} (C : Cx g A p s m av meth c prog_1_method_25_code 4 "BellHammer" (some .boolean))  : ∀ (n : Nat) (x1 : Int32) (x2 : Int32) (x3 : Int32) (σ : St) (H : Heap) (locs : List Loc) (ls : Array Slot), f_BH_see_46   n x1 x2 x3 σ = some (r, σ2) → Wd g (wX g q) A s σ H locs → lv_has ls 4 [(0, .ref (q 0)), (1, .int x1), (2, .int x2), (3, .int x3)] → WK p l e s m av below meth c 1 g (wX g q) A (some (.int r)) σ2 H locs (F0 m 46 ls []) := by
  intro n
  induction n with
  | zero => intro x1 x2 x3 σ H locs ls hf; exact absurd hf (by intro z; cases z)
  | succ n ih => intro x1 x2 x3 σ H locs ls hf w hl; exact t_BH_see_46b C  ih hf w hl
set_option maxHeartbeats 4000000 in
set_option maxRecDepth 20000 in
theorem t_BH_see_32 {r : Int32} {σ2 : St} (C : Cx g A p s m av meth c prog_1_method_25_code 4 "BellHammer" (some .boolean))  {σ : St} {H : Heap} {locs : List Loc} {ls : Array Slot} (hf : f_BH_see_32    σ = some (r, σ2)) (w : Wd g (wX g q) A s σ H locs) (hl : lv_has ls 4 [(0, .ref (q 0))]) : WK p l e s m av below meth c 1 g (wX g q) A (some (.int r)) σ2 H locs (F0 m 32 ls []) := by
  obtain ⟨hx, hb, hml, hown, hts, hK, hA, hZ, hlocks, hr, hN⟩ := id C
  unfold f_BH_see_32 at hf
  refine lv_aload_n hx hb d_BH_see_32 rfl (lv_at hl 0 rfl) ?_
  refine xg_0_refused C w k519 d_BH_see_33 ?_
  refine lv_iconst (v := 1) hx hb d_BH_see_36 (by decide) ?_
  refine lv_dup2_11 hx hb d_BH_see_37 rfl rfl ?_
  refine xl_44 C w (by decide) d_BH_see_38 ?_
  refine lv_iconst (v := 1) hx hb d_BH_see_39 (by decide) ?_
  refine lv_iadd hx hb d_BH_see_40 ?_
  refine xs_44 C w (by decide) d_BH_see_41 (fun σ_1 H locs eσ_1 w => ?_)
  have hf := lt_e eσ_1 hf
  refine lv_iconst (v := 0) hx hb d_BH_see_42 (by decide) ?_
  obtain ⟨rfl, rfl⟩ := some2_e hf
  exact k_zret C w (by decide) d_BH_see_43
set_option maxHeartbeats 4000000 in
set_option maxRecDepth 20000 in
theorem c_BH_see {l : Launch} {g : GX} {q : Nat → Nat} {x1 : Int32}  {σ : St} {r : Int32} {σ2 : St} (hf : f_BH_see  x1 σ = some (r, σ2)) : KK l y_BH_see prog_1_method_25_code 4 (some .boolean) 1 g (wX g q) σ [.ref (q 0), .int x1] (some (.int r)) (wX g q) σ2 := by
  refine KK_of (plainFor_of_name (by decide)) (Nat.le_of_ble_eq_true rfl) (fun p e s m below meth c A ls C w hl => ?_)
  have hl : lv_has ls 4 [(0, .ref (q 0)), (1, .int x1)] := hl
  obtain ⟨hx, hb, hml, hown, hts, hK, hA, hZ, hlocks, hr, hN⟩ := id C
  unfold f_BH_see at hf
  refine lv_aload_n hx hb d_BH_see_0 rfl (lv_at hl 0 rfl) ?_
  refine xg_0_tape C w k507 d_BH_see_1 ?_
  refine xg_1_size C w k135 d_BH_see_4 ?_
  refine lv_topi (fun x_1 ex_1 => ?_)
  have hf := lt_e ex_1 hf
  refine lv_istore_n (lv' := [(2, .int x_1), (0, .ref (q 0)), (1, .int x1)]) hx hb d_BH_see_7 rfl hl (by decide) rfl (fun ls hl => ?_)
  refine lv_aload_n hx hb d_BH_see_8 rfl (lv_at hl 1 rfl) ?_
  refine xg_0_tape C w k507 d_BH_see_9 ?_
  refine lv_iconst (v := 0) hx hb d_BH_see_12 (by decide) ?_
  refine xp_1_size C w k135 d_BH_see_13 (fun σ_2 H locs eσ_2 w => ?_)
  have hf := lt_e eσ_2 hf
  refine lv_aload_n hx hb d_BH_see_16 rfl (lv_at hl 1 rfl) ?_
  refine lv_iload_n hx hb d_BH_see_17 rfl (lv_at hl 2 rfl) ?_
  obtain ⟨r_4, h_3, hf⟩ := bp_e hf
  refine k_callV (As := [.int x1]) (rest := []) C w (c_BH_isTrier (q := q) h_3) cv_BH_isTrier k736 (xr_0 C w) (by decide) hl.1 rfl (Nat.le_of_ble_eq_true rfl) d_BH_see_18 (fun H locs w => ?_)
  show WK p l e s m _ below meth c 1 g (wX g q) A (some (.int r)) σ2 H locs (F0 m 21 ls [.int r_4])
  refine lv_if_eq (tgt := 32) hx hb d_BH_see_21 (by decide) (fun cd => ?_) (fun cd => ?_)
  · have hf := it_e cd hf
    exact t_BH_see_32 C  hf w (lv_sub hl [1] rfl)
  · have hf := if_e cd hf
    refine lv_aload_n hx hb d_BH_see_24 rfl (lv_at hl 1 rfl) ?_
    refine lv_iload_n hx hb d_BH_see_25 rfl (lv_at hl 0 rfl) ?_
    obtain ⟨r_6, h_5, hf⟩ := bp_e hf
    refine k_callV (As := [.int x_1]) (rest := []) C w (c_BH_canBeSeen (q := q) h_5) cv_BH_canBeSeen k1019 (xr_0 C w) (by decide) hl.1 rfl (Nat.le_of_ble_eq_true rfl) d_BH_see_26 (fun H locs w => ?_)
    show WK p l e s m _ below meth c 1 g (wX g q) A (some (.int r)) σ2 H locs (F0 m 29 ls [.int r_6])
    refine lv_if_ne (tgt := 44) hx hb d_BH_see_29 (by decide) (fun cd => ?_) (fun cd => ?_)
    · have hf := if_e cd hf
      refine lv_iconst (v := 0) hx hb d_BH_see_44 (by decide) ?_
      refine lv_istore_n (lv' := [(3, .int 0), (2, .int x_1), (0, .ref (q 0)), (1, .int x1)]) hx hb d_BH_see_45 rfl hl (by decide) rfl (fun ls hl => ?_)
      exact t_BH_see_46 C  FU x1 x_1 0 σ_2 _ _ _ hf w (lv_sub hl [2, 3, 1, 0] rfl)
    · have hf := it_e cd hf
      exact t_BH_see_32 C  hf w (lv_sub hl [1] rfl)
def f_BH_waysOfBlow_20b (k20 : Int32 → Int32 → Int32 → Int32 → St → Option (Int32)) (x1 : Int32) (x2 : Int32) (x3 : Int32) (x4 : Int32) (σ : St) : Option (Int32) :=
  if (sI σ 26) < x4 then
    some x3
  else
    bp (f_Turn_height x1 x4 x2 σ) fun r_2 =>
    gd (inB x1 4) <|
    if r_2 = (sA σ 28 x1.toNatClampNeg) then
      lt ((x3 + 1)) fun x_5 =>
      lt ((x4 + 1)) fun x_6 =>
      k20 x1 x2 x_5 x_6 σ
    else
      lt ((x4 + 1)) fun x_4 =>
      k20 x1 x2 x3 x_4 σ
def f_BH_waysOfBlow_20 : Nat → Int32 → Int32 → Int32 → Int32 → St → Option (Int32)
  | 0 => fun _ _ _ _ _ => none
  | n + 1 => f_BH_waysOfBlow_20b   (f_BH_waysOfBlow_20   n)
def f_BH_waysOfBlow (x1 : Int32) (x2 : Int32) (σ : St) : Option (Int32) :=
  if x1 < 0 then
    some 0
  else
    if x1 < 4 then
      f_BH_waysOfBlow_20 FU x1 x2 0 0 σ
    else
      some 0
set_option maxHeartbeats 4000000 in
set_option maxRecDepth 20000 in
theorem t_BH_waysOfBlow_20b {r : Int32} {σ : St} (C : Cx g A p s m av meth c prog_1_method_45_code 5 "BellHammer" (some .int)) {k20 : Int32 → Int32 → Int32 → Int32 → St → Option (Int32)} (hk20 : ∀ (x1 : Int32) (x2 : Int32) (x3 : Int32) (x4 : Int32) (H : Heap) (locs : List Loc) (ls : Array Slot), k20 x1 x2 x3 x4 σ = some r → Wd g (wX g q) A s σ H locs → lv_has ls 5 [(0, .ref (q 0)), (1, .int x1), (2, .int x2), (3, .int x3), (4, .int x4)] → WK p l e s m av below meth c 2 g (wX g q) A (some (.int r)) σ H locs (F0 m 20 ls []))  {x1 : Int32} {x2 : Int32} {x3 : Int32} {x4 : Int32} {H : Heap} {locs : List Loc} {ls : Array Slot} (hf : f_BH_waysOfBlow_20b  k20 x1 x2 x3 x4 σ = some r) (w : Wd g (wX g q) A s σ H locs) (hl : lv_has ls 5 [(0, .ref (q 0)), (1, .int x1), (2, .int x2), (3, .int x3), (4, .int x4)]) : WK p l e s m av below meth c 2 g (wX g q) A (some (.int r)) σ H locs (F0 m 20 ls []) := by
  obtain ⟨hx, hb, hml, hown, hts, hK, hA, hZ, hlocks, hr, hN⟩ := id C
  unfold f_BH_waysOfBlow_20b at hf
  refine lv_iload hx hb d_BH_waysOfBlow_20 (lv_at hl 4 rfl) ?_
  refine lv_aload_n hx hb d_BH_waysOfBlow_22 rfl (lv_at hl 0 rfl) ?_
  refine xg_0_turn C w k511 d_BH_waysOfBlow_23 ?_
  refine xg_23_aim C w k408 d_BH_waysOfBlow_26 ?_
  refine lv_icmp_gt (tgt := 61) hx hb d_BH_waysOfBlow_29 (by decide) (fun cd => ?_) (fun cd => ?_)
  · have hf := it_e cd hf
    refine lv_iload_n hx hb d_BH_waysOfBlow_61 rfl (lv_at hl 3 rfl) ?_
    cases some_e hf
    exact k_iret C w d_BH_waysOfBlow_62
  · have hf := if_e cd hf
    refine lv_aload_n hx hb d_BH_waysOfBlow_32 rfl (lv_at hl 0 rfl) ?_
    refine xg_0_turn C w k511 d_BH_waysOfBlow_33 ?_
    refine lv_iload_n hx hb d_BH_waysOfBlow_36 rfl (lv_at hl 1 rfl) ?_
    refine lv_iload hx hb d_BH_waysOfBlow_37 (lv_at hl 4 rfl) ?_
    refine lv_iload_n hx hb d_BH_waysOfBlow_39 rfl (lv_at hl 2 rfl) ?_
    obtain ⟨r_2, h_1, hf⟩ := bp_e hf
    refine k_callV (As := [.int x1, .int x4, .int x2]) (rest := []) C w (c_Turn_height (q := q) h_1) cv_Turn_height k776 (xr_23 C w) (by decide) hl.1 rfl (Nat.le_of_ble_eq_true rfl) d_BH_waysOfBlow_40 (fun H locs w => ?_)
    show WK p l e s m av below meth c 2 g (wX g q) A (some (.int r)) σ H locs (F0 m 43 ls [.int r_2])
    refine lv_aload_n hx hb d_BH_waysOfBlow_43 rfl (lv_at hl 0 rfl) ?_
    refine xg_0_seen C w k514 d_BH_waysOfBlow_44 ?_
    refine lv_iload_n hx hb d_BH_waysOfBlow_47 rfl (lv_at hl 1 rfl) ?_
    obtain ⟨g_3, hf⟩ := gd_e hf
    refine xl_42 C w g_3 d_BH_waysOfBlow_48 ?_
    refine lv_icmp_ne (tgt := 55) hx hb d_BH_waysOfBlow_49 (by decide) (fun cd => ?_) (fun cd => ?_)
    · have hf := if_e cd hf
      obtain ⟨x_4, ex_4⟩ : ∃ y : Int32, y = (x4 + 1) := ⟨_, rfl⟩
      have hf := lt_e ex_4 hf
      refine lv_iinc (v := x_4) (lv' := [(4, .int x_4), (0, .ref (q 0)), (1, .int x1), (2, .int x2), (3, .int x3)]) hx hb d_BH_waysOfBlow_55 hl (k := 4) rfl (by rw [ex_4]; rfl) (by decide) rfl (fun ls hl => ?_)
      refine lv_goto (tgt := 20) hx hb d_BH_waysOfBlow_58 (by decide) ?_
      exact hk20 x1 x2 x3 x_4  _ _ _ hf w (lv_sub hl [1, 2, 3, 4, 0] rfl)
    · have hf := it_e cd hf
      obtain ⟨x_5, ex_5⟩ : ∃ y : Int32, y = (x3 + 1) := ⟨_, rfl⟩
      have hf := lt_e ex_5 hf
      refine lv_iinc (v := x_5) (lv' := [(3, .int x_5), (0, .ref (q 0)), (1, .int x1), (2, .int x2), (4, .int x4)]) hx hb d_BH_waysOfBlow_52 hl (k := 3) rfl (by rw [ex_5]; rfl) (by decide) rfl (fun ls hl => ?_)
      obtain ⟨x_6, ex_6⟩ : ∃ y : Int32, y = (x4 + 1) := ⟨_, rfl⟩
      have hf := lt_e ex_6 hf
      refine lv_iinc (v := x_6) (lv' := [(4, .int x_6), (3, .int x_5), (0, .ref (q 0)), (1, .int x1), (2, .int x2)]) hx hb d_BH_waysOfBlow_55 hl (k := 4) rfl (by rw [ex_6]; rfl) (by decide) rfl (fun ls hl => ?_)
      refine lv_goto (tgt := 20) hx hb d_BH_waysOfBlow_58 (by decide) ?_
      exact hk20 x1 x2 x_5 x_6  _ _ _ hf w (lv_sub hl [2, 3, 4, 1, 0] rfl)
set_option maxHeartbeats 4000000 in
set_option maxRecDepth 20000 in
theorem t_BH_waysOfBlow_20 {r : Int32} {σ : St} (C : Cx g A p s m av meth c prog_1_method_45_code 5 "BellHammer" (some .int))  : ∀ (n : Nat) (x1 : Int32) (x2 : Int32) (x3 : Int32) (x4 : Int32) (H : Heap) (locs : List Loc) (ls : Array Slot), f_BH_waysOfBlow_20   n x1 x2 x3 x4 σ = some r → Wd g (wX g q) A s σ H locs → lv_has ls 5 [(0, .ref (q 0)), (1, .int x1), (2, .int x2), (3, .int x3), (4, .int x4)] → WK p l e s m av below meth c 2 g (wX g q) A (some (.int r)) σ H locs (F0 m 20 ls []) := by
  intro n
  induction n with
  | zero => intro x1 x2 x3 x4 H locs ls hf; exact absurd hf (by intro z; cases z)
  | succ n ih => intro x1 x2 x3 x4 H locs ls hf w hl; exact t_BH_waysOfBlow_20b C  ih hf w hl
set_option maxHeartbeats 4000000 in
set_option maxRecDepth 20000 in
theorem c_BH_waysOfBlow {l : Launch} {g : GX} {q : Nat → Nat} {x1 : Int32} {x2 : Int32}  {σ : St} {r : Int32} (hf : f_BH_waysOfBlow  x1 x2 σ = some r) : KK l y_BH_waysOfBlow prog_1_method_45_code 5 (some .int) 2 g (wX g q) σ [.ref (q 0), .int x1, .int x2] (some (.int r)) (wX g q) σ := by
  refine KK_of (plainFor_of_name (by decide)) (Nat.le_of_ble_eq_true rfl) (fun p e s m below meth c A ls C w hl => ?_)
  have hl : lv_has ls 5 [(0, .ref (q 0)), (1, .int x1), (2, .int x2)] := hl
  obtain ⟨hx, hb, hml, hown, hts, hK, hA, hZ, hlocks, hr, hN⟩ := id C
  unfold f_BH_waysOfBlow at hf
  refine lv_iload_n hx hb d_BH_waysOfBlow_0 rfl (lv_at hl 1 rfl) ?_
  refine lv_if_lt (tgt := 13) hx hb d_BH_waysOfBlow_1 (by decide) (fun cd => ?_) (fun cd => ?_)
  · have hf := it_e cd hf
    refine lv_iconst (v := 0) hx hb d_BH_waysOfBlow_13 (by decide) ?_
    cases some_e hf
    exact k_iret C w d_BH_waysOfBlow_14
  · have hf := if_e cd hf
    refine lv_iload_n hx hb d_BH_waysOfBlow_4 rfl (lv_at hl 1 rfl) ?_
    refine lv_aload_n hx hb d_BH_waysOfBlow_5 rfl (lv_at hl 0 rfl) ?_
    refine xg_0_seen C w k514 d_BH_waysOfBlow_6 ?_
    refine xn_42 C w d_BH_waysOfBlow_9 ?_
    refine lv_icmp_lt (tgt := 15) hx hb d_BH_waysOfBlow_10 (by decide) (fun cd => ?_) (fun cd => ?_)
    · have hf := it_e cd hf
      refine lv_iconst (v := 0) hx hb d_BH_waysOfBlow_15 (by decide) ?_
      refine lv_istore_n (lv' := [(3, .int 0), (0, .ref (q 0)), (1, .int x1), (2, .int x2)]) hx hb d_BH_waysOfBlow_16 rfl hl (by decide) rfl (fun ls hl => ?_)
      refine lv_iconst (v := 0) hx hb d_BH_waysOfBlow_17 (by decide) ?_
      refine lv_istore (lv' := [(4, .int 0), (3, .int 0), (0, .ref (q 0)), (1, .int x1), (2, .int x2)]) hx hb d_BH_waysOfBlow_18 hl (by decide) rfl (fun ls hl => ?_)
      exact t_BH_waysOfBlow_20 C  FU x1 x2 0 0  _ _ _ hf w (lv_sub hl [2, 3, 4, 1, 0] rfl)
    · have hf := if_e cd hf
      refine lv_iconst (v := 0) hx hb d_BH_waysOfBlow_13 (by decide) ?_
      cases some_e hf
      exact k_iret C w d_BH_waysOfBlow_14
def f_BH_waysSeen_4b (k4 : Int32 → Int32 → St → Option (Int32)) (x1 : Int32) (x2 : Int32) (σ : St) : Option (Int32) :=
  if (sI σ 0) ≤ x2 then
    some x1
  else
    bp (f_BH_waysOfBlow x2 0 σ) fun r_2 =>
    bp (f_BH_waysOfBlow x2 1 σ) fun r_4 =>
    lt ((x1 * (r_2 + r_4))) fun x_5 =>
    lt ((x2 + 1)) fun x_6 =>
    k4 x_5 x_6 σ
def f_BH_waysSeen_4 : Nat → Int32 → Int32 → St → Option (Int32)
  | 0 => fun _ _ _ => none
  | n + 1 => f_BH_waysSeen_4b   (f_BH_waysSeen_4   n)
def f_BH_waysSeen (σ : St) : Option (Int32) :=
  f_BH_waysSeen_4 FU 1 0 σ
set_option maxHeartbeats 4000000 in
set_option maxRecDepth 20000 in
theorem t_BH_waysSeen_4b {r : Int32} {σ : St} (C : Cx g A p s m av meth c prog_1_method_44_code 3 "BellHammer" (some .int)) {k4 : Int32 → Int32 → St → Option (Int32)} (hk4 : ∀ (x1 : Int32) (x2 : Int32) (H : Heap) (locs : List Loc) (ls : Array Slot), k4 x1 x2 σ = some r → Wd g (wX g q) A s σ H locs → lv_has ls 3 [(0, .ref (q 0)), (1, .int x1), (2, .int x2)] → WK p l e s m av below meth c 3 g (wX g q) A (some (.int r)) σ H locs (F0 m 4 ls []))  {x1 : Int32} {x2 : Int32} {H : Heap} {locs : List Loc} {ls : Array Slot} (hf : f_BH_waysSeen_4b  k4 x1 x2 σ = some r) (w : Wd g (wX g q) A s σ H locs) (hl : lv_has ls 3 [(0, .ref (q 0)), (1, .int x1), (2, .int x2)]) : WK p l e s m av below meth c 3 g (wX g q) A (some (.int r)) σ H locs (F0 m 4 ls []) := by
  obtain ⟨hx, hb, hml, hown, hts, hK, hA, hZ, hlocks, hr, hN⟩ := id C
  unfold f_BH_waysSeen_4b at hf
  refine lv_iload_n hx hb d_BH_waysSeen_4 rfl (lv_at hl 2 rfl) ?_
  refine lv_aload_n hx hb d_BH_waysSeen_5 rfl (lv_at hl 0 rfl) ?_
  refine xg_0_seenBlows C w k515 d_BH_waysSeen_6 ?_
  refine lv_icmp_ge (tgt := 34) hx hb d_BH_waysSeen_9 (by decide) (fun cd => ?_) (fun cd => ?_)
  · have hf := it_e cd hf
    refine lv_iload_n hx hb d_BH_waysSeen_34 rfl (lv_at hl 1 rfl) ?_
    cases some_e hf
    exact k_iret C w d_BH_waysSeen_35
  · have hf := if_e cd hf
    refine lv_iload_n hx hb d_BH_waysSeen_12 rfl (lv_at hl 1 rfl) ?_
    refine lv_aload_n hx hb d_BH_waysSeen_13 rfl (lv_at hl 0 rfl) ?_
    refine lv_iload_n hx hb d_BH_waysSeen_14 rfl (lv_at hl 2 rfl) ?_
    refine lv_iconst (v := 0) hx hb d_BH_waysSeen_15 (by decide) ?_
    obtain ⟨r_2, h_1, hf⟩ := bp_e hf
    refine k_callV (As := [.int x2, .int 0]) (rest := [.int x1]) C w (c_BH_waysOfBlow (q := q) h_1) cv_BH_waysOfBlow k1031 (xr_0 C w) (by decide) hl.1 rfl (Nat.le_of_ble_eq_true rfl) d_BH_waysSeen_16 (fun H locs w => ?_)
    show WK p l e s m av below meth c 3 g (wX g q) A (some (.int r)) σ H locs (F0 m 19 ls [.int r_2, .int x1])
    refine lv_aload_n hx hb d_BH_waysSeen_19 rfl (lv_at hl 0 rfl) ?_
    refine lv_iload_n hx hb d_BH_waysSeen_20 rfl (lv_at hl 2 rfl) ?_
    refine lv_iconst (v := 1) hx hb d_BH_waysSeen_21 (by decide) ?_
    obtain ⟨r_4, h_3, hf⟩ := bp_e hf
    refine k_callV (As := [.int x2, .int 1]) (rest := [.int r_2, .int x1]) C w (c_BH_waysOfBlow (q := q) h_3) cv_BH_waysOfBlow k1031 (xr_0 C w) (by decide) hl.1 rfl (Nat.le_of_ble_eq_true rfl) d_BH_waysSeen_22 (fun H locs w => ?_)
    show WK p l e s m av below meth c 3 g (wX g q) A (some (.int r)) σ H locs (F0 m 25 ls [.int r_4, .int r_2, .int x1])
    refine lv_iadd hx hb d_BH_waysSeen_25 ?_
    refine lv_imul hx hb d_BH_waysSeen_26 ?_
    refine lv_topi (fun x_5 ex_5 => ?_)
    have hf := lt_e ex_5 hf
    refine lv_istore_n (lv' := [(1, .int x_5), (0, .ref (q 0)), (2, .int x2)]) hx hb d_BH_waysSeen_27 rfl hl (by decide) rfl (fun ls hl => ?_)
    obtain ⟨x_6, ex_6⟩ : ∃ y : Int32, y = (x2 + 1) := ⟨_, rfl⟩
    have hf := lt_e ex_6 hf
    refine lv_iinc (v := x_6) (lv' := [(2, .int x_6), (1, .int x_5), (0, .ref (q 0))]) hx hb d_BH_waysSeen_28 hl (k := 2) rfl (by rw [ex_6]; rfl) (by decide) rfl (fun ls hl => ?_)
    refine lv_goto (tgt := 4) hx hb d_BH_waysSeen_31 (by decide) ?_
    exact hk4 x_5 x_6  _ _ _ hf w (lv_sub hl [2, 1, 0] rfl)
set_option maxHeartbeats 4000000 in
set_option maxRecDepth 20000 in
theorem t_BH_waysSeen_4 {r : Int32} {σ : St} (C : Cx g A p s m av meth c prog_1_method_44_code 3 "BellHammer" (some .int))  : ∀ (n : Nat) (x1 : Int32) (x2 : Int32) (H : Heap) (locs : List Loc) (ls : Array Slot), f_BH_waysSeen_4   n x1 x2 σ = some r → Wd g (wX g q) A s σ H locs → lv_has ls 3 [(0, .ref (q 0)), (1, .int x1), (2, .int x2)] → WK p l e s m av below meth c 3 g (wX g q) A (some (.int r)) σ H locs (F0 m 4 ls []) := by
  intro n
  induction n with
  | zero => intro x1 x2 H locs ls hf; exact absurd hf (by intro z; cases z)
  | succ n ih => intro x1 x2 H locs ls hf w hl; exact t_BH_waysSeen_4b C  ih hf w hl
set_option maxHeartbeats 4000000 in
set_option maxRecDepth 20000 in
theorem c_BH_waysSeen {l : Launch} {g : GX} {q : Nat → Nat}  {σ : St} {r : Int32} (hf : f_BH_waysSeen   σ = some r) : KK l y_BH_waysSeen prog_1_method_44_code 3 (some .int) 3 g (wX g q) σ [.ref (q 0)] (some (.int r)) (wX g q) σ := by
  refine KK_of (plainFor_of_name (by decide)) (Nat.le_of_ble_eq_true rfl) (fun p e s m below meth c A ls C w hl => ?_)
  have hl : lv_has ls 3 [(0, .ref (q 0))] := hl
  obtain ⟨hx, hb, hml, hown, hts, hK, hA, hZ, hlocks, hr, hN⟩ := id C
  unfold f_BH_waysSeen at hf
  refine lv_iconst (v := 1) hx hb d_BH_waysSeen_0 (by decide) ?_
  refine lv_istore_n (lv' := [(1, .int 1), (0, .ref (q 0))]) hx hb d_BH_waysSeen_1 rfl hl (by decide) rfl (fun ls hl => ?_)
  refine lv_iconst (v := 0) hx hb d_BH_waysSeen_2 (by decide) ?_
  refine lv_istore_n (lv' := [(2, .int 0), (1, .int 1), (0, .ref (q 0))]) hx hb d_BH_waysSeen_3 rfl hl (by decide) rfl (fun ls hl => ?_)
  exact t_BH_waysSeen_4 C  FU 1 0  _ _ _ hf w (lv_sub hl [2, 1, 0] rfl)
def f_BH_was (x1 : Int32) (σ : St) : Option (Int32 × St) :=
  if (sI σ 0) = 0 then
    some ((-1), σ)
  else
    if x1 < (-1) then
      some ((-1), σ)
    else
      if x1 < (sI σ 0) then
        bp (f_Turn_load (sI σ 1) σ) fun σ_2 =>
        bp (f_BH_waysSeen σ_2) fun r_4 =>
        if x1 = (-1) then
          some (r_4, σ_2)
        else
          bp (f_BH_waysOfBlow x1 1 σ_2) fun r_6 =>
          bp (f_BH_waysOfBlow x1 0 σ_2) fun r_8 =>
          lt ((r_6 + r_8)) fun x_9 =>
          if r_4 = 0 then
            some (0, σ_2)
          else
            if x_9 = 0 then
              some (0, σ_2)
            else
              gd (nz x_9) <|
              some (((1000 * r_6) / x_9), σ_2)
      else
        some ((-1), σ)
set_option maxHeartbeats 4000000 in
set_option maxRecDepth 20000 in
theorem c_BH_was {l : Launch} {g : GX} {q : Nat → Nat} {x1 : Int32}  {σ : St} {r : Int32} {σ2 : St} (hf : f_BH_was  x1 σ = some (r, σ2)) : KK l y_BH_was prog_1_method_26_code 5 (some .int) 4 g (wX g q) σ [.ref (q 0), .int x1] (some (.int r)) (wX g q) σ2 := by
  refine KK_of (plainFor_of_name (by decide)) (Nat.le_of_ble_eq_true rfl) (fun p e s m below meth c A ls C w hl => ?_)
  have hl : lv_has ls 5 [(0, .ref (q 0)), (1, .int x1)] := hl
  obtain ⟨hx, hb, hml, hown, hts, hK, hA, hZ, hlocks, hr, hN⟩ := id C
  unfold f_BH_was at hf
  refine lv_aload_n hx hb d_BH_was_0 rfl (lv_at hl 0 rfl) ?_
  refine xg_0_seenBlows C w k515 d_BH_was_1 ?_
  refine lv_if_eq (tgt := 20) hx hb d_BH_was_4 (by decide) (fun cd => ?_) (fun cd => ?_)
  · have hf := it_e cd hf
    refine lv_iconst (v := (-1)) hx hb d_BH_was_20 (by decide) ?_
    obtain ⟨rfl, rfl⟩ := some2_e hf
    exact k_iret C w d_BH_was_21
  · have hf := if_e cd hf
    refine lv_iload_n hx hb d_BH_was_7 rfl (lv_at hl 1 rfl) ?_
    refine lv_iconst (v := (-1)) hx hb d_BH_was_8 (by decide) ?_
    refine lv_icmp_lt (tgt := 20) hx hb d_BH_was_9 (by decide) (fun cd => ?_) (fun cd => ?_)
    · have hf := it_e cd hf
      refine lv_iconst (v := (-1)) hx hb d_BH_was_20 (by decide) ?_
      obtain ⟨rfl, rfl⟩ := some2_e hf
      exact k_iret C w d_BH_was_21
    · have hf := if_e cd hf
      refine lv_iload_n hx hb d_BH_was_12 rfl (lv_at hl 1 rfl) ?_
      refine lv_aload_n hx hb d_BH_was_13 rfl (lv_at hl 0 rfl) ?_
      refine xg_0_seenBlows C w k515 d_BH_was_14 ?_
      refine lv_icmp_lt (tgt := 22) hx hb d_BH_was_17 (by decide) (fun cd => ?_) (fun cd => ?_)
      · have hf := it_e cd hf
        refine lv_aload_n hx hb d_BH_was_22 rfl (lv_at hl 0 rfl) ?_
        refine xg_0_turn C w k511 d_BH_was_23 ?_
        refine lv_aload_n hx hb d_BH_was_26 rfl (lv_at hl 0 rfl) ?_
        refine xg_0_fair C w k513 d_BH_was_27 ?_
        refine lv_aload_n hx hb d_BH_was_30 rfl (lv_at hl 0 rfl) ?_
        refine xg_0_seenTrier C w k516 d_BH_was_31 ?_
        refine lv_aload_n hx hb d_BH_was_34 rfl (lv_at hl 0 rfl) ?_
        refine xg_0_book C w k509 d_BH_was_35 ?_
        refine xg_14_now C w k344 d_BH_was_38 ?_
        obtain ⟨σ_2, h_1, hf⟩ := bp_e hf
        refine k_callV (As := [.ref (q 34), .int (sI σ 1), .ref (q 15)]) (rest := []) C w (c_Turn_load (q := q) h_1) cv_Turn_load k770 (xr_23 C w) (by decide) hl.1 rfl (Nat.le_of_ble_eq_true rfl) d_BH_was_41 (fun H locs w => ?_)
        show WK p l e s m _ below meth c 4 g (wX g q) A (some (.int r)) σ2 H locs (F0 m 44 ls [])
        refine lv_aload_n hx hb d_BH_was_44 rfl (lv_at hl 0 rfl) ?_
        obtain ⟨r_4, h_3, hf⟩ := bp_e hf
        refine k_callV (As := []) (rest := []) C w (c_BH_waysSeen (q := q) h_3) cv_BH_waysSeen k1027 (xr_0 C w) (by decide) hl.1 rfl (Nat.le_of_ble_eq_true rfl) d_BH_was_45 (fun H locs w => ?_)
        show WK p l e s m _ below meth c 4 g (wX g q) A (some (.int r)) σ2 H locs (F0 m 48 ls [.int r_4])
        refine lv_istore_n (lv' := [(2, .int r_4), (0, .ref (q 0)), (1, .int x1)]) hx hb d_BH_was_48 rfl hl (by decide) rfl (fun ls hl => ?_)
        refine lv_iload_n hx hb d_BH_was_49 rfl (lv_at hl 2 rfl) ?_
        refine lv_iconst (v := (-1)) hx hb d_BH_was_50 (by decide) ?_
        refine lv_icmp_ne (tgt := 56) hx hb d_BH_was_51 (by decide) (fun cd => ?_) (fun cd => ?_)
        · have hf := if_e cd hf
          refine lv_aload_n hx hb d_BH_was_56 rfl (lv_at hl 1 rfl) ?_
          refine lv_iload_n hx hb d_BH_was_57 rfl (lv_at hl 2 rfl) ?_
          refine lv_iconst (v := 1) hx hb d_BH_was_58 (by decide) ?_
          obtain ⟨r_6, h_5, hf⟩ := bp_e hf
          refine k_callV (As := [.int x1, .int 1]) (rest := []) C w (c_BH_waysOfBlow (q := q) h_5) cv_BH_waysOfBlow k1031 (xr_0 C w) (by decide) hl.1 rfl (Nat.le_of_ble_eq_true rfl) d_BH_was_59 (fun H locs w => ?_)
          show WK p l e s m _ below meth c 4 g (wX g q) A (some (.int r)) σ2 H locs (F0 m 62 ls [.int r_6])
          refine lv_istore_n (lv' := [(3, .int r_6), (2, .int r_4), (0, .ref (q 0)), (1, .int x1)]) hx hb d_BH_was_62 rfl hl (by decide) rfl (fun ls hl => ?_)
          refine lv_iload_n hx hb d_BH_was_63 rfl (lv_at hl 0 rfl) ?_
          refine lv_aload_n hx hb d_BH_was_64 rfl (lv_at hl 2 rfl) ?_
          refine lv_iload_n hx hb d_BH_was_65 rfl (lv_at hl 3 rfl) ?_
          refine lv_iconst (v := 0) hx hb d_BH_was_66 (by decide) ?_
          obtain ⟨r_8, h_7, hf⟩ := bp_e hf
          refine k_callV (As := [.int x1, .int 0]) (rest := [.int r_6]) C w (c_BH_waysOfBlow (q := q) h_7) cv_BH_waysOfBlow k1031 (xr_0 C w) (by decide) hl.1 rfl (Nat.le_of_ble_eq_true rfl) d_BH_was_67 (fun H locs w => ?_)
          show WK p l e s m _ below meth c 4 g (wX g q) A (some (.int r)) σ2 H locs (F0 m 70 ls [.int r_8, .int r_6])
          refine lv_iadd hx hb d_BH_was_70 ?_
          refine lv_topi (fun x_9 ex_9 => ?_)
          have hf := lt_e ex_9 hf
          refine lv_istore (lv' := [(4, .int x_9), (3, .int r_6), (2, .int r_4), (0, .ref (q 0)), (1, .int x1)]) hx hb d_BH_was_71 hl (by decide) rfl (fun ls hl => ?_)
          refine lv_iload_n hx hb d_BH_was_73 rfl (lv_at hl 2 rfl) ?_
          refine lv_if_eq (tgt := 82) hx hb d_BH_was_74 (by decide) (fun cd => ?_) (fun cd => ?_)
          · have hf := it_e cd hf
            refine lv_iconst (v := 0) hx hb d_BH_was_82 (by decide) ?_
            refine lv_goto (tgt := 94) hx hb d_BH_was_83 (by decide) ?_
            obtain ⟨rfl, rfl⟩ := some2_e hf
            exact k_iret C w d_BH_was_94
          · have hf := if_e cd hf
            refine lv_iload hx hb d_BH_was_77 (lv_at hl 0 rfl) ?_
            refine lv_if_ne (tgt := 86) hx hb d_BH_was_79 (by decide) (fun cd => ?_) (fun cd => ?_)
            · have hf := if_e cd hf
              refine lv_sipush (v := 1000) hx hb d_BH_was_86 (by decide) ?_
              refine lv_iload_n hx hb d_BH_was_89 rfl (lv_at hl 1 rfl) ?_
              refine lv_imul hx hb d_BH_was_90 ?_
              refine lv_iload hx hb d_BH_was_91 (lv_at hl 0 rfl) ?_
              obtain ⟨g_10, hf⟩ := gd_e hf
              refine lv_idiv hx hb d_BH_was_93 (nz_e g_10) ?_
              obtain ⟨rfl, rfl⟩ := some2_e hf
              exact k_iret C w d_BH_was_94
            · have hf := it_e cd hf
              refine lv_iconst (v := 0) hx hb d_BH_was_82 (by decide) ?_
              refine lv_goto (tgt := 94) hx hb d_BH_was_83 (by decide) ?_
              obtain ⟨rfl, rfl⟩ := some2_e hf
              exact k_iret C w d_BH_was_94
        · have hf := it_e cd hf
          refine lv_iload_n hx hb d_BH_was_54 rfl (lv_at hl 0 rfl) ?_
          obtain ⟨rfl, rfl⟩ := some2_e hf
          exact k_iret C w d_BH_was_55
      · have hf := if_e cd hf
        refine lv_iconst (v := (-1)) hx hb d_BH_was_20 (by decide) ?_
        obtain ⟨rfl, rfl⟩ := some2_e hf
        exact k_iret C w d_BH_was_21
def f_BH_strong_87 (k50 : Int32 → Int32 → Int32 → Int32 → Int32 → St → Option (Int32 × St)) (x1 : Int32) (x2 : Int32) (x5 : Int32) (t0 : Int32) (σ : St) : Option (Int32 × St) :=
  lt ((x5 + 1)) fun x_1 =>
  k50 x1 x2 t0 x5 x_1 σ
def f_BH_strong_50b (k50 : Int32 → Int32 → Int32 → Int32 → Int32 → St → Option (Int32 × St)) (x1 : Int32) (x2 : Int32) (x3 : Int32) (x4 : Int32) (x5 : Int32) (σ : St) : Option (Int32 × St) :=
  if 99 < x5 then
    if x1 = 0 then
      some (x2, σ)
    else
      if x1 = 1 then
        some (x3, σ)
      else
        some (x4, σ)
  else
    lt (uI σ 25 x5) fun σ_1 =>
    bp (f_BH_waysSeen σ_1) fun r_3 =>
    if r_3 ≤ 0 then
      lt ((x5 + 1)) fun x_4 =>
      k50 x1 x2 x3 x4 x_4 σ_1
    else
      lt ((x2 + 1)) fun x_5 =>
      if x3 = (-1) then
        f_BH_strong_87 k50 x1 x_5 x5 x5 σ_1
      else
        f_BH_strong_87 k50 x1 x_5 x5 x3 σ_1
def f_BH_strong_50 : Nat → Int32 → Int32 → Int32 → Int32 → Int32 → St → Option (Int32 × St)
  | 0 => fun _ _ _ _ _ _ => none
  | n + 1 => f_BH_strong_50b   (f_BH_strong_50   n)
def f_BH_strong (x1 : Int32) (σ : St) : Option (Int32 × St) :=
  if (sI σ 0) = 0 then
    some ((-1), σ)
  else
    if x1 < 0 then
      some ((-1), σ)
    else
      if x1 ≤ 2 then
        bp (f_Turn_load (sI σ 1) σ) fun σ_2 =>
        f_BH_strong_50 FU x1 0 (-1) (-1) 1 σ_2
      else
        some ((-1), σ)
set_option maxHeartbeats 4000000 in
set_option maxRecDepth 20000 in
theorem t_BH_strong_87 {r : Int32} {σ2 : St} (C : Cx g A p s m av meth c prog_1_method_27_code 6 "BellHammer" (some .int)) {k50 : Int32 → Int32 → Int32 → Int32 → Int32 → St → Option (Int32 × St)} (hk50 : ∀ (x1 : Int32) (x2 : Int32) (x3 : Int32) (x4 : Int32) (x5 : Int32) (σ : St) (H : Heap) (locs : List Loc) (ls : Array Slot), k50 x1 x2 x3 x4 x5 σ = some (r, σ2) → Wd g (wX g q) A s σ H locs → lv_has ls 6 [(0, .ref (q 0)), (1, .int x1), (2, .int x2), (3, .int x3), (4, .int x4), (5, .int x5)] → WK p l e s m av below meth c 4 g (wX g q) A (some (.int r)) σ2 H locs (F0 m 50 ls []))  {x1 : Int32} {x2 : Int32} {x5 : Int32} {t0 : Int32} {σ : St} {H : Heap} {locs : List Loc} {ls : Array Slot} (hf : f_BH_strong_87  k50 x1 x2 x5 t0 σ = some (r, σ2)) (w : Wd g (wX g q) A s σ H locs) (hl : lv_has ls 6 [(0, .ref (q 0)), (1, .int x1), (2, .int x2), (5, .int x5)]) : WK p l e s m av below meth c 4 g (wX g q) A (some (.int r)) σ2 H locs (F0 m 87 ls [.int t0]) := by
  obtain ⟨hx, hb, hml, hown, hts, hK, hA, hZ, hlocks, hr, hN⟩ := id C
  unfold f_BH_strong_87 at hf
  refine lv_istore_n (lv' := [(3, .int t0), (0, .ref (q 0)), (1, .int x1), (2, .int x2), (5, .int x5)]) hx hb d_BH_strong_87 rfl hl (by decide) rfl (fun ls hl => ?_)
  refine lv_iload hx hb d_BH_strong_88 (lv_at hl 4 rfl) ?_
  refine lv_istore (lv' := [(4, .int x5), (3, .int t0), (0, .ref (q 0)), (1, .int x1), (2, .int x2), (5, .int x5)]) hx hb d_BH_strong_90 hl (by decide) rfl (fun ls hl => ?_)
  obtain ⟨x_1, ex_1⟩ : ∃ y : Int32, y = (x5 + 1) := ⟨_, rfl⟩
  have hf := lt_e ex_1 hf
  refine lv_iinc (v := x_1) (lv' := [(5, .int x_1), (4, .int x5), (3, .int t0), (0, .ref (q 0)), (1, .int x1), (2, .int x2)]) hx hb d_BH_strong_92 hl (k := 5) rfl (by rw [ex_1]; rfl) (by decide) rfl (fun ls hl => ?_)
  refine lv_goto (tgt := 50) hx hb d_BH_strong_95 (by decide) ?_
  exact hk50 x1 x2 t0 x5 x_1 σ _ _ _ hf w (lv_sub hl [3, 4, 5, 2, 1, 0] rfl)
set_option maxHeartbeats 4000000 in
set_option maxRecDepth 20000 in
theorem t_BH_strong_50b {r : Int32} {σ2 : St} (C : Cx g A p s m av meth c prog_1_method_27_code 6 "BellHammer" (some .int)) {k50 : Int32 → Int32 → Int32 → Int32 → Int32 → St → Option (Int32 × St)} (hk50 : ∀ (x1 : Int32) (x2 : Int32) (x3 : Int32) (x4 : Int32) (x5 : Int32) (σ : St) (H : Heap) (locs : List Loc) (ls : Array Slot), k50 x1 x2 x3 x4 x5 σ = some (r, σ2) → Wd g (wX g q) A s σ H locs → lv_has ls 6 [(0, .ref (q 0)), (1, .int x1), (2, .int x2), (3, .int x3), (4, .int x4), (5, .int x5)] → WK p l e s m av below meth c 4 g (wX g q) A (some (.int r)) σ2 H locs (F0 m 50 ls []))  {x1 : Int32} {x2 : Int32} {x3 : Int32} {x4 : Int32} {x5 : Int32} {σ : St} {H : Heap} {locs : List Loc} {ls : Array Slot} (hf : f_BH_strong_50b  k50 x1 x2 x3 x4 x5 σ = some (r, σ2)) (w : Wd g (wX g q) A s σ H locs) (hl : lv_has ls 6 [(0, .ref (q 0)), (1, .int x1), (2, .int x2), (3, .int x3), (4, .int x4), (5, .int x5)]) : WK p l e s m av below meth c 4 g (wX g q) A (some (.int r)) σ2 H locs (F0 m 50 ls []) := by
  obtain ⟨hx, hb, hml, hown, hts, hK, hA, hZ, hlocks, hr, hN⟩ := id C
  unfold f_BH_strong_50b at hf
  refine lv_iload hx hb d_BH_strong_50 (lv_at hl 5 rfl) ?_
  refine lv_bipush (v := 99) hx hb d_BH_strong_52 (by decide) ?_
  refine lv_icmp_gt (tgt := 98) hx hb d_BH_strong_54 (by decide) (fun cd => ?_) (fun cd => ?_)
  · have hf := it_e cd hf
    refine lv_iload_n hx hb d_BH_strong_98 rfl (lv_at hl 1 rfl) ?_
    refine lv_if_ne (tgt := 104) hx hb d_BH_strong_99 (by decide) (fun cd => ?_) (fun cd => ?_)
    · have hf := if_e cd hf
      refine lv_iload_n hx hb d_BH_strong_104 rfl (lv_at hl 1 rfl) ?_
      refine lv_iconst (v := 1) hx hb d_BH_strong_105 (by decide) ?_
      refine lv_icmp_ne (tgt := 113) hx hb d_BH_strong_106 (by decide) (fun cd => ?_) (fun cd => ?_)
      · have hf := if_e cd hf
        refine lv_iload hx hb d_BH_strong_113 (lv_at hl 4 rfl) ?_
        obtain ⟨rfl, rfl⟩ := some2_e hf
        exact k_iret C w d_BH_strong_115
      · have hf := it_e cd hf
        refine lv_iload_n hx hb d_BH_strong_109 rfl (lv_at hl 3 rfl) ?_
        refine lv_goto (tgt := 115) hx hb d_BH_strong_110 (by decide) ?_
        obtain ⟨rfl, rfl⟩ := some2_e hf
        exact k_iret C w d_BH_strong_115
    · have hf := it_e cd hf
      refine lv_iload_n hx hb d_BH_strong_102 rfl (lv_at hl 2 rfl) ?_
      obtain ⟨rfl, rfl⟩ := some2_e hf
      exact k_iret C w d_BH_strong_103
  · have hf := if_e cd hf
    refine lv_aload_n hx hb d_BH_strong_57 rfl (lv_at hl 0 rfl) ?_
    refine xg_0_turn C w k511 d_BH_strong_58 ?_
    refine lv_iload hx hb d_BH_strong_61 (lv_at hl 5 rfl) ?_
    refine xp_23_force C w k405 d_BH_strong_63 (fun σ_1 H locs eσ_1 w => ?_)
    have hf := lt_e eσ_1 hf
    refine lv_aload_n hx hb d_BH_strong_66 rfl (lv_at hl 0 rfl) ?_
    obtain ⟨r_3, h_2, hf⟩ := bp_e hf
    refine k_callV (As := []) (rest := []) C w (c_BH_waysSeen (q := q) h_2) cv_BH_waysSeen k1027 (xr_0 C w) (by decide) hl.1 rfl (Nat.le_of_ble_eq_true rfl) d_BH_strong_67 (fun H locs w => ?_)
    show WK p l e s m av below meth c 4 g (wX g q) A (some (.int r)) σ2 H locs (F0 m 70 ls [.int r_3])
    refine lv_if_le (tgt := 92) hx hb d_BH_strong_70 (by decide) (fun cd => ?_) (fun cd => ?_)
    · have hf := it_e cd hf
      obtain ⟨x_4, ex_4⟩ : ∃ y : Int32, y = (x5 + 1) := ⟨_, rfl⟩
      have hf := lt_e ex_4 hf
      refine lv_iinc (v := x_4) (lv' := [(5, .int x_4), (0, .ref (q 0)), (1, .int x1), (2, .int x2), (3, .int x3), (4, .int x4)]) hx hb d_BH_strong_92 hl (k := 5) rfl (by rw [ex_4]; rfl) (by decide) rfl (fun ls hl => ?_)
      refine lv_goto (tgt := 50) hx hb d_BH_strong_95 (by decide) ?_
      exact hk50 x1 x2 x3 x4 x_4 σ_1 _ _ _ hf w (lv_sub hl [1, 2, 3, 4, 5, 0] rfl)
    · have hf := if_e cd hf
      obtain ⟨x_5, ex_5⟩ : ∃ y : Int32, y = (x2 + 1) := ⟨_, rfl⟩
      have hf := lt_e ex_5 hf
      refine lv_iinc (v := x_5) (lv' := [(2, .int x_5), (0, .ref (q 0)), (1, .int x1), (3, .int x3), (4, .int x4), (5, .int x5)]) hx hb d_BH_strong_73 hl (k := 2) rfl (by rw [ex_5]; rfl) (by decide) rfl (fun ls hl => ?_)
      refine lv_iload_n hx hb d_BH_strong_76 rfl (lv_at hl 3 rfl) ?_
      refine lv_iconst (v := (-1)) hx hb d_BH_strong_77 (by decide) ?_
      refine lv_icmp_ne (tgt := 86) hx hb d_BH_strong_78 (by decide) (fun cd => ?_) (fun cd => ?_)
      · have hf := if_e cd hf
        refine lv_iload_n hx hb d_BH_strong_86 rfl (lv_at hl 3 rfl) ?_
        exact t_BH_strong_87 C hk50 hf w (lv_sub hl [1, 2, 0, 5] rfl)
      · have hf := it_e cd hf
        refine lv_iload hx hb d_BH_strong_81 (lv_at hl 5 rfl) ?_
        refine lv_goto (tgt := 87) hx hb d_BH_strong_83 (by decide) ?_
        exact t_BH_strong_87 C hk50 hf w (lv_sub hl [1, 2, 0, 5] rfl)
set_option maxHeartbeats 4000000 in
set_option maxRecDepth 20000 in
theorem t_BH_strong_50 {r : Int32} {σ2 : St} (C : Cx g A p s m av meth c prog_1_method_27_code 6 "BellHammer" (some .int))  : ∀ (n : Nat) (x1 : Int32) (x2 : Int32) (x3 : Int32) (x4 : Int32) (x5 : Int32) (σ : St) (H : Heap) (locs : List Loc) (ls : Array Slot), f_BH_strong_50   n x1 x2 x3 x4 x5 σ = some (r, σ2) → Wd g (wX g q) A s σ H locs → lv_has ls 6 [(0, .ref (q 0)), (1, .int x1), (2, .int x2), (3, .int x3), (4, .int x4), (5, .int x5)] → WK p l e s m av below meth c 4 g (wX g q) A (some (.int r)) σ2 H locs (F0 m 50 ls []) := by
  intro n
  induction n with
  | zero => intro x1 x2 x3 x4 x5 σ H locs ls hf; exact absurd hf (by intro z; cases z)
  | succ n ih => intro x1 x2 x3 x4 x5 σ H locs ls hf w hl; exact t_BH_strong_50b C  ih hf w hl
set_option maxHeartbeats 4000000 in
set_option maxRecDepth 20000 in
theorem c_BH_strong {l : Launch} {g : GX} {q : Nat → Nat} {x1 : Int32}  {σ : St} {r : Int32} {σ2 : St} (hf : f_BH_strong  x1 σ = some (r, σ2)) : KK l y_BH_strong prog_1_method_27_code 6 (some .int) 4 g (wX g q) σ [.ref (q 0), .int x1] (some (.int r)) (wX g q) σ2 := by
  refine KK_of (plainFor_of_name (by decide)) (Nat.le_of_ble_eq_true rfl) (fun p e s m below meth c A ls C w hl => ?_)
  have hl : lv_has ls 6 [(0, .ref (q 0)), (1, .int x1)] := hl
  obtain ⟨hx, hb, hml, hown, hts, hK, hA, hZ, hlocks, hr, hN⟩ := id C
  unfold f_BH_strong at hf
  refine lv_aload_n hx hb d_BH_strong_0 rfl (lv_at hl 0 rfl) ?_
  refine xg_0_seenBlows C w k515 d_BH_strong_1 ?_
  refine lv_if_eq (tgt := 16) hx hb d_BH_strong_4 (by decide) (fun cd => ?_) (fun cd => ?_)
  · have hf := it_e cd hf
    refine lv_iconst (v := (-1)) hx hb d_BH_strong_16 (by decide) ?_
    obtain ⟨rfl, rfl⟩ := some2_e hf
    exact k_iret C w d_BH_strong_17
  · have hf := if_e cd hf
    refine lv_iload_n hx hb d_BH_strong_7 rfl (lv_at hl 1 rfl) ?_
    refine lv_if_lt (tgt := 16) hx hb d_BH_strong_8 (by decide) (fun cd => ?_) (fun cd => ?_)
    · have hf := it_e cd hf
      refine lv_iconst (v := (-1)) hx hb d_BH_strong_16 (by decide) ?_
      obtain ⟨rfl, rfl⟩ := some2_e hf
      exact k_iret C w d_BH_strong_17
    · have hf := if_e cd hf
      refine lv_iload_n hx hb d_BH_strong_11 rfl (lv_at hl 1 rfl) ?_
      refine lv_iconst (v := 2) hx hb d_BH_strong_12 (by decide) ?_
      refine lv_icmp_le (tgt := 18) hx hb d_BH_strong_13 (by decide) (fun cd => ?_) (fun cd => ?_)
      · have hf := it_e cd hf
        refine lv_aload_n hx hb d_BH_strong_18 rfl (lv_at hl 0 rfl) ?_
        refine xg_0_turn C w k511 d_BH_strong_19 ?_
        refine lv_aload_n hx hb d_BH_strong_22 rfl (lv_at hl 0 rfl) ?_
        refine xg_0_fair C w k513 d_BH_strong_23 ?_
        refine lv_aload_n hx hb d_BH_strong_26 rfl (lv_at hl 0 rfl) ?_
        refine xg_0_seenTrier C w k516 d_BH_strong_27 ?_
        refine lv_aload_n hx hb d_BH_strong_30 rfl (lv_at hl 0 rfl) ?_
        refine xg_0_book C w k509 d_BH_strong_31 ?_
        refine xg_14_now C w k344 d_BH_strong_34 ?_
        obtain ⟨σ_2, h_1, hf⟩ := bp_e hf
        refine k_callV (As := [.ref (q 34), .int (sI σ 1), .ref (q 15)]) (rest := []) C w (c_Turn_load (q := q) h_1) cv_Turn_load k770 (xr_23 C w) (by decide) hl.1 rfl (Nat.le_of_ble_eq_true rfl) d_BH_strong_37 (fun H locs w => ?_)
        show WK p l e s m _ below meth c 4 g (wX g q) A (some (.int r)) σ2 H locs (F0 m 40 ls [])
        refine lv_iconst (v := 0) hx hb d_BH_strong_40 (by decide) ?_
        refine lv_istore_n (lv' := [(2, .int 0), (0, .ref (q 0)), (1, .int x1)]) hx hb d_BH_strong_41 rfl hl (by decide) rfl (fun ls hl => ?_)
        refine lv_iconst (v := (-1)) hx hb d_BH_strong_42 (by decide) ?_
        refine lv_istore_n (lv' := [(3, .int (-1)), (2, .int 0), (0, .ref (q 0)), (1, .int x1)]) hx hb d_BH_strong_43 rfl hl (by decide) rfl (fun ls hl => ?_)
        refine lv_iconst (v := (-1)) hx hb d_BH_strong_44 (by decide) ?_
        refine lv_istore (lv' := [(4, .int (-1)), (3, .int (-1)), (2, .int 0), (0, .ref (q 0)), (1, .int x1)]) hx hb d_BH_strong_45 hl (by decide) rfl (fun ls hl => ?_)
        refine lv_iconst (v := 1) hx hb d_BH_strong_47 (by decide) ?_
        refine lv_istore (lv' := [(5, .int 1), (4, .int (-1)), (3, .int (-1)), (2, .int 0), (0, .ref (q 0)), (1, .int x1)]) hx hb d_BH_strong_48 hl (by decide) rfl (fun ls hl => ?_)
        exact t_BH_strong_50 C  FU x1 0 (-1) (-1) 1 σ_2 _ _ _ hf w (lv_sub hl [4, 5, 3, 2, 1, 0] rfl)
      · have hf := if_e cd hf
        refine lv_iconst (v := (-1)) hx hb d_BH_strong_16 (by decide) ?_
        obtain ⟨rfl, rfl⟩ := some2_e hf
        exact k_iret C w d_BH_strong_17
def f_BH_next_51b (k51 : Int32 → Int32 → Int32 → St → Option (Int32 × St)) (x1 : Int32) (x2 : Int32) (x3 : Int32) (σ : St) : Option (Int32 × St) :=
  if (sI σ 26) < x3 then
    lt (((sI σ 26) + 1)) fun x_1 =>
    if 0 < x_1 then
      gd (nz x_1) <|
      some (((1000 * x2) / x_1), σ)
    else
      some ((-1), σ)
  else
    bp (f_Turn_height (sI σ 0) x3 x1 σ) fun r_4 =>
    bp (f_Turn_isRing_2 r_4 σ) fun r_6 =>
    if r_6 = 0 then
      lt ((x3 + 1)) fun x_7 =>
      k51 x1 x2 x_7 σ
    else
      lt ((x2 + 1)) fun x_8 =>
      lt ((x3 + 1)) fun x_9 =>
      k51 x1 x_8 x_9 σ
def f_BH_next_51 : Nat → Int32 → Int32 → Int32 → St → Option (Int32 × St)
  | 0 => fun _ _ _ _ => none
  | n + 1 => f_BH_next_51b   (f_BH_next_51   n)
def f_BH_next (x1 : Int32) (σ : St) : Option (Int32 × St) :=
  if (sI σ 0) = 0 then
    some ((-1), σ)
  else
    if (sI σ 0) < (sA σ 25 (3 : Int32).toNatClampNeg) then
      bp (f_Turn_load (sI σ 1) σ) fun σ_2 =>
      f_BH_next_51 FU x1 0 0 σ_2
    else
      some ((-1), σ)
set_option maxHeartbeats 4000000 in
set_option maxRecDepth 20000 in
theorem t_BH_next_51b {r : Int32} {σ2 : St} (C : Cx g A p s m av meth c prog_1_method_28_code 4 "BellHammer" (some .int)) {k51 : Int32 → Int32 → Int32 → St → Option (Int32 × St)} (hk51 : ∀ (x1 : Int32) (x2 : Int32) (x3 : Int32) (σ : St) (H : Heap) (locs : List Loc) (ls : Array Slot), k51 x1 x2 x3 σ = some (r, σ2) → Wd g (wX g q) A s σ H locs → lv_has ls 4 [(0, .ref (q 0)), (1, .int x1), (2, .int x2), (3, .int x3)] → WK p l e s m av below meth c 2 g (wX g q) A (some (.int r)) σ2 H locs (F0 m 51 ls []))  {x1 : Int32} {x2 : Int32} {x3 : Int32} {σ : St} {H : Heap} {locs : List Loc} {ls : Array Slot} (hf : f_BH_next_51b  k51 x1 x2 x3 σ = some (r, σ2)) (w : Wd g (wX g q) A s σ H locs) (hl : lv_has ls 4 [(0, .ref (q 0)), (1, .int x1), (2, .int x2), (3, .int x3)]) : WK p l e s m av below meth c 2 g (wX g q) A (some (.int r)) σ2 H locs (F0 m 51 ls []) := by
  obtain ⟨hx, hb, hml, hown, hts, hK, hA, hZ, hlocks, hr, hN⟩ := id C
  unfold f_BH_next_51b at hf
  refine lv_iload_n hx hb d_BH_next_51 rfl (lv_at hl 3 rfl) ?_
  refine lv_aload_n hx hb d_BH_next_52 rfl (lv_at hl 0 rfl) ?_
  refine xg_0_turn C w k511 d_BH_next_53 ?_
  refine xg_23_aim C w k408 d_BH_next_56 ?_
  refine lv_icmp_gt (tgt := 94) hx hb d_BH_next_59 (by decide) (fun cd => ?_) (fun cd => ?_)
  · have hf := it_e cd hf
    refine lv_aload_n hx hb d_BH_next_94 rfl (lv_at hl 0 rfl) ?_
    refine xg_0_turn C w k511 d_BH_next_95 ?_
    refine xg_23_aim C w k408 d_BH_next_98 ?_
    refine lv_iconst (v := 1) hx hb d_BH_next_101 (by decide) ?_
    refine lv_iadd hx hb d_BH_next_102 ?_
    refine lv_topi (fun x_1 ex_1 => ?_)
    have hf := lt_e ex_1 hf
    refine lv_istore_n (lv' := [(3, .int x_1), (0, .ref (q 0)), (1, .int x1), (2, .int x2)]) hx hb d_BH_next_103 rfl hl (by decide) rfl (fun ls hl => ?_)
    refine lv_iload_n hx hb d_BH_next_104 rfl (lv_at hl 0 rfl) ?_
    refine lv_if_gt (tgt := 112) hx hb d_BH_next_105 (by decide) (fun cd => ?_) (fun cd => ?_)
    · have hf := it_e cd hf
      refine lv_sipush (v := 1000) hx hb d_BH_next_112 (by decide) ?_
      refine lv_iload_n hx hb d_BH_next_115 rfl (lv_at hl 3 rfl) ?_
      refine lv_imul hx hb d_BH_next_116 ?_
      refine lv_iload_n hx hb d_BH_next_117 rfl (lv_at hl 0 rfl) ?_
      obtain ⟨g_2, hf⟩ := gd_e hf
      refine lv_idiv hx hb d_BH_next_118 (nz_e g_2) ?_
      obtain ⟨rfl, rfl⟩ := some2_e hf
      exact k_iret C w d_BH_next_119
    · have hf := if_e cd hf
      refine lv_iconst (v := (-1)) hx hb d_BH_next_108 (by decide) ?_
      refine lv_goto (tgt := 119) hx hb d_BH_next_109 (by decide) ?_
      obtain ⟨rfl, rfl⟩ := some2_e hf
      exact k_iret C w d_BH_next_119
  · have hf := if_e cd hf
    refine lv_aload_n hx hb d_BH_next_62 rfl (lv_at hl 0 rfl) ?_
    refine xg_0_turn C w k511 d_BH_next_63 ?_
    refine lv_aload_n hx hb d_BH_next_66 rfl (lv_at hl 0 rfl) ?_
    refine xg_0_turn C w k511 d_BH_next_67 ?_
    refine lv_aload_n hx hb d_BH_next_70 rfl (lv_at hl 0 rfl) ?_
    refine xg_0_seenBlows C w k515 d_BH_next_71 ?_
    refine lv_iload_n hx hb d_BH_next_74 rfl (lv_at hl 3 rfl) ?_
    refine lv_iload_n hx hb d_BH_next_75 rfl (lv_at hl 1 rfl) ?_
    obtain ⟨r_4, h_3, hf⟩ := bp_e hf
    refine k_callV (As := [.int (sI σ 0), .int x3, .int x1]) (rest := [.ref (q 23)]) C w (c_Turn_height (q := q) h_3) cv_Turn_height k776 (xr_23 C w) (by decide) hl.1 rfl (Nat.le_of_ble_eq_true rfl) d_BH_next_76 (fun H locs w => ?_)
    show WK p l e s m av below meth c 2 g (wX g q) A (some (.int r)) σ2 H locs (F0 m 79 ls [.int r_4, .ref (q 23)])
    obtain ⟨r_6, h_5, hf⟩ := bp_e hf
    refine k_callV (As := [.int r_4]) (rest := []) C w (c_Turn_isRing_2 (q := q) h_5) cv_Turn_isRing k969 (xr_23 C w) (by decide) hl.1 rfl (Nat.le_of_ble_eq_true rfl) d_BH_next_79 (fun H locs w => ?_)
    show WK p l e s m av below meth c 2 g (wX g q) A (some (.int r)) σ2 H locs (F0 m 82 ls [.int r_6])
    refine lv_if_eq (tgt := 88) hx hb d_BH_next_82 (by decide) (fun cd => ?_) (fun cd => ?_)
    · have hf := it_e cd hf
      obtain ⟨x_7, ex_7⟩ : ∃ y : Int32, y = (x3 + 1) := ⟨_, rfl⟩
      have hf := lt_e ex_7 hf
      refine lv_iinc (v := x_7) (lv' := [(3, .int x_7), (0, .ref (q 0)), (1, .int x1), (2, .int x2)]) hx hb d_BH_next_88 hl (k := 3) rfl (by rw [ex_7]; rfl) (by decide) rfl (fun ls hl => ?_)
      refine lv_goto (tgt := 51) hx hb d_BH_next_91 (by decide) ?_
      exact hk51 x1 x2 x_7 σ _ _ _ hf w (lv_sub hl [1, 2, 3, 0] rfl)
    · have hf := if_e cd hf
      obtain ⟨x_8, ex_8⟩ : ∃ y : Int32, y = (x2 + 1) := ⟨_, rfl⟩
      have hf := lt_e ex_8 hf
      refine lv_iinc (v := x_8) (lv' := [(2, .int x_8), (0, .ref (q 0)), (1, .int x1), (3, .int x3)]) hx hb d_BH_next_85 hl (k := 2) rfl (by rw [ex_8]; rfl) (by decide) rfl (fun ls hl => ?_)
      obtain ⟨x_9, ex_9⟩ : ∃ y : Int32, y = (x3 + 1) := ⟨_, rfl⟩
      have hf := lt_e ex_9 hf
      refine lv_iinc (v := x_9) (lv' := [(3, .int x_9), (2, .int x_8), (0, .ref (q 0)), (1, .int x1)]) hx hb d_BH_next_88 hl (k := 3) rfl (by rw [ex_9]; rfl) (by decide) rfl (fun ls hl => ?_)
      refine lv_goto (tgt := 51) hx hb d_BH_next_91 (by decide) ?_
      exact hk51 x1 x_8 x_9 σ _ _ _ hf w (lv_sub hl [2, 3, 1, 0] rfl)
set_option maxHeartbeats 4000000 in
set_option maxRecDepth 20000 in
theorem t_BH_next_51 {r : Int32} {σ2 : St} (C : Cx g A p s m av meth c prog_1_method_28_code 4 "BellHammer" (some .int))  : ∀ (n : Nat) (x1 : Int32) (x2 : Int32) (x3 : Int32) (σ : St) (H : Heap) (locs : List Loc) (ls : Array Slot), f_BH_next_51   n x1 x2 x3 σ = some (r, σ2) → Wd g (wX g q) A s σ H locs → lv_has ls 4 [(0, .ref (q 0)), (1, .int x1), (2, .int x2), (3, .int x3)] → WK p l e s m av below meth c 2 g (wX g q) A (some (.int r)) σ2 H locs (F0 m 51 ls []) := by
  intro n
  induction n with
  | zero => intro x1 x2 x3 σ H locs ls hf; exact absurd hf (by intro z; cases z)
  | succ n ih => intro x1 x2 x3 σ H locs ls hf w hl; exact t_BH_next_51b C  ih hf w hl
set_option maxHeartbeats 4000000 in
set_option maxRecDepth 20000 in
theorem c_BH_next {l : Launch} {g : GX} {q : Nat → Nat} {x1 : Int32}  {σ : St} {r : Int32} {σ2 : St} (hf : f_BH_next  x1 σ = some (r, σ2)) : KK l y_BH_next prog_1_method_28_code 4 (some .int) 2 g (wX g q) σ [.ref (q 0), .int x1] (some (.int r)) (wX g q) σ2 := by
  refine KK_of (plainFor_of_name (by decide)) (Nat.le_of_ble_eq_true rfl) (fun p e s m below meth c A ls C w hl => ?_)
  have hl : lv_has ls 4 [(0, .ref (q 0)), (1, .int x1)] := hl
  obtain ⟨hx, hb, hml, hown, hts, hK, hA, hZ, hlocks, hr, hN⟩ := id C
  unfold f_BH_next at hf
  refine lv_aload_n hx hb d_BH_next_0 rfl (lv_at hl 0 rfl) ?_
  refine xg_0_seenBlows C w k515 d_BH_next_1 ?_
  refine lv_if_eq (tgt := 23) hx hb d_BH_next_4 (by decide) (fun cd => ?_) (fun cd => ?_)
  · have hf := it_e cd hf
    refine lv_iconst (v := (-1)) hx hb d_BH_next_23 (by decide) ?_
    obtain ⟨rfl, rfl⟩ := some2_e hf
    exact k_iret C w d_BH_next_24
  · have hf := if_e cd hf
    refine lv_aload_n hx hb d_BH_next_7 rfl (lv_at hl 0 rfl) ?_
    refine xg_0_seenBlows C w k515 d_BH_next_8 ?_
    refine lv_aload_n hx hb d_BH_next_11 rfl (lv_at hl 0 rfl) ?_
    refine xg_0_fair C w k513 d_BH_next_12 ?_
    refine xg_34_settings C w k263 d_BH_next_15 ?_
    refine lv_iconst (v := 3) hx hb d_BH_next_18 (by decide) ?_
    refine xl_39 C w (by decide) d_BH_next_19 ?_
    refine lv_icmp_lt (tgt := 25) hx hb d_BH_next_20 (by decide) (fun cd => ?_) (fun cd => ?_)
    · have hf := it_e cd hf
      refine lv_aload_n hx hb d_BH_next_25 rfl (lv_at hl 0 rfl) ?_
      refine xg_0_turn C w k511 d_BH_next_26 ?_
      refine lv_aload_n hx hb d_BH_next_29 rfl (lv_at hl 0 rfl) ?_
      refine xg_0_fair C w k513 d_BH_next_30 ?_
      refine lv_aload_n hx hb d_BH_next_33 rfl (lv_at hl 0 rfl) ?_
      refine xg_0_seenTrier C w k516 d_BH_next_34 ?_
      refine lv_aload_n hx hb d_BH_next_37 rfl (lv_at hl 0 rfl) ?_
      refine xg_0_book C w k509 d_BH_next_38 ?_
      refine xg_14_now C w k344 d_BH_next_41 ?_
      obtain ⟨σ_2, h_1, hf⟩ := bp_e hf
      refine k_callV (As := [.ref (q 34), .int (sI σ 1), .ref (q 15)]) (rest := []) C w (c_Turn_load (q := q) h_1) cv_Turn_load k770 (xr_23 C w) (by decide) hl.1 rfl (Nat.le_of_ble_eq_true rfl) d_BH_next_44 (fun H locs w => ?_)
      show WK p l e s m _ below meth c 2 g (wX g q) A (some (.int r)) σ2 H locs (F0 m 47 ls [])
      refine lv_iconst (v := 0) hx hb d_BH_next_47 (by decide) ?_
      refine lv_istore_n (lv' := [(2, .int 0), (0, .ref (q 0)), (1, .int x1)]) hx hb d_BH_next_48 rfl hl (by decide) rfl (fun ls hl => ?_)
      refine lv_iconst (v := 0) hx hb d_BH_next_49 (by decide) ?_
      refine lv_istore_n (lv' := [(3, .int 0), (2, .int 0), (0, .ref (q 0)), (1, .int x1)]) hx hb d_BH_next_50 rfl hl (by decide) rfl (fun ls hl => ?_)
      exact t_BH_next_51 C  FU x1 0 0 σ_2 _ _ _ hf w (lv_sub hl [2, 3, 1, 0] rfl)
    · have hf := if_e cd hf
      refine lv_iconst (v := (-1)) hx hb d_BH_next_23 (by decide) ?_
      obtain ⟨rfl, rfl⟩ := some2_e hf
      exact k_iret C w d_BH_next_24
def f_BH_isTellingOff_25b (k25 : Int32 → Int32 → Int32 → Int32 → St → Option (Int32)) (x1 : Int32) (x2 : Int32) (x3 : Int32) (x4 : Int32) (σ : St) : Option (Int32) :=
  if x1 < x4 then
    some 1
  else
    bp (f_Turn_height 0 x4 1 σ) fun r_2 =>
    if r_2 = x2 then
      some 0
    else
      bp (f_Turn_height 0 x4 0 σ) fun r_4 =>
      if r_4 = x3 then
        some 0
      else
        lt ((x4 + 1)) fun x_5 =>
        k25 x1 x2 x3 x_5 σ
def f_BH_isTellingOff_25 : Nat → Int32 → Int32 → Int32 → Int32 → St → Option (Int32)
  | 0 => fun _ _ _ _ _ => none
  | n + 1 => f_BH_isTellingOff_25b   (f_BH_isTellingOff_25   n)
def f_BH_isTellingOff (x1 : Int32) (σ : St) : Option (Int32) :=
  bp (f_Turn_height 0 x1 0 σ) fun r_2 =>
  bp (f_Turn_height 0 x1 1 σ) fun r_4 =>
  f_BH_isTellingOff_25 FU x1 r_2 r_4 0 σ
set_option maxHeartbeats 4000000 in
set_option maxRecDepth 20000 in
theorem t_BH_isTellingOff_25b {r : Int32} {σ : St} (C : Cx g A p s m av meth c prog_1_method_46_code 5 "BellHammer" (some .boolean)) {k25 : Int32 → Int32 → Int32 → Int32 → St → Option (Int32)} (hk25 : ∀ (x1 : Int32) (x2 : Int32) (x3 : Int32) (x4 : Int32) (H : Heap) (locs : List Loc) (ls : Array Slot), k25 x1 x2 x3 x4 σ = some r → Wd g (wX g q) A s σ H locs → lv_has ls 5 [(0, .ref (q 0)), (1, .int x1), (2, .int x2), (3, .int x3), (4, .int x4)] → WK p l e s m av below meth c 2 g (wX g q) A (some (.int r)) σ H locs (F0 m 25 ls []))  {x1 : Int32} {x2 : Int32} {x3 : Int32} {x4 : Int32} {H : Heap} {locs : List Loc} {ls : Array Slot} (hf : f_BH_isTellingOff_25b  k25 x1 x2 x3 x4 σ = some r) (w : Wd g (wX g q) A s σ H locs) (hl : lv_has ls 5 [(0, .ref (q 0)), (1, .int x1), (2, .int x2), (3, .int x3), (4, .int x4)]) : WK p l e s m av below meth c 2 g (wX g q) A (some (.int r)) σ H locs (F0 m 25 ls []) := by
  obtain ⟨hx, hb, hml, hown, hts, hK, hA, hZ, hlocks, hr, hN⟩ := id C
  unfold f_BH_isTellingOff_25b at hf
  refine lv_iload hx hb d_BH_isTellingOff_25 (lv_at hl 4 rfl) ?_
  refine lv_iload_n hx hb d_BH_isTellingOff_27 rfl (lv_at hl 1 rfl) ?_
  refine lv_icmp_gt (tgt := 69) hx hb d_BH_isTellingOff_28 (by decide) (fun cd => ?_) (fun cd => ?_)
  · have hf := it_e cd hf
    refine lv_iconst (v := 1) hx hb d_BH_isTellingOff_69 (by decide) ?_
    cases some_e hf
    exact k_zret C w (by decide) d_BH_isTellingOff_70
  · have hf := if_e cd hf
    refine lv_aload_n hx hb d_BH_isTellingOff_31 rfl (lv_at hl 0 rfl) ?_
    refine xg_0_turn C w k511 d_BH_isTellingOff_32 ?_
    refine lv_iconst (v := 0) hx hb d_BH_isTellingOff_35 (by decide) ?_
    refine lv_iload hx hb d_BH_isTellingOff_36 (lv_at hl 4 rfl) ?_
    refine lv_iconst (v := 1) hx hb d_BH_isTellingOff_38 (by decide) ?_
    obtain ⟨r_2, h_1, hf⟩ := bp_e hf
    refine k_callV (As := [.int 0, .int x4, .int 1]) (rest := []) C w (c_Turn_height (q := q) h_1) cv_Turn_height k776 (xr_23 C w) (by decide) hl.1 rfl (Nat.le_of_ble_eq_true rfl) d_BH_isTellingOff_39 (fun H locs w => ?_)
    show WK p l e s m av below meth c 2 g (wX g q) A (some (.int r)) σ H locs (F0 m 42 ls [.int r_2])
    refine lv_iload_n hx hb d_BH_isTellingOff_42 rfl (lv_at hl 2 rfl) ?_
    refine lv_icmp_eq (tgt := 61) hx hb d_BH_isTellingOff_43 (by decide) (fun cd => ?_) (fun cd => ?_)
    · have hf := it_e cd hf
      refine lv_iconst (v := 0) hx hb d_BH_isTellingOff_61 (by decide) ?_
      cases some_e hf
      exact k_zret C w (by decide) d_BH_isTellingOff_62
    · have hf := if_e cd hf
      refine lv_aload_n hx hb d_BH_isTellingOff_46 rfl (lv_at hl 0 rfl) ?_
      refine xg_0_turn C w k511 d_BH_isTellingOff_47 ?_
      refine lv_iconst (v := 0) hx hb d_BH_isTellingOff_50 (by decide) ?_
      refine lv_iload hx hb d_BH_isTellingOff_51 (lv_at hl 4 rfl) ?_
      refine lv_iconst (v := 0) hx hb d_BH_isTellingOff_53 (by decide) ?_
      obtain ⟨r_4, h_3, hf⟩ := bp_e hf
      refine k_callV (As := [.int 0, .int x4, .int 0]) (rest := []) C w (c_Turn_height (q := q) h_3) cv_Turn_height k776 (xr_23 C w) (by decide) hl.1 rfl (Nat.le_of_ble_eq_true rfl) d_BH_isTellingOff_54 (fun H locs w => ?_)
      show WK p l e s m av below meth c 2 g (wX g q) A (some (.int r)) σ H locs (F0 m 57 ls [.int r_4])
      refine lv_iload_n hx hb d_BH_isTellingOff_57 rfl (lv_at hl 3 rfl) ?_
      refine lv_icmp_ne (tgt := 63) hx hb d_BH_isTellingOff_58 (by decide) (fun cd => ?_) (fun cd => ?_)
      · have hf := if_e cd hf
        obtain ⟨x_5, ex_5⟩ : ∃ y : Int32, y = (x4 + 1) := ⟨_, rfl⟩
        have hf := lt_e ex_5 hf
        refine lv_iinc (v := x_5) (lv' := [(4, .int x_5), (0, .ref (q 0)), (1, .int x1), (2, .int x2), (3, .int x3)]) hx hb d_BH_isTellingOff_63 hl (k := 4) rfl (by rw [ex_5]; rfl) (by decide) rfl (fun ls hl => ?_)
        refine lv_goto (tgt := 25) hx hb d_BH_isTellingOff_66 (by decide) ?_
        exact hk25 x1 x2 x3 x_5  _ _ _ hf w (lv_sub hl [1, 2, 3, 4, 0] rfl)
      · have hf := it_e cd hf
        refine lv_iconst (v := 0) hx hb d_BH_isTellingOff_61 (by decide) ?_
        cases some_e hf
        exact k_zret C w (by decide) d_BH_isTellingOff_62
set_option maxHeartbeats 4000000 in
set_option maxRecDepth 20000 in
theorem t_BH_isTellingOff_25 {r : Int32} {σ : St} (C : Cx g A p s m av meth c prog_1_method_46_code 5 "BellHammer" (some .boolean))  : ∀ (n : Nat) (x1 : Int32) (x2 : Int32) (x3 : Int32) (x4 : Int32) (H : Heap) (locs : List Loc) (ls : Array Slot), f_BH_isTellingOff_25   n x1 x2 x3 x4 σ = some r → Wd g (wX g q) A s σ H locs → lv_has ls 5 [(0, .ref (q 0)), (1, .int x1), (2, .int x2), (3, .int x3), (4, .int x4)] → WK p l e s m av below meth c 2 g (wX g q) A (some (.int r)) σ H locs (F0 m 25 ls []) := by
  intro n
  induction n with
  | zero => intro x1 x2 x3 x4 H locs ls hf; exact absurd hf (by intro z; cases z)
  | succ n ih => intro x1 x2 x3 x4 H locs ls hf w hl; exact t_BH_isTellingOff_25b C  ih hf w hl
set_option maxHeartbeats 4000000 in
set_option maxRecDepth 20000 in
theorem c_BH_isTellingOff {l : Launch} {g : GX} {q : Nat → Nat} {x1 : Int32}  {σ : St} {r : Int32} (hf : f_BH_isTellingOff  x1 σ = some r) : KK l y_BH_isTellingOff prog_1_method_46_code 5 (some .boolean) 2 g (wX g q) σ [.ref (q 0), .int x1] (some (.int r)) (wX g q) σ := by
  refine KK_of (plainFor_of_name (by decide)) (Nat.le_of_ble_eq_true rfl) (fun p e s m below meth c A ls C w hl => ?_)
  have hl : lv_has ls 5 [(0, .ref (q 0)), (1, .int x1)] := hl
  obtain ⟨hx, hb, hml, hown, hts, hK, hA, hZ, hlocks, hr, hN⟩ := id C
  unfold f_BH_isTellingOff at hf
  refine lv_aload_n hx hb d_BH_isTellingOff_0 rfl (lv_at hl 0 rfl) ?_
  refine xg_0_turn C w k511 d_BH_isTellingOff_1 ?_
  refine lv_iconst (v := 0) hx hb d_BH_isTellingOff_4 (by decide) ?_
  refine lv_iload_n hx hb d_BH_isTellingOff_5 rfl (lv_at hl 1 rfl) ?_
  refine lv_iconst (v := 0) hx hb d_BH_isTellingOff_6 (by decide) ?_
  obtain ⟨r_2, h_1, hf⟩ := bp_e hf
  refine k_callV (As := [.int 0, .int x1, .int 0]) (rest := []) C w (c_Turn_height (q := q) h_1) cv_Turn_height k776 (xr_23 C w) (by decide) hl.1 rfl (Nat.le_of_ble_eq_true rfl) d_BH_isTellingOff_7 (fun H locs w => ?_)
  show WK p l e s m _ below meth c 2 g (wX g q) A (some (.int r)) σ H locs (F0 m 10 ls [.int r_2])
  refine lv_istore_n (lv' := [(2, .int r_2), (0, .ref (q 0)), (1, .int x1)]) hx hb d_BH_isTellingOff_10 rfl hl (by decide) rfl (fun ls hl => ?_)
  refine lv_aload_n hx hb d_BH_isTellingOff_11 rfl (lv_at hl 1 rfl) ?_
  refine xg_0_turn C w k511 d_BH_isTellingOff_12 ?_
  refine lv_iconst (v := 0) hx hb d_BH_isTellingOff_15 (by decide) ?_
  refine lv_iload_n hx hb d_BH_isTellingOff_16 rfl (lv_at hl 2 rfl) ?_
  refine lv_iconst (v := 1) hx hb d_BH_isTellingOff_17 (by decide) ?_
  obtain ⟨r_4, h_3, hf⟩ := bp_e hf
  refine k_callV (As := [.int 0, .int x1, .int 1]) (rest := []) C w (c_Turn_height (q := q) h_3) cv_Turn_height k776 (xr_23 C w) (by decide) hl.1 rfl (Nat.le_of_ble_eq_true rfl) d_BH_isTellingOff_18 (fun H locs w => ?_)
  show WK p l e s m _ below meth c 2 g (wX g q) A (some (.int r)) σ H locs (F0 m 21 ls [.int r_4])
  refine lv_istore_n (lv' := [(3, .int r_4), (2, .int r_2), (0, .ref (q 0)), (1, .int x1)]) hx hb d_BH_isTellingOff_21 rfl hl (by decide) rfl (fun ls hl => ?_)
  refine lv_iconst (v := 0) hx hb d_BH_isTellingOff_22 (by decide) ?_
  refine lv_istore (lv' := [(4, .int 0), (3, .int r_4), (2, .int r_2), (0, .ref (q 0)), (1, .int x1)]) hx hb d_BH_isTellingOff_23 hl (by decide) rfl (fun ls hl => ?_)
  exact t_BH_isTellingOff_25 C  FU x1 r_2 r_4 0  _ _ _ hf w (lv_sub hl [3, 4, 2, 1, 0] rfl)
def f_BH_clear_33b (k33 : Int32 → Int32 → St → Option (Int32 × St)) (x2 : Int32) (x3 : Int32) (σ : St) : Option (Int32 × St) :=
  if 9 < x3 then
    some (x2, σ)
  else
    bp (f_BH_isTellingOff x3 σ) fun r_2 =>
    if r_2 = 0 then
      some (x2, σ)
    else
      lt ((x3 + 1)) fun x_3 =>
      k33 x3 x_3 σ
def f_BH_clear_33 : Nat → Int32 → Int32 → St → Option (Int32 × St)
  | 0 => fun _ _ _ => none
  | n + 1 => f_BH_clear_33b   (f_BH_clear_33   n)
def f_BH_clear (x1 : Int32) (σ : St) : Option (Int32 × St) :=
  bp (f_BH_isTrier x1 σ) fun r_2 =>
  if r_2 = 0 then
    some ((-1), σ)
  else
    bp (f_Turn_load x1 σ) fun σ_4 =>
    f_BH_clear_33 FU (-1) 0 σ_4
set_option maxHeartbeats 4000000 in
set_option maxRecDepth 20000 in
theorem t_BH_clear_33b {r : Int32} {σ2 : St} (C : Cx g A p s m av meth c prog_1_method_29_code 4 "BellHammer" (some .int)) {k33 : Int32 → Int32 → St → Option (Int32 × St)} (hk33 : ∀ (x2 : Int32) (x3 : Int32) (σ : St) (H : Heap) (locs : List Loc) (ls : Array Slot), k33 x2 x3 σ = some (r, σ2) → Wd g (wX g q) A s σ H locs → lv_has ls 4 [(0, .ref (q 0)), (2, .int x2), (3, .int x3)] → WK p l e s m av below meth c 3 g (wX g q) A (some (.int r)) σ2 H locs (F0 m 33 ls []))  {x2 : Int32} {x3 : Int32} {σ : St} {H : Heap} {locs : List Loc} {ls : Array Slot} (hf : f_BH_clear_33b  k33 x2 x3 σ = some (r, σ2)) (w : Wd g (wX g q) A s σ H locs) (hl : lv_has ls 4 [(0, .ref (q 0)), (2, .int x2), (3, .int x3)]) : WK p l e s m av below meth c 3 g (wX g q) A (some (.int r)) σ2 H locs (F0 m 33 ls []) := by
  obtain ⟨hx, hb, hml, hown, hts, hK, hA, hZ, hlocks, hr, hN⟩ := id C
  unfold f_BH_clear_33b at hf
  refine lv_iload_n hx hb d_BH_clear_33 rfl (lv_at hl 2 rfl) ?_
  refine lv_bipush (v := 9) hx hb d_BH_clear_34 (by decide) ?_
  refine lv_icmp_gt (tgt := 55) hx hb d_BH_clear_36 (by decide) (fun cd => ?_) (fun cd => ?_)
  · have hf := it_e cd hf
    refine lv_iload_n hx hb d_BH_clear_55 rfl (lv_at hl 1 rfl) ?_
    obtain ⟨rfl, rfl⟩ := some2_e hf
    exact k_iret C w d_BH_clear_56
  · have hf := if_e cd hf
    refine lv_aload_n hx hb d_BH_clear_39 rfl (lv_at hl 0 rfl) ?_
    refine lv_iload_n hx hb d_BH_clear_40 rfl (lv_at hl 2 rfl) ?_
    obtain ⟨r_2, h_1, hf⟩ := bp_e hf
    refine k_callV (As := [.int x3]) (rest := []) C w (c_BH_isTellingOff (q := q) h_1) cv_BH_isTellingOff k1047 (xr_0 C w) (by decide) hl.1 rfl (Nat.le_of_ble_eq_true rfl) d_BH_clear_41 (fun H locs w => ?_)
    show WK p l e s m av below meth c 3 g (wX g q) A (some (.int r)) σ2 H locs (F0 m 44 ls [.int r_2])
    refine lv_if_eq (tgt := 55) hx hb d_BH_clear_44 (by decide) (fun cd => ?_) (fun cd => ?_)
    · have hf := it_e cd hf
      refine lv_iload_n hx hb d_BH_clear_55 rfl (lv_at hl 1 rfl) ?_
      obtain ⟨rfl, rfl⟩ := some2_e hf
      exact k_iret C w d_BH_clear_56
    · have hf := if_e cd hf
      refine lv_iload_n hx hb d_BH_clear_47 rfl (lv_at hl 2 rfl) ?_
      refine lv_istore_n (lv' := [(2, .int x3), (0, .ref (q 0)), (3, .int x3)]) hx hb d_BH_clear_48 rfl hl (by decide) rfl (fun ls hl => ?_)
      obtain ⟨x_3, ex_3⟩ : ∃ y : Int32, y = (x3 + 1) := ⟨_, rfl⟩
      have hf := lt_e ex_3 hf
      refine lv_iinc (v := x_3) (lv' := [(3, .int x_3), (2, .int x3), (0, .ref (q 0))]) hx hb d_BH_clear_49 hl (k := 2) rfl (by rw [ex_3]; rfl) (by decide) rfl (fun ls hl => ?_)
      refine lv_goto (tgt := 33) hx hb d_BH_clear_52 (by decide) ?_
      exact hk33 x3 x_3 σ _ _ _ hf w (lv_sub hl [2, 1, 0] rfl)
set_option maxHeartbeats 4000000 in
set_option maxRecDepth 20000 in
theorem t_BH_clear_33 {r : Int32} {σ2 : St} (C : Cx g A p s m av meth c prog_1_method_29_code 4 "BellHammer" (some .int))  : ∀ (n : Nat) (x2 : Int32) (x3 : Int32) (σ : St) (H : Heap) (locs : List Loc) (ls : Array Slot), f_BH_clear_33   n x2 x3 σ = some (r, σ2) → Wd g (wX g q) A s σ H locs → lv_has ls 4 [(0, .ref (q 0)), (2, .int x2), (3, .int x3)] → WK p l e s m av below meth c 3 g (wX g q) A (some (.int r)) σ2 H locs (F0 m 33 ls []) := by
  intro n
  induction n with
  | zero => intro x2 x3 σ H locs ls hf; exact absurd hf (by intro z; cases z)
  | succ n ih => intro x2 x3 σ H locs ls hf w hl; exact t_BH_clear_33b C  ih hf w hl
set_option maxHeartbeats 4000000 in
set_option maxRecDepth 20000 in
theorem c_BH_clear {l : Launch} {g : GX} {q : Nat → Nat} {x1 : Int32}  {σ : St} {r : Int32} {σ2 : St} (hf : f_BH_clear  x1 σ = some (r, σ2)) : KK l y_BH_clear prog_1_method_29_code 4 (some .int) 3 g (wX g q) σ [.ref (q 0), .int x1] (some (.int r)) (wX g q) σ2 := by
  refine KK_of (plainFor_of_name (by decide)) (Nat.le_of_ble_eq_true rfl) (fun p e s m below meth c A ls C w hl => ?_)
  have hl : lv_has ls 4 [(0, .ref (q 0)), (1, .int x1)] := hl
  obtain ⟨hx, hb, hml, hown, hts, hK, hA, hZ, hlocks, hr, hN⟩ := id C
  unfold f_BH_clear at hf
  refine lv_aload_n hx hb d_BH_clear_0 rfl (lv_at hl 0 rfl) ?_
  refine lv_iload_n hx hb d_BH_clear_1 rfl (lv_at hl 1 rfl) ?_
  obtain ⟨r_2, h_1, hf⟩ := bp_e hf
  refine k_callV (As := [.int x1]) (rest := []) C w (c_BH_isTrier (q := q) h_1) cv_BH_isTrier k736 (xr_0 C w) (by decide) hl.1 rfl (Nat.le_of_ble_eq_true rfl) d_BH_clear_2 (fun H locs w => ?_)
  show WK p l e s m _ below meth c 3 g (wX g q) A (some (.int r)) σ2 H locs (F0 m 5 ls [.int r_2])
  refine lv_if_ne (tgt := 10) hx hb d_BH_clear_5 (by decide) (fun cd => ?_) (fun cd => ?_)
  · have hf := if_e cd hf
    refine lv_aload_n hx hb d_BH_clear_10 rfl (lv_at hl 0 rfl) ?_
    refine xg_0_turn C w k511 d_BH_clear_11 ?_
    refine lv_aload_n hx hb d_BH_clear_14 rfl (lv_at hl 0 rfl) ?_
    refine xg_0_fair C w k513 d_BH_clear_15 ?_
    refine lv_iload_n hx hb d_BH_clear_18 rfl (lv_at hl 1 rfl) ?_
    refine lv_aload_n hx hb d_BH_clear_19 rfl (lv_at hl 0 rfl) ?_
    refine xg_0_book C w k509 d_BH_clear_20 ?_
    refine xg_14_now C w k344 d_BH_clear_23 ?_
    obtain ⟨σ_4, h_3, hf⟩ := bp_e hf
    refine k_callV (As := [.ref (q 34), .int x1, .ref (q 15)]) (rest := []) C w (c_Turn_load (q := q) h_3) cv_Turn_load k770 (xr_23 C w) (by decide) hl.1 rfl (Nat.le_of_ble_eq_true rfl) d_BH_clear_26 (fun H locs w => ?_)
    show WK p l e s m _ below meth c 3 g (wX g q) A (some (.int r)) σ2 H locs (F0 m 29 ls [])
    refine lv_iconst (v := (-1)) hx hb d_BH_clear_29 (by decide) ?_
    refine lv_istore_n (lv' := [(2, .int (-1)), (0, .ref (q 0)), (1, .int x1)]) hx hb d_BH_clear_30 rfl hl (by decide) rfl (fun ls hl => ?_)
    refine lv_iconst (v := 0) hx hb d_BH_clear_31 (by decide) ?_
    refine lv_istore_n (lv' := [(3, .int 0), (2, .int (-1)), (0, .ref (q 0)), (1, .int x1)]) hx hb d_BH_clear_32 rfl hl (by decide) rfl (fun ls hl => ?_)
    exact t_BH_clear_33 C  FU (-1) 0 σ_4 _ _ _ hf w (lv_sub hl [2, 1, 0] rfl)
  · have hf := it_e cd hf
    refine lv_iconst (v := (-1)) hx hb d_BH_clear_8 (by decide) ?_
    obtain ⟨rfl, rfl⟩ := some2_e hf
    exact k_iret C w d_BH_clear_9
def f_BH_blowsAt_5b (k5 : Int32 → Int32 → Int32 → Int32 → St → Option (Int32)) (x1 : Int32) (x2 : Int32) (x3 : Int32) (x4 : Int32) (σ : St) : Option (Int32) :=
  bp (f_Book_toldBlows σ) fun r_2 =>
  if r_2 ≤ x4 then
    some x3
  else
    bp (f_Book_told x4 1 σ) fun r_4 =>
    if r_4 = x2 then
      bp (f_Book_told x4 4 σ) fun r_7 =>
      bp (f_Fair_markOf r_7 σ) fun r_9 =>
      if r_9 = x1 then
        lt ((x3 + 1)) fun x_11 =>
        lt ((x4 + 1)) fun x_12 =>
        k5 x1 x2 x_11 x_12 σ
      else
        lt ((x4 + 1)) fun x_10 =>
        k5 x1 x2 x3 x_10 σ
    else
      lt ((x4 + 1)) fun x_5 =>
      k5 x1 x2 x3 x_5 σ
def f_BH_blowsAt_5 : Nat → Int32 → Int32 → Int32 → Int32 → St → Option (Int32)
  | 0 => fun _ _ _ _ _ => none
  | n + 1 => f_BH_blowsAt_5b   (f_BH_blowsAt_5   n)
def f_BH_blowsAt (x1 : Int32) (x2 : Int32) (σ : St) : Option (Int32) :=
  f_BH_blowsAt_5 FU x1 x2 0 0 σ
set_option maxHeartbeats 4000000 in
set_option maxRecDepth 20000 in
theorem t_BH_blowsAt_5b {r : Int32} {σ : St} (C : Cx g A p s m av meth c prog_1_method_47_code 5 "BellHammer" (some .int)) {k5 : Int32 → Int32 → Int32 → Int32 → St → Option (Int32)} (hk5 : ∀ (x1 : Int32) (x2 : Int32) (x3 : Int32) (x4 : Int32) (H : Heap) (locs : List Loc) (ls : Array Slot), k5 x1 x2 x3 x4 σ = some r → Wd g (wX g q) A s σ H locs → lv_has ls 5 [(0, .ref (q 0)), (1, .int x1), (2, .int x2), (3, .int x3), (4, .int x4)] → WK p l e s m av below meth c 3 g (wX g q) A (some (.int r)) σ H locs (F0 m 5 ls []))  {x1 : Int32} {x2 : Int32} {x3 : Int32} {x4 : Int32} {H : Heap} {locs : List Loc} {ls : Array Slot} (hf : f_BH_blowsAt_5b  k5 x1 x2 x3 x4 σ = some r) (w : Wd g (wX g q) A s σ H locs) (hl : lv_has ls 5 [(0, .ref (q 0)), (1, .int x1), (2, .int x2), (3, .int x3), (4, .int x4)]) : WK p l e s m av below meth c 3 g (wX g q) A (some (.int r)) σ H locs (F0 m 5 ls []) := by
  obtain ⟨hx, hb, hml, hown, hts, hK, hA, hZ, hlocks, hr, hN⟩ := id C
  unfold f_BH_blowsAt_5b at hf
  refine lv_iload hx hb d_BH_blowsAt_5 (lv_at hl 4 rfl) ?_
  refine lv_aload_n hx hb d_BH_blowsAt_7 rfl (lv_at hl 0 rfl) ?_
  refine xg_0_book C w k509 d_BH_blowsAt_8 ?_
  obtain ⟨r_2, h_1, hf⟩ := bp_e hf
  refine k_callV (As := []) (rest := [.int x4]) C w (c_Book_toldBlows (q := q) h_1) cv_Book_toldBlows k720 (xr_14 C w) (by decide) hl.1 rfl (Nat.le_of_ble_eq_true rfl) d_BH_blowsAt_11 (fun H locs w => ?_)
  show WK p l e s m av below meth c 3 g (wX g q) A (some (.int r)) σ H locs (F0 m 14 ls [.int r_2, .int x4])
  refine lv_icmp_ge (tgt := 61) hx hb d_BH_blowsAt_14 (by decide) (fun cd => ?_) (fun cd => ?_)
  · have hf := it_e cd hf
    refine lv_iload_n hx hb d_BH_blowsAt_61 rfl (lv_at hl 3 rfl) ?_
    cases some_e hf
    exact k_iret C w d_BH_blowsAt_62
  · have hf := if_e cd hf
    refine lv_aload_n hx hb d_BH_blowsAt_17 rfl (lv_at hl 0 rfl) ?_
    refine xg_0_book C w k509 d_BH_blowsAt_18 ?_
    refine lv_iload hx hb d_BH_blowsAt_21 (lv_at hl 4 rfl) ?_
    refine lv_iconst (v := 1) hx hb d_BH_blowsAt_23 (by decide) ?_
    obtain ⟨r_4, h_3, hf⟩ := bp_e hf
    refine k_callV (As := [.int x4, .int 1]) (rest := []) C w (c_Book_told (q := q) h_3) cv_Book_told k1010 (xr_14 C w) (by decide) hl.1 rfl (Nat.le_of_ble_eq_true rfl) d_BH_blowsAt_24 (fun H locs w => ?_)
    show WK p l e s m av below meth c 3 g (wX g q) A (some (.int r)) σ H locs (F0 m 27 ls [.int r_4])
    refine lv_iload_n hx hb d_BH_blowsAt_27 rfl (lv_at hl 2 rfl) ?_
    refine lv_icmp_ne (tgt := 55) hx hb d_BH_blowsAt_28 (by decide) (fun cd => ?_) (fun cd => ?_)
    · have hf := if_e cd hf
      obtain ⟨x_5, ex_5⟩ : ∃ y : Int32, y = (x4 + 1) := ⟨_, rfl⟩
      have hf := lt_e ex_5 hf
      refine lv_iinc (v := x_5) (lv' := [(4, .int x_5), (0, .ref (q 0)), (1, .int x1), (2, .int x2), (3, .int x3)]) hx hb d_BH_blowsAt_55 hl (k := 4) rfl (by rw [ex_5]; rfl) (by decide) rfl (fun ls hl => ?_)
      refine lv_goto (tgt := 5) hx hb d_BH_blowsAt_58 (by decide) ?_
      exact hk5 x1 x2 x3 x_5  _ _ _ hf w (lv_sub hl [1, 2, 3, 4, 0] rfl)
    · have hf := it_e cd hf
      refine lv_aload_n hx hb d_BH_blowsAt_31 rfl (lv_at hl 0 rfl) ?_
      refine xg_0_fair C w k513 d_BH_blowsAt_32 ?_
      refine lv_aload_n hx hb d_BH_blowsAt_35 rfl (lv_at hl 0 rfl) ?_
      refine xg_0_book C w k509 d_BH_blowsAt_36 ?_
      refine lv_iload hx hb d_BH_blowsAt_39 (lv_at hl 4 rfl) ?_
      refine lv_iconst (v := 4) hx hb d_BH_blowsAt_41 (by decide) ?_
      obtain ⟨r_7, h_6, hf⟩ := bp_e hf
      refine k_callV (As := [.int x4, .int 4]) (rest := [.ref (q 34)]) C w (c_Book_told (q := q) h_6) cv_Book_told k1010 (xr_14 C w) (by decide) hl.1 rfl (Nat.le_of_ble_eq_true rfl) d_BH_blowsAt_42 (fun H locs w => ?_)
      show WK p l e s m av below meth c 3 g (wX g q) A (some (.int r)) σ H locs (F0 m 45 ls [.int r_7, .ref (q 34)])
      obtain ⟨r_9, h_8, hf⟩ := bp_e hf
      refine k_callV (As := [.int r_7]) (rest := []) C w (c_Fair_markOf (q := q) h_8) cv_Fair_markOf k756 (xr_34 C w) (by decide) hl.1 rfl (Nat.le_of_ble_eq_true rfl) d_BH_blowsAt_45 (fun H locs w => ?_)
      show WK p l e s m av below meth c 3 g (wX g q) A (some (.int r)) σ H locs (F0 m 48 ls [.int r_9])
      refine lv_iload_n hx hb d_BH_blowsAt_48 rfl (lv_at hl 1 rfl) ?_
      refine lv_icmp_ne (tgt := 55) hx hb d_BH_blowsAt_49 (by decide) (fun cd => ?_) (fun cd => ?_)
      · have hf := if_e cd hf
        obtain ⟨x_10, ex_10⟩ : ∃ y : Int32, y = (x4 + 1) := ⟨_, rfl⟩
        have hf := lt_e ex_10 hf
        refine lv_iinc (v := x_10) (lv' := [(4, .int x_10), (0, .ref (q 0)), (1, .int x1), (2, .int x2), (3, .int x3)]) hx hb d_BH_blowsAt_55 hl (k := 4) rfl (by rw [ex_10]; rfl) (by decide) rfl (fun ls hl => ?_)
        refine lv_goto (tgt := 5) hx hb d_BH_blowsAt_58 (by decide) ?_
        exact hk5 x1 x2 x3 x_10  _ _ _ hf w (lv_sub hl [1, 2, 3, 4, 0] rfl)
      · have hf := it_e cd hf
        obtain ⟨x_11, ex_11⟩ : ∃ y : Int32, y = (x3 + 1) := ⟨_, rfl⟩
        have hf := lt_e ex_11 hf
        refine lv_iinc (v := x_11) (lv' := [(3, .int x_11), (0, .ref (q 0)), (1, .int x1), (2, .int x2), (4, .int x4)]) hx hb d_BH_blowsAt_52 hl (k := 3) rfl (by rw [ex_11]; rfl) (by decide) rfl (fun ls hl => ?_)
        obtain ⟨x_12, ex_12⟩ : ∃ y : Int32, y = (x4 + 1) := ⟨_, rfl⟩
        have hf := lt_e ex_12 hf
        refine lv_iinc (v := x_12) (lv' := [(4, .int x_12), (3, .int x_11), (0, .ref (q 0)), (1, .int x1), (2, .int x2)]) hx hb d_BH_blowsAt_55 hl (k := 4) rfl (by rw [ex_12]; rfl) (by decide) rfl (fun ls hl => ?_)
        refine lv_goto (tgt := 5) hx hb d_BH_blowsAt_58 (by decide) ?_
        exact hk5 x1 x2 x_11 x_12  _ _ _ hf w (lv_sub hl [2, 3, 4, 1, 0] rfl)
set_option maxHeartbeats 4000000 in
set_option maxRecDepth 20000 in
theorem t_BH_blowsAt_5 {r : Int32} {σ : St} (C : Cx g A p s m av meth c prog_1_method_47_code 5 "BellHammer" (some .int))  : ∀ (n : Nat) (x1 : Int32) (x2 : Int32) (x3 : Int32) (x4 : Int32) (H : Heap) (locs : List Loc) (ls : Array Slot), f_BH_blowsAt_5   n x1 x2 x3 x4 σ = some r → Wd g (wX g q) A s σ H locs → lv_has ls 5 [(0, .ref (q 0)), (1, .int x1), (2, .int x2), (3, .int x3), (4, .int x4)] → WK p l e s m av below meth c 3 g (wX g q) A (some (.int r)) σ H locs (F0 m 5 ls []) := by
  intro n
  induction n with
  | zero => intro x1 x2 x3 x4 H locs ls hf; exact absurd hf (by intro z; cases z)
  | succ n ih => intro x1 x2 x3 x4 H locs ls hf w hl; exact t_BH_blowsAt_5b C  ih hf w hl
set_option maxHeartbeats 4000000 in
set_option maxRecDepth 20000 in
theorem c_BH_blowsAt {l : Launch} {g : GX} {q : Nat → Nat} {x1 : Int32} {x2 : Int32}  {σ : St} {r : Int32} (hf : f_BH_blowsAt  x1 x2 σ = some r) : KK l y_BH_blowsAt prog_1_method_47_code 5 (some .int) 3 g (wX g q) σ [.ref (q 0), .int x1, .int x2] (some (.int r)) (wX g q) σ := by
  refine KK_of (plainFor_of_name (by decide)) (Nat.le_of_ble_eq_true rfl) (fun p e s m below meth c A ls C w hl => ?_)
  have hl : lv_has ls 5 [(0, .ref (q 0)), (1, .int x1), (2, .int x2)] := hl
  obtain ⟨hx, hb, hml, hown, hts, hK, hA, hZ, hlocks, hr, hN⟩ := id C
  unfold f_BH_blowsAt at hf
  refine lv_iconst (v := 0) hx hb d_BH_blowsAt_0 (by decide) ?_
  refine lv_istore_n (lv' := [(3, .int 0), (0, .ref (q 0)), (1, .int x1), (2, .int x2)]) hx hb d_BH_blowsAt_1 rfl hl (by decide) rfl (fun ls hl => ?_)
  refine lv_iconst (v := 0) hx hb d_BH_blowsAt_2 (by decide) ?_
  refine lv_istore (lv' := [(4, .int 0), (3, .int 0), (0, .ref (q 0)), (1, .int x1), (2, .int x2)]) hx hb d_BH_blowsAt_3 hl (by decide) rfl (fun ls hl => ?_)
  exact t_BH_blowsAt_5 C  FU x1 x2 0 0  _ _ _ hf w (lv_sub hl [2, 3, 4, 1, 0] rfl)
def f_BH_reach_66b (k66 : Int32 → Int32 → Int32 → Int32 → St → Option (Int32)) (x1 : Int32) (x3 : Int32) (x4 : Int32) (x5 : Int32) (σ : St) : Option (Int32) :=
  if (sI σ 54) ≤ x5 then
    some x4
  else
    bp (f_BH_blowsAt x1 x5 σ) fun r_2 =>
    if r_2 ≤ x3 then
      lt ((x5 + 1)) fun x_3 =>
      k66 x1 x3 x4 x_3 σ
    else
      lt ((x5 + 1)) fun x_4 =>
      k66 x1 r_2 x5 x_4 σ
def f_BH_reach_66 : Nat → Int32 → Int32 → Int32 → Int32 → St → Option (Int32)
  | 0 => fun _ _ _ _ _ => none
  | n + 1 => f_BH_reach_66b   (f_BH_reach_66   n)
def f_BH_reach_28b (k28 : Int32 → Int32 → Int32 → St → Option (Int32)) (x1 : Int32) (x3 : Int32) (x4 : Int32) (σ : St) : Option (Int32) :=
  if (sI σ 54) ≤ x4 then
    some x3
  else
    bp (f_BH_blowsAt x1 x4 σ) fun r_2 =>
    lt ((x3 + r_2)) fun x_3 =>
    lt ((x4 + 1)) fun x_4 =>
    k28 x1 x_3 x_4 σ
def f_BH_reach_28 : Nat → Int32 → Int32 → Int32 → St → Option (Int32)
  | 0 => fun _ _ _ _ => none
  | n + 1 => f_BH_reach_28b   (f_BH_reach_28   n)
def f_BH_reach_19 (x1 : Int32) (x2 : Int32) (σ : St) : Option (Int32) :=
  if x2 = 0 then
    f_BH_reach_28 FU x1 0 0 σ
  else
    f_BH_reach_66 FU x1 0 (-1) 0 σ
def f_BH_reach (x1 : Int32) (x2 : Int32) (σ : St) : Option (Int32) :=
  bp (f_BH_isMark x1 σ) fun r_2 =>
  if r_2 = 0 then
    some (-1)
  else
    if x2 = 0 then
      f_BH_reach_19 x1 x2 σ
    else
      if x2 = 1 then
        f_BH_reach_19 x1 x2 σ
      else
        some (-1)
set_option maxHeartbeats 4000000 in
set_option maxRecDepth 20000 in
theorem t_BH_reach_66b {r : Int32} {σ : St} (C : Cx g A p s m av meth c prog_1_method_30_code 7 "BellHammer" (some .int)) {k66 : Int32 → Int32 → Int32 → Int32 → St → Option (Int32)} (hk66 : ∀ (x1 : Int32) (x3 : Int32) (x4 : Int32) (x5 : Int32) (H : Heap) (locs : List Loc) (ls : Array Slot), k66 x1 x3 x4 x5 σ = some r → Wd g (wX g q) A s σ H locs → lv_has ls 7 [(0, .ref (q 0)), (1, .int x1), (3, .int x3), (4, .int x4), (5, .int x5)] → WK p l e s m av below meth c 4 g (wX g q) A (some (.int r)) σ H locs (F0 m 66 ls []))  {x1 : Int32} {x3 : Int32} {x4 : Int32} {x5 : Int32} {H : Heap} {locs : List Loc} {ls : Array Slot} (hf : f_BH_reach_66b  k66 x1 x3 x4 x5 σ = some r) (w : Wd g (wX g q) A s σ H locs) (hl : lv_has ls 7 [(0, .ref (q 0)), (1, .int x1), (3, .int x3), (4, .int x4), (5, .int x5)]) : WK p l e s m av below meth c 4 g (wX g q) A (some (.int r)) σ H locs (F0 m 66 ls []) := by
  obtain ⟨hx, hb, hml, hown, hts, hK, hA, hZ, hlocks, hr, hN⟩ := id C
  unfold f_BH_reach_66b at hf
  refine lv_iload hx hb d_BH_reach_66 (lv_at hl 4 rfl) ?_
  refine lv_aload_n hx hb d_BH_reach_68 rfl (lv_at hl 0 rfl) ?_
  refine xg_0_fair C w k513 d_BH_reach_69 ?_
  refine xg_34_triers C w k276 d_BH_reach_72 ?_
  refine lv_icmp_ge (tgt := 106) hx hb d_BH_reach_75 (by decide) (fun cd => ?_) (fun cd => ?_)
  · have hf := it_e cd hf
    refine lv_iload hx hb d_BH_reach_106 (lv_at hl 3 rfl) ?_
    cases some_e hf
    exact k_iret C w d_BH_reach_108
  · have hf := if_e cd hf
    refine lv_aload_n hx hb d_BH_reach_78 rfl (lv_at hl 0 rfl) ?_
    refine lv_iload_n hx hb d_BH_reach_79 rfl (lv_at hl 1 rfl) ?_
    refine lv_iload hx hb d_BH_reach_80 (lv_at hl 4 rfl) ?_
    obtain ⟨r_2, h_1, hf⟩ := bp_e hf
    refine k_callV (As := [.int x1, .int x5]) (rest := []) C w (c_BH_blowsAt (q := q) h_1) cv_BH_blowsAt k1055 (xr_0 C w) (by decide) hl.1 rfl (Nat.le_of_ble_eq_true rfl) d_BH_reach_82 (fun H locs w => ?_)
    show WK p l e s m av below meth c 4 g (wX g q) A (some (.int r)) σ H locs (F0 m 85 ls [.int r_2])
    refine lv_istore (lv' := [(6, .int r_2), (0, .ref (q 0)), (1, .int x1), (3, .int x3), (4, .int x4), (5, .int x5)]) hx hb d_BH_reach_85 hl (by decide) rfl (fun ls hl => ?_)
    refine lv_iload hx hb d_BH_reach_87 (lv_at hl 0 rfl) ?_
    refine lv_iload_n hx hb d_BH_reach_89 rfl (lv_at hl 3 rfl) ?_
    refine lv_icmp_le (tgt := 100) hx hb d_BH_reach_90 (by decide) (fun cd => ?_) (fun cd => ?_)
    · have hf := it_e cd hf
      obtain ⟨x_3, ex_3⟩ : ∃ y : Int32, y = (x5 + 1) := ⟨_, rfl⟩
      have hf := lt_e ex_3 hf
      refine lv_iinc (v := x_3) (lv' := [(5, .int x_3), (6, .int r_2), (0, .ref (q 0)), (1, .int x1), (3, .int x3), (4, .int x4)]) hx hb d_BH_reach_100 hl (k := 5) rfl (by rw [ex_3]; rfl) (by decide) rfl (fun ls hl => ?_)
      refine lv_goto (tgt := 66) hx hb d_BH_reach_103 (by decide) ?_
      exact hk66 x1 x3 x4 x_3  _ _ _ hf w (lv_sub hl [2, 3, 4, 5, 0] rfl)
    · have hf := if_e cd hf
      refine lv_iload hx hb d_BH_reach_93 (lv_at hl 0 rfl) ?_
      refine lv_istore_n (lv' := [(3, .int r_2), (6, .int r_2), (0, .ref (q 0)), (1, .int x1), (4, .int x4), (5, .int x5)]) hx hb d_BH_reach_95 rfl hl (by decide) rfl (fun ls hl => ?_)
      refine lv_iload hx hb d_BH_reach_96 (lv_at hl 5 rfl) ?_
      refine lv_istore (lv' := [(4, .int x5), (3, .int r_2), (6, .int r_2), (0, .ref (q 0)), (1, .int x1), (5, .int x5)]) hx hb d_BH_reach_98 hl (by decide) rfl (fun ls hl => ?_)
      obtain ⟨x_4, ex_4⟩ : ∃ y : Int32, y = (x5 + 1) := ⟨_, rfl⟩
      have hf := lt_e ex_4 hf
      refine lv_iinc (v := x_4) (lv' := [(5, .int x_4), (4, .int x5), (3, .int r_2), (6, .int r_2), (0, .ref (q 0)), (1, .int x1)]) hx hb d_BH_reach_100 hl (k := 5) rfl (by rw [ex_4]; rfl) (by decide) rfl (fun ls hl => ?_)
      refine lv_goto (tgt := 66) hx hb d_BH_reach_103 (by decide) ?_
      exact hk66 x1 r_2 x5 x_4  _ _ _ hf w (lv_sub hl [4, 5, 2, 1, 0] rfl)
set_option maxHeartbeats 4000000 in
set_option maxRecDepth 20000 in
theorem t_BH_reach_66 {r : Int32} {σ : St} (C : Cx g A p s m av meth c prog_1_method_30_code 7 "BellHammer" (some .int))  : ∀ (n : Nat) (x1 : Int32) (x3 : Int32) (x4 : Int32) (x5 : Int32) (H : Heap) (locs : List Loc) (ls : Array Slot), f_BH_reach_66   n x1 x3 x4 x5 σ = some r → Wd g (wX g q) A s σ H locs → lv_has ls 7 [(0, .ref (q 0)), (1, .int x1), (3, .int x3), (4, .int x4), (5, .int x5)] → WK p l e s m av below meth c 4 g (wX g q) A (some (.int r)) σ H locs (F0 m 66 ls []) := by
  intro n
  induction n with
  | zero => intro x1 x3 x4 x5 H locs ls hf; exact absurd hf (by intro z; cases z)
  | succ n ih => intro x1 x3 x4 x5 H locs ls hf w hl; exact t_BH_reach_66b C  ih hf w hl
set_option maxHeartbeats 4000000 in
set_option maxRecDepth 20000 in
theorem t_BH_reach_28b {r : Int32} {σ : St} (C : Cx g A p s m av meth c prog_1_method_30_code 7 "BellHammer" (some .int)) {k28 : Int32 → Int32 → Int32 → St → Option (Int32)} (hk28 : ∀ (x1 : Int32) (x3 : Int32) (x4 : Int32) (H : Heap) (locs : List Loc) (ls : Array Slot), k28 x1 x3 x4 σ = some r → Wd g (wX g q) A s σ H locs → lv_has ls 7 [(0, .ref (q 0)), (1, .int x1), (3, .int x3), (4, .int x4)] → WK p l e s m av below meth c 4 g (wX g q) A (some (.int r)) σ H locs (F0 m 28 ls []))  {x1 : Int32} {x3 : Int32} {x4 : Int32} {H : Heap} {locs : List Loc} {ls : Array Slot} (hf : f_BH_reach_28b  k28 x1 x3 x4 σ = some r) (w : Wd g (wX g q) A s σ H locs) (hl : lv_has ls 7 [(0, .ref (q 0)), (1, .int x1), (3, .int x3), (4, .int x4)]) : WK p l e s m av below meth c 4 g (wX g q) A (some (.int r)) σ H locs (F0 m 28 ls []) := by
  obtain ⟨hx, hb, hml, hown, hts, hK, hA, hZ, hlocks, hr, hN⟩ := id C
  unfold f_BH_reach_28b at hf
  refine lv_iload hx hb d_BH_reach_28 (lv_at hl 3 rfl) ?_
  refine lv_aload_n hx hb d_BH_reach_30 rfl (lv_at hl 0 rfl) ?_
  refine xg_0_fair C w k513 d_BH_reach_31 ?_
  refine xg_34_triers C w k276 d_BH_reach_34 ?_
  refine lv_icmp_ge (tgt := 56) hx hb d_BH_reach_37 (by decide) (fun cd => ?_) (fun cd => ?_)
  · have hf := it_e cd hf
    refine lv_iload_n hx hb d_BH_reach_56 rfl (lv_at hl 2 rfl) ?_
    cases some_e hf
    exact k_iret C w d_BH_reach_57
  · have hf := if_e cd hf
    refine lv_iload_n hx hb d_BH_reach_40 rfl (lv_at hl 2 rfl) ?_
    refine lv_aload_n hx hb d_BH_reach_41 rfl (lv_at hl 0 rfl) ?_
    refine lv_iload_n hx hb d_BH_reach_42 rfl (lv_at hl 1 rfl) ?_
    refine lv_iload hx hb d_BH_reach_43 (lv_at hl 3 rfl) ?_
    obtain ⟨r_2, h_1, hf⟩ := bp_e hf
    refine k_callV (As := [.int x1, .int x4]) (rest := [.int x3]) C w (c_BH_blowsAt (q := q) h_1) cv_BH_blowsAt k1055 (xr_0 C w) (by decide) hl.1 rfl (Nat.le_of_ble_eq_true rfl) d_BH_reach_45 (fun H locs w => ?_)
    show WK p l e s m av below meth c 4 g (wX g q) A (some (.int r)) σ H locs (F0 m 48 ls [.int r_2, .int x3])
    refine lv_iadd hx hb d_BH_reach_48 ?_
    refine lv_topi (fun x_3 ex_3 => ?_)
    have hf := lt_e ex_3 hf
    refine lv_istore_n (lv' := [(3, .int x_3), (0, .ref (q 0)), (1, .int x1), (4, .int x4)]) hx hb d_BH_reach_49 rfl hl (by decide) rfl (fun ls hl => ?_)
    obtain ⟨x_4, ex_4⟩ : ∃ y : Int32, y = (x4 + 1) := ⟨_, rfl⟩
    have hf := lt_e ex_4 hf
    refine lv_iinc (v := x_4) (lv' := [(4, .int x_4), (3, .int x_3), (0, .ref (q 0)), (1, .int x1)]) hx hb d_BH_reach_50 hl (k := 3) rfl (by rw [ex_4]; rfl) (by decide) rfl (fun ls hl => ?_)
    refine lv_goto (tgt := 28) hx hb d_BH_reach_53 (by decide) ?_
    exact hk28 x1 x_3 x_4  _ _ _ hf w (lv_sub hl [2, 3, 1, 0] rfl)
set_option maxHeartbeats 4000000 in
set_option maxRecDepth 20000 in
theorem t_BH_reach_28 {r : Int32} {σ : St} (C : Cx g A p s m av meth c prog_1_method_30_code 7 "BellHammer" (some .int))  : ∀ (n : Nat) (x1 : Int32) (x3 : Int32) (x4 : Int32) (H : Heap) (locs : List Loc) (ls : Array Slot), f_BH_reach_28   n x1 x3 x4 σ = some r → Wd g (wX g q) A s σ H locs → lv_has ls 7 [(0, .ref (q 0)), (1, .int x1), (3, .int x3), (4, .int x4)] → WK p l e s m av below meth c 4 g (wX g q) A (some (.int r)) σ H locs (F0 m 28 ls []) := by
  intro n
  induction n with
  | zero => intro x1 x3 x4 H locs ls hf; exact absurd hf (by intro z; cases z)
  | succ n ih => intro x1 x3 x4 H locs ls hf w hl; exact t_BH_reach_28b C  ih hf w hl
set_option maxHeartbeats 4000000 in
set_option maxRecDepth 20000 in
theorem t_BH_reach_19 {r : Int32} {σ : St} (C : Cx g A p s m av meth c prog_1_method_30_code 7 "BellHammer" (some .int))  {x1 : Int32} {x2 : Int32} {H : Heap} {locs : List Loc} {ls : Array Slot} (hf : f_BH_reach_19   x1 x2 σ = some r) (w : Wd g (wX g q) A s σ H locs) (hl : lv_has ls 7 [(0, .ref (q 0)), (1, .int x1), (2, .int x2)]) : WK p l e s m av below meth c 4 g (wX g q) A (some (.int r)) σ H locs (F0 m 19 ls []) := by
  obtain ⟨hx, hb, hml, hown, hts, hK, hA, hZ, hlocks, hr, hN⟩ := id C
  unfold f_BH_reach_19 at hf
  refine lv_iload_n hx hb d_BH_reach_19 rfl (lv_at hl 2 rfl) ?_
  refine lv_if_ne (tgt := 58) hx hb d_BH_reach_20 (by decide) (fun cd => ?_) (fun cd => ?_)
  · have hf := if_e cd hf
    refine lv_iconst (v := 0) hx hb d_BH_reach_58 (by decide) ?_
    refine lv_istore_n (lv' := [(3, .int 0), (0, .ref (q 0)), (1, .int x1), (2, .int x2)]) hx hb d_BH_reach_59 rfl hl (by decide) rfl (fun ls hl => ?_)
    refine lv_iconst (v := (-1)) hx hb d_BH_reach_60 (by decide) ?_
    refine lv_istore (lv' := [(4, .int (-1)), (3, .int 0), (0, .ref (q 0)), (1, .int x1), (2, .int x2)]) hx hb d_BH_reach_61 hl (by decide) rfl (fun ls hl => ?_)
    refine lv_iconst (v := 0) hx hb d_BH_reach_63 (by decide) ?_
    refine lv_istore (lv' := [(5, .int 0), (4, .int (-1)), (3, .int 0), (0, .ref (q 0)), (1, .int x1), (2, .int x2)]) hx hb d_BH_reach_64 hl (by decide) rfl (fun ls hl => ?_)
    exact t_BH_reach_66 C  FU x1 0 (-1) 0  _ _ _ hf w (lv_sub hl [3, 4, 2, 1, 0] rfl)
  · have hf := it_e cd hf
    refine lv_iconst (v := 0) hx hb d_BH_reach_23 (by decide) ?_
    refine lv_istore_n (lv' := [(3, .int 0), (0, .ref (q 0)), (1, .int x1), (2, .int x2)]) hx hb d_BH_reach_24 rfl hl (by decide) rfl (fun ls hl => ?_)
    refine lv_iconst (v := 0) hx hb d_BH_reach_25 (by decide) ?_
    refine lv_istore (lv' := [(4, .int 0), (3, .int 0), (0, .ref (q 0)), (1, .int x1), (2, .int x2)]) hx hb d_BH_reach_26 hl (by decide) rfl (fun ls hl => ?_)
    exact t_BH_reach_28 C  FU x1 0 0  _ _ _ hf w (lv_sub hl [2, 3, 1, 0] rfl)
set_option maxHeartbeats 4000000 in
set_option maxRecDepth 20000 in
theorem c_BH_reach {l : Launch} {g : GX} {q : Nat → Nat} {x1 : Int32} {x2 : Int32}  {σ : St} {r : Int32} (hf : f_BH_reach  x1 x2 σ = some r) : KK l y_BH_reach prog_1_method_30_code 7 (some .int) 4 g (wX g q) σ [.ref (q 0), .int x1, .int x2] (some (.int r)) (wX g q) σ := by
  refine KK_of (plainFor_of_name (by decide)) (Nat.le_of_ble_eq_true rfl) (fun p e s m below meth c A ls C w hl => ?_)
  have hl : lv_has ls 7 [(0, .ref (q 0)), (1, .int x1), (2, .int x2)] := hl
  obtain ⟨hx, hb, hml, hown, hts, hK, hA, hZ, hlocks, hr, hN⟩ := id C
  unfold f_BH_reach at hf
  refine lv_aload_n hx hb d_BH_reach_0 rfl (lv_at hl 0 rfl) ?_
  refine lv_iload_n hx hb d_BH_reach_1 rfl (lv_at hl 1 rfl) ?_
  obtain ⟨r_2, h_1, hf⟩ := bp_e hf
  refine k_callV (As := [.int x1]) (rest := []) C w (c_BH_isMark (q := q) h_1) cv_BH_isMark k729 (xr_0 C w) (by decide) hl.1 rfl (Nat.le_of_ble_eq_true rfl) d_BH_reach_2 (fun H locs w => ?_)
  show WK p l e s m _ below meth c 4 g (wX g q) A (some (.int r)) σ H locs (F0 m 5 ls [.int r_2])
  refine lv_if_eq (tgt := 17) hx hb d_BH_reach_5 (by decide) (fun cd => ?_) (fun cd => ?_)
  · have hf := it_e cd hf
    refine lv_iconst (v := (-1)) hx hb d_BH_reach_17 (by decide) ?_
    cases some_e hf
    exact k_iret C w d_BH_reach_18
  · have hf := if_e cd hf
    refine lv_iload_n hx hb d_BH_reach_8 rfl (lv_at hl 2 rfl) ?_
    refine lv_if_eq (tgt := 19) hx hb d_BH_reach_9 (by decide) (fun cd => ?_) (fun cd => ?_)
    · have hf := it_e cd hf
      exact t_BH_reach_19 C  hf w (lv_sub hl [0, 1, 2] rfl)
    · have hf := if_e cd hf
      refine lv_iload_n hx hb d_BH_reach_12 rfl (lv_at hl 2 rfl) ?_
      refine lv_iconst (v := 1) hx hb d_BH_reach_13 (by decide) ?_
      refine lv_icmp_eq (tgt := 19) hx hb d_BH_reach_14 (by decide) (fun cd => ?_) (fun cd => ?_)
      · have hf := it_e cd hf
        exact t_BH_reach_19 C  hf w (lv_sub hl [0, 1, 2] rfl)
      · have hf := if_e cd hf
        refine lv_iconst (v := (-1)) hx hb d_BH_reach_17 (by decide) ?_
        cases some_e hf
        exact k_iret C w d_BH_reach_18
def f_Book_checkOf_6b (k6 : Int32 → Int32 → St → Option (Int32)) (x1 : Int32) (x2 : Int32) (σ : St) : Option (Int32) :=
  if 9 ≤ x2 then
    some x1
  else
    if 10 ≤ x2 then
      some x1
    else
      gd (inB x2 10) <|
      lt ((iR ((3 * x1) + (sA σ 29 x2.toNatClampNeg)) 253)) fun x_2 =>
      lt ((x2 + 1)) fun x_3 =>
      k6 x_2 x_3 σ
def f_Book_checkOf_6 : Nat → Int32 → Int32 → St → Option (Int32)
  | 0 => fun _ _ _ => none
  | n + 1 => f_Book_checkOf_6b   (f_Book_checkOf_6   n)
def f_Book_checkOf (σ : St) : Option (Int32) :=
  f_Book_checkOf_6 FU 139 0 σ
set_option maxHeartbeats 4000000 in
set_option maxRecDepth 20000 in
theorem t_Book_checkOf_6b {r : Int32} {σ : St} (C : Cx g A p s m av meth c prog_2_method_15_code 3 "BellHammer$Book" (some .int)) {k6 : Int32 → Int32 → St → Option (Int32)} (hk6 : ∀ (x1 : Int32) (x2 : Int32) (H : Heap) (locs : List Loc) (ls : Array Slot), k6 x1 x2 σ = some r → Wd g (wX g q) A s σ H locs → lv_has ls 3 [(0, .ref (q 43)), (1, .int x1), (2, .int x2)] → WK p l e s m av below meth c 0 g (wX g q) A (some (.int r)) σ H locs (F0 m 6 ls []))  {x1 : Int32} {x2 : Int32} {H : Heap} {locs : List Loc} {ls : Array Slot} (hf : f_Book_checkOf_6b  k6 x1 x2 σ = some r) (w : Wd g (wX g q) A s σ H locs) (hl : lv_has ls 3 [(0, .ref (q 43)), (1, .int x1), (2, .int x2)]) : WK p l e s m av below meth c 0 g (wX g q) A (some (.int r)) σ H locs (F0 m 6 ls []) := by
  obtain ⟨hx, hb, hml, hown, hts, hK, hA, hZ, hlocks, hr, hN⟩ := id C
  unfold f_Book_checkOf_6b at hf
  refine lv_iload_n hx hb d_Book_checkOf_6 rfl (lv_at hl 2 rfl) ?_
  refine lv_bipush (v := 9) hx hb d_Book_checkOf_7 (by decide) ?_
  refine lv_icmp_ge (tgt := 36) hx hb d_Book_checkOf_9 (by decide) (fun cd => ?_) (fun cd => ?_)
  · have hf := it_e cd hf
    refine lv_iload_n hx hb d_Book_checkOf_36 rfl (lv_at hl 1 rfl) ?_
    cases some_e hf
    exact k_iret C w d_Book_checkOf_37
  · have hf := if_e cd hf
    refine lv_iload_n hx hb d_Book_checkOf_12 rfl (lv_at hl 2 rfl) ?_
    refine lv_aload_n hx hb d_Book_checkOf_13 rfl (lv_at hl 0 rfl) ?_
    refine xn_43 C w d_Book_checkOf_14 ?_
    refine lv_icmp_ge (tgt := 36) hx hb d_Book_checkOf_15 (by decide) (fun cd => ?_) (fun cd => ?_)
    · have hf := it_e cd hf
      refine lv_iload_n hx hb d_Book_checkOf_36 rfl (lv_at hl 1 rfl) ?_
      cases some_e hf
      exact k_iret C w d_Book_checkOf_37
    · have hf := if_e cd hf
      refine lv_iconst (v := 3) hx hb d_Book_checkOf_18 (by decide) ?_
      refine lv_iload_n hx hb d_Book_checkOf_19 rfl (lv_at hl 1 rfl) ?_
      refine lv_imul hx hb d_Book_checkOf_20 ?_
      refine lv_aload_n hx hb d_Book_checkOf_21 rfl (lv_at hl 0 rfl) ?_
      refine lv_iload_n hx hb d_Book_checkOf_22 rfl (lv_at hl 2 rfl) ?_
      obtain ⟨g_1, hf⟩ := gd_e hf
      refine xl_43 C w g_1 d_Book_checkOf_23 ?_
      refine lv_iadd hx hb d_Book_checkOf_24 ?_
      refine lv_sipush (v := 253) hx hb d_Book_checkOf_25 (by decide) ?_
      refine r_irem hx hb d_Book_checkOf_28 (by decide) ?_
      refine lv_topi (fun x_2 ex_2 => ?_)
      have hf := lt_e ex_2 hf
      refine lv_istore_n (lv' := [(1, .int x_2), (0, .ref (q 43)), (2, .int x2)]) hx hb d_Book_checkOf_29 rfl hl (by decide) rfl (fun ls hl => ?_)
      obtain ⟨x_3, ex_3⟩ : ∃ y : Int32, y = (x2 + 1) := ⟨_, rfl⟩
      have hf := lt_e ex_3 hf
      refine lv_iinc (v := x_3) (lv' := [(2, .int x_3), (1, .int x_2), (0, .ref (q 43))]) hx hb d_Book_checkOf_30 hl (k := 2) rfl (by rw [ex_3]; rfl) (by decide) rfl (fun ls hl => ?_)
      refine lv_goto (tgt := 6) hx hb d_Book_checkOf_33 (by decide) ?_
      exact hk6 x_2 x_3  _ _ _ hf w (lv_sub hl [2, 1, 0] rfl)
set_option maxHeartbeats 4000000 in
set_option maxRecDepth 20000 in
theorem t_Book_checkOf_6 {r : Int32} {σ : St} (C : Cx g A p s m av meth c prog_2_method_15_code 3 "BellHammer$Book" (some .int))  : ∀ (n : Nat) (x1 : Int32) (x2 : Int32) (H : Heap) (locs : List Loc) (ls : Array Slot), f_Book_checkOf_6   n x1 x2 σ = some r → Wd g (wX g q) A s σ H locs → lv_has ls 3 [(0, .ref (q 43)), (1, .int x1), (2, .int x2)] → WK p l e s m av below meth c 0 g (wX g q) A (some (.int r)) σ H locs (F0 m 6 ls []) := by
  intro n
  induction n with
  | zero => intro x1 x2 H locs ls hf; exact absurd hf (by intro z; cases z)
  | succ n ih => intro x1 x2 H locs ls hf w hl; exact t_Book_checkOf_6b C  ih hf w hl
set_option maxHeartbeats 4000000 in
set_option maxRecDepth 20000 in
theorem c_Book_checkOf {l : Launch} {g : GX} {q : Nat → Nat}  {σ : St} {r : Int32} (hf : f_Book_checkOf   σ = some r) : KK l y_Book_checkOf prog_2_method_15_code 3 (some .int) 0 g (wX g q) σ [.ref (q 43)] (some (.int r)) (wX g q) σ := by
  refine KK_of (plainFor_of_name (by decide)) (Nat.le_of_ble_eq_true rfl) (fun p e s m below meth c A ls C w hl => ?_)
  have hl : lv_has ls 3 [(0, .ref (q 43))] := hl
  obtain ⟨hx, hb, hml, hown, hts, hK, hA, hZ, hlocks, hr, hN⟩ := id C
  unfold f_Book_checkOf at hf
  refine lv_sipush (v := 139) hx hb d_Book_checkOf_0 (by decide) ?_
  refine lv_istore_n (lv' := [(1, .int 139), (0, .ref (q 43))]) hx hb d_Book_checkOf_3 rfl hl (by decide) rfl (fun ls hl => ?_)
  refine lv_iconst (v := 0) hx hb d_Book_checkOf_4 (by decide) ?_
  refine lv_istore_n (lv' := [(2, .int 0), (1, .int 139), (0, .ref (q 43))]) hx hb d_Book_checkOf_5 rfl hl (by decide) rfl (fun ls hl => ?_)
  exact t_Book_checkOf_6 C  FU 139 0  _ _ _ hf w (lv_sub hl [2, 1, 0] rfl)
def f_Book_write (σ : St) : Option (St) :=
  if 10 ≤ (10 : Int32) then
    lt (uA σ 29 (upd (sA σ 29) (0 : Int32).toNatClampNeg ((sI σ 17) >>> (8 &&& 31)))) fun σ_1 =>
    lt (uA σ_1 29 (upd (sA σ_1 29) (1 : Int32).toNatClampNeg ((sI σ_1 17) &&& 255))) fun σ_2 =>
    lt (uA σ_2 29 (upd (sA σ_2 29) (2 : Int32).toNatClampNeg ((sI σ_2 18) >>> (16 &&& 31)))) fun σ_3 =>
    lt (uA σ_3 29 (upd (sA σ_3 29) (3 : Int32).toNatClampNeg (((sI σ_3 18) >>> (8 &&& 31)) &&& 255))) fun σ_4 =>
    lt (uA σ_4 29 (upd (sA σ_4 29) (4 : Int32).toNatClampNeg ((sI σ_4 18) &&& 255))) fun σ_5 =>
    lt (uA σ_5 29 (upd (sA σ_5 29) (5 : Int32).toNatClampNeg (sI σ_5 19))) fun σ_6 =>
    lt (uA σ_6 29 (va_cpy (sA σ_6 9) (sA σ_6 29) (0 : Int32).toNatClampNeg (6 : Int32).toNatClampNeg (3 : Int32).toNatClampNeg)) fun σ_7 =>
    bp (f_Book_checkOf σ_7) fun r_9 =>
    lt (uA σ_7 29 (upd (sA σ_7 29) (9 : Int32).toNatClampNeg r_9)) fun σ_10 =>
    some σ_10
  else
    some σ
set_option maxHeartbeats 4000000 in
set_option maxRecDepth 20000 in
theorem c_Book_write {l : Launch} {g : GX} {q : Nat → Nat}  {σ : St} {σ2 : St} (hf : f_Book_write   σ = some σ2) : KK l y_Book_write prog_2_method_13_code 2 none 1 g (wX g q) σ [.ref (q 14), .ref (q 43)] none (wX g q) σ2 := by
  refine KK_of (plainFor_of_name (by decide)) (Nat.le_of_ble_eq_true rfl) (fun p e s m below meth c A ls C w hl => ?_)
  have hl : lv_has ls 2 [(0, .ref (q 14)), (1, .ref (q 43))] := hl
  obtain ⟨hx, hb, hml, hown, hts, hK, hA, hZ, hlocks, hr, hN⟩ := id C
  unfold f_Book_write at hf
  refine lv_aload_n hx hb d_Book_write_0 rfl (lv_at hl 1 rfl) ?_
  refine xn_43 C w d_Book_write_1 ?_
  refine lv_bipush (v := 10) hx hb d_Book_write_2 (by decide) ?_
  refine lv_icmp_ge (tgt := 8) hx hb d_Book_write_4 (by decide) (fun cd => ?_) (fun cd => ?_)
  · have hf := it_e cd hf
    refine lv_aload_n hx hb d_Book_write_8 rfl (lv_at hl 1 rfl) ?_
    refine lv_iconst (v := 0) hx hb d_Book_write_9 (by decide) ?_
    refine lv_aload_n hx hb d_Book_write_10 rfl (lv_at hl 0 rfl) ?_
    refine xg_14_nights C w k337 d_Book_write_11 ?_
    refine lv_bipush (v := 8) hx hb d_Book_write_14 (by decide) ?_
    refine lv_ishr hx hb d_Book_write_16 ?_
    refine xs_43 C w (by decide) d_Book_write_17 (fun σ_1 H locs eσ_1 w => ?_)
    have hf := lt_e eσ_1 hf
    refine lv_aload_n hx hb d_Book_write_18 rfl (lv_at hl 1 rfl) ?_
    refine lv_iconst (v := 1) hx hb d_Book_write_19 (by decide) ?_
    refine lv_aload_n hx hb d_Book_write_20 rfl (lv_at hl 0 rfl) ?_
    refine xg_14_nights C w k337 d_Book_write_21 ?_
    refine lv_sipush (v := 255) hx hb d_Book_write_24 (by decide) ?_
    refine lv_iand hx hb d_Book_write_27 ?_
    refine xs_43 C w (by decide) d_Book_write_28 (fun σ_2 H locs eσ_2 w => ?_)
    have hf := lt_e eσ_2 hf
    refine lv_aload_n hx hb d_Book_write_29 rfl (lv_at hl 1 rfl) ?_
    refine lv_iconst (v := 2) hx hb d_Book_write_30 (by decide) ?_
    refine lv_aload_n hx hb d_Book_write_31 rfl (lv_at hl 0 rfl) ?_
    refine xg_14_takings C w k339 d_Book_write_32 ?_
    refine lv_bipush (v := 16) hx hb d_Book_write_35 (by decide) ?_
    refine lv_ishr hx hb d_Book_write_37 ?_
    refine xs_43 C w (by decide) d_Book_write_38 (fun σ_3 H locs eσ_3 w => ?_)
    have hf := lt_e eσ_3 hf
    refine lv_aload_n hx hb d_Book_write_39 rfl (lv_at hl 1 rfl) ?_
    refine lv_iconst (v := 3) hx hb d_Book_write_40 (by decide) ?_
    refine lv_aload_n hx hb d_Book_write_41 rfl (lv_at hl 0 rfl) ?_
    refine xg_14_takings C w k339 d_Book_write_42 ?_
    refine lv_bipush (v := 8) hx hb d_Book_write_45 (by decide) ?_
    refine lv_ishr hx hb d_Book_write_47 ?_
    refine lv_sipush (v := 255) hx hb d_Book_write_48 (by decide) ?_
    refine lv_iand hx hb d_Book_write_51 ?_
    refine xs_43 C w (by decide) d_Book_write_52 (fun σ_4 H locs eσ_4 w => ?_)
    have hf := lt_e eσ_4 hf
    refine lv_aload_n hx hb d_Book_write_53 rfl (lv_at hl 1 rfl) ?_
    refine lv_iconst (v := 4) hx hb d_Book_write_54 (by decide) ?_
    refine lv_aload_n hx hb d_Book_write_55 rfl (lv_at hl 0 rfl) ?_
    refine xg_14_takings C w k339 d_Book_write_56 ?_
    refine lv_sipush (v := 255) hx hb d_Book_write_59 (by decide) ?_
    refine lv_iand hx hb d_Book_write_62 ?_
    refine xs_43 C w (by decide) d_Book_write_63 (fun σ_5 H locs eσ_5 w => ?_)
    have hf := lt_e eσ_5 hf
    refine lv_aload_n hx hb d_Book_write_64 rfl (lv_at hl 1 rfl) ?_
    refine lv_iconst (v := 5) hx hb d_Book_write_65 (by decide) ?_
    refine lv_aload_n hx hb d_Book_write_66 rfl (lv_at hl 0 rfl) ?_
    refine xg_14_inForce C w k341 d_Book_write_67 ?_
    refine xs_43 C w (by decide) d_Book_write_70 (fun σ_6 H locs eσ_6 w => ?_)
    have hf := lt_e eσ_6 hf
    refine lv_aload_n hx hb d_Book_write_71 rfl (lv_at hl 0 rfl) ?_
    refine xg_14_now C w k343 d_Book_write_72 ?_
    refine lv_iconst (v := 0) hx hb d_Book_write_75 (by decide) ?_
    refine lv_aload_n hx hb d_Book_write_76 rfl (lv_at hl 1 rfl) ?_
    refine lv_bipush (v := 6) hx hb d_Book_write_77 (by decide) ?_
    refine lv_iconst (v := 3) hx hb d_Book_write_79 (by decide) ?_
    refine xc_15_43 C w hl.1 (by omega) (Nat.le_of_ble_eq_true rfl) (by decide) (by decide) (by decide) (by decide) (by decide) k336 d_Book_write_80 (fun σ_7 H locs eσ_7 w => ?_)
    have hf := lt_e eσ_7 hf
    refine lv_aload_n hx hb d_Book_write_83 rfl (lv_at hl 1 rfl) ?_
    refine lv_bipush (v := 9) hx hb d_Book_write_84 (by decide) ?_
    refine lv_aload_n hx hb d_Book_write_86 rfl (lv_at hl 1 rfl) ?_
    obtain ⟨r_9, h_8, hf⟩ := bp_e hf
    refine k_callS (As := [.ref (q 43)]) (rest := [.int 9, .ref (q 43)]) C w (c_Book_checkOf (q := q) h_8) cv_Book_checkOf k1067 (by decide) hl.1 rfl (Nat.le_of_ble_eq_true rfl) d_Book_write_87 (fun H locs w => ?_)
    show WK p l e s m _ below meth c 1 g (wX g q) A none σ2 H locs (F0 m 90 ls [.int r_9, .int 9, .ref (q 43)])
    refine xs_43 C w (by decide) d_Book_write_90 (fun σ_10 H locs eσ_10 w => ?_)
    have hf := lt_e eσ_10 hf
    cases some_e hf
    exact k_vret C w d_Book_write_91
  · have hf := if_e cd hf
    cases some_e hf
    exact k_vret C w d_Book_write_7
def f_BH_image (σ : St) : Option (Int32 × St) :=
  bp (f_Book_write σ) fun σ_2 =>
  lt (uI σ_2 2 10) fun σ_3 =>
  some ((sI σ_3 2), σ_3)
set_option maxHeartbeats 4000000 in
set_option maxRecDepth 20000 in
theorem c_BH_image {l : Launch} {g : GX} {q : Nat → Nat}  {σ : St} {r : Int32} {σ2 : St} (hf : f_BH_image   σ = some (r, σ2)) : KK l y_BH_image prog_1_method_31_code 1 (some .int) 2 g (wX g q) σ [.ref (q 0)] (some (.int r)) (wX g q) σ2 := by
  refine KK_of (plainFor_of_name (by decide)) (Nat.le_of_ble_eq_true rfl) (fun p e s m below meth c A ls C w hl => ?_)
  have hl : lv_has ls 1 [(0, .ref (q 0))] := hl
  obtain ⟨hx, hb, hml, hown, hts, hK, hA, hZ, hlocks, hr, hN⟩ := id C
  unfold f_BH_image at hf
  refine lv_aload_n hx hb d_BH_image_0 rfl (lv_at hl 0 rfl) ?_
  refine xg_0_book C w k509 d_BH_image_1 ?_
  refine lv_aload_n hx hb d_BH_image_4 rfl (lv_at hl 0 rfl) ?_
  refine xg_0_image C w k517 d_BH_image_5 ?_
  obtain ⟨σ_2, h_1, hf⟩ := bp_e hf
  refine k_callV (As := [.ref (q 43)]) (rest := []) C w (c_Book_write (q := q) h_1) cv_Book_write k1063 (xr_14 C w) (by decide) hl.1 rfl (Nat.le_of_ble_eq_true rfl) d_BH_image_8 (fun H locs w => ?_)
  show WK p l e s m _ below meth c 2 g (wX g q) A (some (.int r)) σ2 H locs (F0 m 11 ls [])
  refine lv_aload_n hx hb d_BH_image_11 rfl (lv_at hl 0 rfl) ?_
  refine lv_bipush (v := 10) hx hb d_BH_image_12 (by decide) ?_
  refine xp_0_imageBytes C w k518 d_BH_image_14 (fun σ_3 H locs eσ_3 w => ?_)
  have hf := lt_e eσ_3 hf
  refine lv_aload_n hx hb d_BH_image_17 rfl (lv_at hl 0 rfl) ?_
  refine xg_0_imageBytes C w k518 d_BH_image_18 ?_
  obtain ⟨rfl, rfl⟩ := some2_e hf
  exact k_iret C w d_BH_image_21
def f_BH_octet (x1 : Int32) (σ : St) : Option (Int32) :=
  if x1 < 0 then
    some (-1)
  else
    if x1 < (sI σ 2) then
      gd (inB x1 10) <|
      some (sA σ 29 x1.toNatClampNeg)
    else
      some (-1)
set_option maxHeartbeats 4000000 in
set_option maxRecDepth 20000 in
theorem c_BH_octet {l : Launch} {g : GX} {q : Nat → Nat} {x1 : Int32}  {σ : St} {r : Int32} (hf : f_BH_octet  x1 σ = some r) : KK l y_BH_octet prog_1_method_32_code 2 (some .int) 0 g (wX g q) σ [.ref (q 0), .int x1] (some (.int r)) (wX g q) σ := by
  refine KK_of (plainFor_of_name (by decide)) (Nat.le_of_ble_eq_true rfl) (fun p e s m below meth c A ls C w hl => ?_)
  have hl : lv_has ls 2 [(0, .ref (q 0)), (1, .int x1)] := hl
  obtain ⟨hx, hb, hml, hown, hts, hK, hA, hZ, hlocks, hr, hN⟩ := id C
  unfold f_BH_octet at hf
  refine lv_iload_n hx hb d_BH_octet_0 rfl (lv_at hl 1 rfl) ?_
  refine lv_if_lt (tgt := 12) hx hb d_BH_octet_1 (by decide) (fun cd => ?_) (fun cd => ?_)
  · have hf := it_e cd hf
    refine lv_iconst (v := (-1)) hx hb d_BH_octet_12 (by decide) ?_
    refine lv_goto (tgt := 22) hx hb d_BH_octet_13 (by decide) ?_
    cases some_e hf
    exact k_iret C w d_BH_octet_22
  · have hf := if_e cd hf
    refine lv_iload_n hx hb d_BH_octet_4 rfl (lv_at hl 1 rfl) ?_
    refine lv_aload_n hx hb d_BH_octet_5 rfl (lv_at hl 0 rfl) ?_
    refine xg_0_imageBytes C w k518 d_BH_octet_6 ?_
    refine lv_icmp_lt (tgt := 16) hx hb d_BH_octet_9 (by decide) (fun cd => ?_) (fun cd => ?_)
    · have hf := it_e cd hf
      refine lv_aload_n hx hb d_BH_octet_16 rfl (lv_at hl 0 rfl) ?_
      refine xg_0_image C w k517 d_BH_octet_17 ?_
      refine lv_iload_n hx hb d_BH_octet_20 rfl (lv_at hl 1 rfl) ?_
      obtain ⟨g_1, hf⟩ := gd_e hf
      refine xl_43 C w g_1 d_BH_octet_21 ?_
      cases some_e hf
      exact k_iret C w d_BH_octet_22
    · have hf := if_e cd hf
      refine lv_iconst (v := (-1)) hx hb d_BH_octet_12 (by decide) ?_
      refine lv_goto (tgt := 22) hx hb d_BH_octet_13 (by decide) ?_
      cases some_e hf
      exact k_iret C w d_BH_octet_22
def f_Book_checkOf_2_6b (k6 : Int32 → Int32 → St → Option (Int32)) (x1 : Int32) (x2 : Int32) (σ : St) : Option (Int32) :=
  if 9 ≤ x2 then
    some x1
  else
    if 1600 ≤ x2 then
      some x1
    else
      gd (inB x2 1600) <|
      lt ((iR ((3 * x1) + (sA σ 0 x2.toNatClampNeg)) 253)) fun x_2 =>
      lt ((x2 + 1)) fun x_3 =>
      k6 x_2 x_3 σ
def f_Book_checkOf_2_6 : Nat → Int32 → Int32 → St → Option (Int32)
  | 0 => fun _ _ _ => none
  | n + 1 => f_Book_checkOf_2_6b   (f_Book_checkOf_2_6   n)
def f_Book_checkOf_2 (σ : St) : Option (Int32) :=
  f_Book_checkOf_2_6 FU 139 0 σ
set_option maxHeartbeats 4000000 in
set_option maxRecDepth 20000 in
theorem t_Book_checkOf_2_6b {r : Int32} {σ : St} (C : Cx g A p s m av meth c prog_2_method_15_code 3 "BellHammer$Book" (some .int)) {k6 : Int32 → Int32 → St → Option (Int32)} (hk6 : ∀ (x1 : Int32) (x2 : Int32) (H : Heap) (locs : List Loc) (ls : Array Slot), k6 x1 x2 σ = some r → Wd g (wX g q) A s σ H locs → lv_has ls 3 [(0, .ref (q 2)), (1, .int x1), (2, .int x2)] → WK p l e s m av below meth c 0 g (wX g q) A (some (.int r)) σ H locs (F0 m 6 ls []))  {x1 : Int32} {x2 : Int32} {H : Heap} {locs : List Loc} {ls : Array Slot} (hf : f_Book_checkOf_2_6b  k6 x1 x2 σ = some r) (w : Wd g (wX g q) A s σ H locs) (hl : lv_has ls 3 [(0, .ref (q 2)), (1, .int x1), (2, .int x2)]) : WK p l e s m av below meth c 0 g (wX g q) A (some (.int r)) σ H locs (F0 m 6 ls []) := by
  obtain ⟨hx, hb, hml, hown, hts, hK, hA, hZ, hlocks, hr, hN⟩ := id C
  unfold f_Book_checkOf_2_6b at hf
  refine lv_iload_n hx hb d_Book_checkOf_6 rfl (lv_at hl 2 rfl) ?_
  refine lv_bipush (v := 9) hx hb d_Book_checkOf_7 (by decide) ?_
  refine lv_icmp_ge (tgt := 36) hx hb d_Book_checkOf_9 (by decide) (fun cd => ?_) (fun cd => ?_)
  · have hf := it_e cd hf
    refine lv_iload_n hx hb d_Book_checkOf_36 rfl (lv_at hl 1 rfl) ?_
    cases some_e hf
    exact k_iret C w d_Book_checkOf_37
  · have hf := if_e cd hf
    refine lv_iload_n hx hb d_Book_checkOf_12 rfl (lv_at hl 2 rfl) ?_
    refine lv_aload_n hx hb d_Book_checkOf_13 rfl (lv_at hl 0 rfl) ?_
    refine xn_2 C w d_Book_checkOf_14 ?_
    refine lv_icmp_ge (tgt := 36) hx hb d_Book_checkOf_15 (by decide) (fun cd => ?_) (fun cd => ?_)
    · have hf := it_e cd hf
      refine lv_iload_n hx hb d_Book_checkOf_36 rfl (lv_at hl 1 rfl) ?_
      cases some_e hf
      exact k_iret C w d_Book_checkOf_37
    · have hf := if_e cd hf
      refine lv_iconst (v := 3) hx hb d_Book_checkOf_18 (by decide) ?_
      refine lv_iload_n hx hb d_Book_checkOf_19 rfl (lv_at hl 1 rfl) ?_
      refine lv_imul hx hb d_Book_checkOf_20 ?_
      refine lv_aload_n hx hb d_Book_checkOf_21 rfl (lv_at hl 0 rfl) ?_
      refine lv_iload_n hx hb d_Book_checkOf_22 rfl (lv_at hl 2 rfl) ?_
      obtain ⟨g_1, hf⟩ := gd_e hf
      refine xl_2 C w g_1 d_Book_checkOf_23 ?_
      refine lv_iadd hx hb d_Book_checkOf_24 ?_
      refine lv_sipush (v := 253) hx hb d_Book_checkOf_25 (by decide) ?_
      refine r_irem hx hb d_Book_checkOf_28 (by decide) ?_
      refine lv_topi (fun x_2 ex_2 => ?_)
      have hf := lt_e ex_2 hf
      refine lv_istore_n (lv' := [(1, .int x_2), (0, .ref (q 2)), (2, .int x2)]) hx hb d_Book_checkOf_29 rfl hl (by decide) rfl (fun ls hl => ?_)
      obtain ⟨x_3, ex_3⟩ : ∃ y : Int32, y = (x2 + 1) := ⟨_, rfl⟩
      have hf := lt_e ex_3 hf
      refine lv_iinc (v := x_3) (lv' := [(2, .int x_3), (1, .int x_2), (0, .ref (q 2))]) hx hb d_Book_checkOf_30 hl (k := 2) rfl (by rw [ex_3]; rfl) (by decide) rfl (fun ls hl => ?_)
      refine lv_goto (tgt := 6) hx hb d_Book_checkOf_33 (by decide) ?_
      exact hk6 x_2 x_3  _ _ _ hf w (lv_sub hl [2, 1, 0] rfl)
set_option maxHeartbeats 4000000 in
set_option maxRecDepth 20000 in
theorem t_Book_checkOf_2_6 {r : Int32} {σ : St} (C : Cx g A p s m av meth c prog_2_method_15_code 3 "BellHammer$Book" (some .int))  : ∀ (n : Nat) (x1 : Int32) (x2 : Int32) (H : Heap) (locs : List Loc) (ls : Array Slot), f_Book_checkOf_2_6   n x1 x2 σ = some r → Wd g (wX g q) A s σ H locs → lv_has ls 3 [(0, .ref (q 2)), (1, .int x1), (2, .int x2)] → WK p l e s m av below meth c 0 g (wX g q) A (some (.int r)) σ H locs (F0 m 6 ls []) := by
  intro n
  induction n with
  | zero => intro x1 x2 H locs ls hf; exact absurd hf (by intro z; cases z)
  | succ n ih => intro x1 x2 H locs ls hf w hl; exact t_Book_checkOf_2_6b C  ih hf w hl
set_option maxHeartbeats 4000000 in
set_option maxRecDepth 20000 in
theorem c_Book_checkOf_2 {l : Launch} {g : GX} {q : Nat → Nat}  {σ : St} {r : Int32} (hf : f_Book_checkOf_2   σ = some r) : KK l y_Book_checkOf prog_2_method_15_code 3 (some .int) 0 g (wX g q) σ [.ref (q 2)] (some (.int r)) (wX g q) σ := by
  refine KK_of (plainFor_of_name (by decide)) (Nat.le_of_ble_eq_true rfl) (fun p e s m below meth c A ls C w hl => ?_)
  have hl : lv_has ls 3 [(0, .ref (q 2))] := hl
  obtain ⟨hx, hb, hml, hown, hts, hK, hA, hZ, hlocks, hr, hN⟩ := id C
  unfold f_Book_checkOf_2 at hf
  refine lv_sipush (v := 139) hx hb d_Book_checkOf_0 (by decide) ?_
  refine lv_istore_n (lv' := [(1, .int 139), (0, .ref (q 2))]) hx hb d_Book_checkOf_3 rfl hl (by decide) rfl (fun ls hl => ?_)
  refine lv_iconst (v := 0) hx hb d_Book_checkOf_4 (by decide) ?_
  refine lv_istore_n (lv' := [(2, .int 0), (1, .int 139), (0, .ref (q 2))]) hx hb d_Book_checkOf_5 rfl hl (by decide) rfl (fun ls hl => ?_)
  exact t_Book_checkOf_2_6 C  FU 139 0  _ _ _ hf w (lv_sub hl [2, 1, 0] rfl)
def f_Book_takeOver_80b (k80 : Int32 → Int32 → Int32 → St → Option (Int32 × St)) (x3 : Int32) (x4 : Int32) (x5 : Int32) (σ : St) : Option (Int32 × St) :=
  if 3 ≤ x5 then
    lt (uI σ 17 x3) fun σ_1 =>
    lt (uI σ_1 18 x4) fun σ_2 =>
    lt (uI σ_2 19 (sA σ_2 0 (5 : Int32).toNatClampNeg)) fun σ_3 =>
    lt (uA σ_3 9 (va_cpy (sA σ_3 0) (sA σ_3 9) (6 : Int32).toNatClampNeg (0 : Int32).toNatClampNeg (3 : Int32).toNatClampNeg)) fun σ_4 =>
    lt (uI σ_4 23 0) fun σ_5 =>
    lt (uI σ_5 24 0) fun σ_6 =>
    some (1, σ_6)
  else
    gd (inB (6 + x5) 1600) <|
    gd (inB x5 9) <|
    if (sA σ 0 (6 + x5).toNatClampNeg) < (stV 3 x5) then
      some (0, σ)
    else
      gd (inB (6 + x5) 1600) <|
      gd (inB x5 9) <|
      if (sA σ 0 (6 + x5).toNatClampNeg) ≤ (stV 4 x5) then
        lt ((x5 + 1)) fun x_11 =>
        k80 x3 x4 x_11 σ
      else
        some (0, σ)
def f_Book_takeOver_80 : Nat → Int32 → Int32 → Int32 → St → Option (Int32 × St)
  | 0 => fun _ _ _ _ => none
  | n + 1 => f_Book_takeOver_80b   (f_Book_takeOver_80   n)
def f_Book_takeOver (x2 : Int32) (σ : St) : Option (Int32 × St) :=
  if (1600 : Int32) < 10 then
    some (0, σ)
  else
    bp (f_Book_checkOf_2 σ) fun r_2 =>
    if (sA σ 0 (9 : Int32).toNatClampNeg) = r_2 then
      lt ((((sA σ 0 (0 : Int32).toNatClampNeg) <<< (8 &&& 31)) ||| (sA σ 0 (1 : Int32).toNatClampNeg))) fun x_3 =>
      lt (((((sA σ 0 (2 : Int32).toNatClampNeg) <<< (16 &&& 31)) ||| ((sA σ 0 (3 : Int32).toNatClampNeg) <<< (8 &&& 31))) ||| (sA σ 0 (4 : Int32).toNatClampNeg))) fun x_4 =>
      if 999 < x_3 then
        some (0, σ)
      else
        if (x_3 * 288) < x_4 then
          some (0, σ)
        else
          if ((sA σ 0 (5 : Int32).toNatClampNeg) >>> (x2 &&& 31)) = 0 then
            f_Book_takeOver_80 FU x_3 x_4 0 σ
          else
            some (0, σ)
    else
      some (0, σ)
set_option maxHeartbeats 4000000 in
set_option maxRecDepth 20000 in
theorem t_Book_takeOver_80b {r : Int32} {σ2 : St} (C : Cx g A p s m av meth c prog_2_method_14_code 6 "BellHammer$Book" (some .boolean)) {k80 : Int32 → Int32 → Int32 → St → Option (Int32 × St)} (hk80 : ∀ (x3 : Int32) (x4 : Int32) (x5 : Int32) (σ : St) (H : Heap) (locs : List Loc) (ls : Array Slot), k80 x3 x4 x5 σ = some (r, σ2) → Wd g (wX g q) A s σ H locs → lv_has ls 6 [(0, .ref (q 14)), (1, .ref (q 2)), (3, .int x3), (4, .int x4), (5, .int x5)] → WK p l e s m av below meth c 1 g (wX g q) A (some (.int r)) σ2 H locs (F0 m 80 ls []))  {x3 : Int32} {x4 : Int32} {x5 : Int32} {σ : St} {H : Heap} {locs : List Loc} {ls : Array Slot} (hf : f_Book_takeOver_80b  k80 x3 x4 x5 σ = some (r, σ2)) (w : Wd g (wX g q) A s σ H locs) (hl : lv_has ls 6 [(0, .ref (q 14)), (1, .ref (q 2)), (3, .int x3), (4, .int x4), (5, .int x5)]) : WK p l e s m av below meth c 1 g (wX g q) A (some (.int r)) σ2 H locs (F0 m 80 ls []) := by
  obtain ⟨hx, hb, hml, hown, hts, hK, hA, hZ, hlocks, hr, hN⟩ := id C
  unfold f_Book_takeOver_80b at hf
  refine lv_iload hx hb d_Book_takeOver_80 (lv_at hl 4 rfl) ?_
  refine lv_iconst (v := 3) hx hb d_Book_takeOver_82 (by decide) ?_
  refine lv_icmp_ge (tgt := 126) hx hb d_Book_takeOver_83 (by decide) (fun cd => ?_) (fun cd => ?_)
  · have hf := it_e cd hf
    refine lv_aload_n hx hb d_Book_takeOver_126 rfl (lv_at hl 0 rfl) ?_
    refine lv_iload_n hx hb d_Book_takeOver_127 rfl (lv_at hl 2 rfl) ?_
    refine xp_14_nights C w k337 d_Book_takeOver_128 (fun σ_1 H locs eσ_1 w => ?_)
    have hf := lt_e eσ_1 hf
    refine lv_aload_n hx hb d_Book_takeOver_131 rfl (lv_at hl 0 rfl) ?_
    refine lv_iload hx hb d_Book_takeOver_132 (lv_at hl 3 rfl) ?_
    refine xp_14_takings C w k339 d_Book_takeOver_134 (fun σ_2 H locs eσ_2 w => ?_)
    have hf := lt_e eσ_2 hf
    refine lv_aload_n hx hb d_Book_takeOver_137 rfl (lv_at hl 0 rfl) ?_
    refine lv_aload_n hx hb d_Book_takeOver_138 rfl (lv_at hl 1 rfl) ?_
    refine lv_iconst (v := 5) hx hb d_Book_takeOver_139 (by decide) ?_
    refine xl_2 C w (by decide) d_Book_takeOver_140 ?_
    refine xp_14_inForce C w k341 d_Book_takeOver_141 (fun σ_3 H locs eσ_3 w => ?_)
    have hf := lt_e eσ_3 hf
    refine lv_aload_n hx hb d_Book_takeOver_144 rfl (lv_at hl 1 rfl) ?_
    refine lv_bipush (v := 6) hx hb d_Book_takeOver_145 (by decide) ?_
    refine lv_aload_n hx hb d_Book_takeOver_147 rfl (lv_at hl 0 rfl) ?_
    refine xg_14_now C w k343 d_Book_takeOver_148 ?_
    refine lv_iconst (v := 0) hx hb d_Book_takeOver_151 (by decide) ?_
    refine lv_iconst (v := 3) hx hb d_Book_takeOver_152 (by decide) ?_
    refine xc_2_15 C w hl.1 (by omega) (Nat.le_of_ble_eq_true rfl) (by decide) (by decide) (by decide) (by decide) (by decide) k336 d_Book_takeOver_153 (fun σ_4 H locs eσ_4 w => ?_)
    have hf := lt_e eσ_4 hf
    refine lv_aload_n hx hb d_Book_takeOver_156 rfl (lv_at hl 0 rfl) ?_
    refine lv_iconst (v := 0) hx hb d_Book_takeOver_157 (by decide) ?_
    refine xp_14_acts C w k351 d_Book_takeOver_158 (fun σ_5 H locs eσ_5 w => ?_)
    have hf := lt_e eσ_5 hf
    refine lv_aload_n hx hb d_Book_takeOver_161 rfl (lv_at hl 0 rfl) ?_
    refine lv_iconst (v := 0) hx hb d_Book_takeOver_162 (by decide) ?_
    refine xp_14_keptBlows C w k357 d_Book_takeOver_163 (fun σ_6 H locs eσ_6 w => ?_)
    have hf := lt_e eσ_6 hf
    refine lv_iconst (v := 1) hx hb d_Book_takeOver_166 (by decide) ?_
    obtain ⟨rfl, rfl⟩ := some2_e hf
    exact k_zret C w (by decide) d_Book_takeOver_167
  · have hf := if_e cd hf
    refine lv_aload_n hx hb d_Book_takeOver_86 rfl (lv_at hl 1 rfl) ?_
    refine lv_bipush (v := 6) hx hb d_Book_takeOver_87 (by decide) ?_
    refine lv_iload hx hb d_Book_takeOver_89 (lv_at hl 4 rfl) ?_
    refine lv_iadd hx hb d_Book_takeOver_91 ?_
    obtain ⟨g_7, hf⟩ := gd_e hf
    refine xl_2 C w g_7 d_Book_takeOver_92 ?_
    refine r_getsN C w 3 rfl (List.mem_of_getElem? (l := nestF) (i := 6) rfl) d_Book_takeOver_93 ?_
    refine lv_iload hx hb d_Book_takeOver_96 (lv_at hl 4 rfl) ?_
    obtain ⟨g_8, hf⟩ := gd_e hf
    refine r_sld C w 3 rfl g_8 d_Book_takeOver_98 ?_
    refine lv_icmp_lt (tgt := 118) hx hb d_Book_takeOver_99 (by decide) (fun cd => ?_) (fun cd => ?_)
    · have hf := it_e cd hf
      refine lv_iconst (v := 0) hx hb d_Book_takeOver_118 (by decide) ?_
      obtain ⟨rfl, rfl⟩ := some2_e hf
      exact k_zret C w (by decide) d_Book_takeOver_119
    · have hf := if_e cd hf
      refine lv_aload_n hx hb d_Book_takeOver_102 rfl (lv_at hl 1 rfl) ?_
      refine lv_bipush (v := 6) hx hb d_Book_takeOver_103 (by decide) ?_
      refine lv_iload hx hb d_Book_takeOver_105 (lv_at hl 4 rfl) ?_
      refine lv_iadd hx hb d_Book_takeOver_107 ?_
      obtain ⟨g_9, hf⟩ := gd_e hf
      refine xl_2 C w g_9 d_Book_takeOver_108 ?_
      refine r_getsN C w 4 rfl (List.mem_of_getElem? (l := nestF) (i := 7) rfl) d_Book_takeOver_109 ?_
      refine lv_iload hx hb d_Book_takeOver_112 (lv_at hl 4 rfl) ?_
      obtain ⟨g_10, hf⟩ := gd_e hf
      refine r_sld C w 4 rfl g_10 d_Book_takeOver_114 ?_
      refine lv_icmp_le (tgt := 120) hx hb d_Book_takeOver_115 (by decide) (fun cd => ?_) (fun cd => ?_)
      · have hf := it_e cd hf
        obtain ⟨x_11, ex_11⟩ : ∃ y : Int32, y = (x5 + 1) := ⟨_, rfl⟩
        have hf := lt_e ex_11 hf
        refine lv_iinc (v := x_11) (lv' := [(5, .int x_11), (0, .ref (q 14)), (1, .ref (q 2)), (3, .int x3), (4, .int x4)]) hx hb d_Book_takeOver_120 hl (k := 4) rfl (by rw [ex_11]; rfl) (by decide) rfl (fun ls hl => ?_)
        refine lv_goto (tgt := 80) hx hb d_Book_takeOver_123 (by decide) ?_
        exact hk80 x3 x4 x_11 σ _ _ _ hf w (lv_sub hl [1, 2, 3, 4, 0] rfl)
      · have hf := if_e cd hf
        refine lv_iconst (v := 0) hx hb d_Book_takeOver_118 (by decide) ?_
        obtain ⟨rfl, rfl⟩ := some2_e hf
        exact k_zret C w (by decide) d_Book_takeOver_119
set_option maxHeartbeats 4000000 in
set_option maxRecDepth 20000 in
theorem t_Book_takeOver_80 {r : Int32} {σ2 : St} (C : Cx g A p s m av meth c prog_2_method_14_code 6 "BellHammer$Book" (some .boolean))  : ∀ (n : Nat) (x3 : Int32) (x4 : Int32) (x5 : Int32) (σ : St) (H : Heap) (locs : List Loc) (ls : Array Slot), f_Book_takeOver_80   n x3 x4 x5 σ = some (r, σ2) → Wd g (wX g q) A s σ H locs → lv_has ls 6 [(0, .ref (q 14)), (1, .ref (q 2)), (3, .int x3), (4, .int x4), (5, .int x5)] → WK p l e s m av below meth c 1 g (wX g q) A (some (.int r)) σ2 H locs (F0 m 80 ls []) := by
  intro n
  induction n with
  | zero => intro x3 x4 x5 σ H locs ls hf; exact absurd hf (by intro z; cases z)
  | succ n ih => intro x3 x4 x5 σ H locs ls hf w hl; exact t_Book_takeOver_80b C  ih hf w hl
set_option maxHeartbeats 4000000 in
set_option maxRecDepth 20000 in
theorem c_Book_takeOver {l : Launch} {g : GX} {q : Nat → Nat} {x2 : Int32}  {σ : St} {r : Int32} {σ2 : St} (hf : f_Book_takeOver  x2 σ = some (r, σ2)) : KK l y_Book_takeOver prog_2_method_14_code 6 (some .boolean) 1 g (wX g q) σ [.ref (q 14), .ref (q 2), .int x2] (some (.int r)) (wX g q) σ2 := by
  refine KK_of (plainFor_of_name (by decide)) (Nat.le_of_ble_eq_true rfl) (fun p e s m below meth c A ls C w hl => ?_)
  have hl : lv_has ls 6 [(0, .ref (q 14)), (1, .ref (q 2)), (2, .int x2)] := hl
  obtain ⟨hx, hb, hml, hown, hts, hK, hA, hZ, hlocks, hr, hN⟩ := id C
  unfold f_Book_takeOver at hf
  refine lv_aload_n hx hb d_Book_takeOver_0 rfl (lv_at hl 1 rfl) ?_
  refine xn_2 C w d_Book_takeOver_1 ?_
  refine lv_bipush (v := 10) hx hb d_Book_takeOver_2 (by decide) ?_
  refine lv_icmp_lt (tgt := 18) hx hb d_Book_takeOver_4 (by decide) (fun cd => ?_) (fun cd => ?_)
  · have hf := it_e cd hf
    refine lv_iconst (v := 0) hx hb d_Book_takeOver_18 (by decide) ?_
    obtain ⟨rfl, rfl⟩ := some2_e hf
    exact k_zret C w (by decide) d_Book_takeOver_19
  · have hf := if_e cd hf
    refine lv_aload_n hx hb d_Book_takeOver_7 rfl (lv_at hl 1 rfl) ?_
    refine lv_bipush (v := 9) hx hb d_Book_takeOver_8 (by decide) ?_
    refine xl_2 C w (by decide) d_Book_takeOver_10 ?_
    refine lv_aload_n hx hb d_Book_takeOver_11 rfl (lv_at hl 1 rfl) ?_
    obtain ⟨r_2, h_1, hf⟩ := bp_e hf
    refine k_callS (As := [.ref (q 2)]) (rest := [.int (sA σ 0 (9 : Int32).toNatClampNeg)]) C w (c_Book_checkOf_2 (q := q) h_1) cv_Book_checkOf k1067 (by decide) hl.1 rfl (Nat.le_of_ble_eq_true rfl) d_Book_takeOver_12 (fun H locs w => ?_)
    show WK p l e s m _ below meth c 1 g (wX g q) A (some (.int r)) σ2 H locs (F0 m 15 ls [.int r_2, .int (sA σ 0 (9 : Int32).toNatClampNeg)])
    refine lv_icmp_eq (tgt := 20) hx hb d_Book_takeOver_15 (by decide) (fun cd => ?_) (fun cd => ?_)
    · have hf := it_e cd hf
      refine lv_aload_n hx hb d_Book_takeOver_20 rfl (lv_at hl 1 rfl) ?_
      refine lv_iconst (v := 0) hx hb d_Book_takeOver_21 (by decide) ?_
      refine xl_2 C w (by decide) d_Book_takeOver_22 ?_
      refine lv_bipush (v := 8) hx hb d_Book_takeOver_23 (by decide) ?_
      refine lv_ishl hx hb d_Book_takeOver_25 ?_
      refine lv_aload_n hx hb d_Book_takeOver_26 rfl (lv_at hl 1 rfl) ?_
      refine lv_iconst (v := 1) hx hb d_Book_takeOver_27 (by decide) ?_
      refine xl_2 C w (by decide) d_Book_takeOver_28 ?_
      refine lv_ior hx hb d_Book_takeOver_29 ?_
      refine lv_topi (fun x_3 ex_3 => ?_)
      have hf := lt_e ex_3 hf
      refine lv_istore_n (lv' := [(3, .int x_3), (0, .ref (q 14)), (1, .ref (q 2)), (2, .int x2)]) hx hb d_Book_takeOver_30 rfl hl (by decide) rfl (fun ls hl => ?_)
      refine lv_aload_n hx hb d_Book_takeOver_31 rfl (lv_at hl 2 rfl) ?_
      refine lv_iconst (v := 2) hx hb d_Book_takeOver_32 (by decide) ?_
      refine xl_2 C w (by decide) d_Book_takeOver_33 ?_
      refine lv_bipush (v := 16) hx hb d_Book_takeOver_34 (by decide) ?_
      refine lv_ishl hx hb d_Book_takeOver_36 ?_
      refine lv_aload_n hx hb d_Book_takeOver_37 rfl (lv_at hl 2 rfl) ?_
      refine lv_iconst (v := 3) hx hb d_Book_takeOver_38 (by decide) ?_
      refine xl_2 C w (by decide) d_Book_takeOver_39 ?_
      refine lv_bipush (v := 8) hx hb d_Book_takeOver_40 (by decide) ?_
      refine lv_ishl hx hb d_Book_takeOver_42 ?_
      refine lv_ior hx hb d_Book_takeOver_43 ?_
      refine lv_aload_n hx hb d_Book_takeOver_44 rfl (lv_at hl 2 rfl) ?_
      refine lv_iconst (v := 4) hx hb d_Book_takeOver_45 (by decide) ?_
      refine xl_2 C w (by decide) d_Book_takeOver_46 ?_
      refine lv_ior hx hb d_Book_takeOver_47 ?_
      refine lv_topi (fun x_4 ex_4 => ?_)
      have hf := lt_e ex_4 hf
      refine lv_istore (lv' := [(4, .int x_4), (3, .int x_3), (0, .ref (q 14)), (1, .ref (q 2)), (2, .int x2)]) hx hb d_Book_takeOver_48 hl (by decide) rfl (fun ls hl => ?_)
      refine lv_iload_n hx hb d_Book_takeOver_50 rfl (lv_at hl 1 rfl) ?_
      refine lv_sipush (v := 999) hx hb d_Book_takeOver_51 (by decide) ?_
      refine lv_icmp_gt (tgt := 75) hx hb d_Book_takeOver_54 (by decide) (fun cd => ?_) (fun cd => ?_)
      · have hf := it_e cd hf
        refine lv_iconst (v := 0) hx hb d_Book_takeOver_75 (by decide) ?_
        obtain ⟨rfl, rfl⟩ := some2_e hf
        exact k_zret C w (by decide) d_Book_takeOver_76
      · have hf := if_e cd hf
        refine lv_iload hx hb d_Book_takeOver_57 (lv_at hl 0 rfl) ?_
        refine lv_iload_n hx hb d_Book_takeOver_59 rfl (lv_at hl 1 rfl) ?_
        refine lv_sipush (v := 288) hx hb d_Book_takeOver_60 (by decide) ?_
        refine lv_imul hx hb d_Book_takeOver_63 ?_
        refine lv_icmp_gt (tgt := 75) hx hb d_Book_takeOver_64 (by decide) (fun cd => ?_) (fun cd => ?_)
        · have hf := it_e cd hf
          refine lv_iconst (v := 0) hx hb d_Book_takeOver_75 (by decide) ?_
          obtain ⟨rfl, rfl⟩ := some2_e hf
          exact k_zret C w (by decide) d_Book_takeOver_76
        · have hf := if_e cd hf
          refine lv_aload_n hx hb d_Book_takeOver_67 rfl (lv_at hl 3 rfl) ?_
          refine lv_iconst (v := 5) hx hb d_Book_takeOver_68 (by decide) ?_
          refine xl_2 C w (by decide) d_Book_takeOver_69 ?_
          refine lv_iload_n hx hb d_Book_takeOver_70 rfl (lv_at hl 4 rfl) ?_
          refine lv_ishr hx hb d_Book_takeOver_71 ?_
          refine lv_if_eq (tgt := 77) hx hb d_Book_takeOver_72 (by decide) (fun cd => ?_) (fun cd => ?_)
          · have hf := it_e cd hf
            refine lv_iconst (v := 0) hx hb d_Book_takeOver_77 (by decide) ?_
            refine lv_istore (lv' := [(5, .int 0), (4, .int x_4), (3, .int x_3), (0, .ref (q 14)), (1, .ref (q 2)), (2, .int x2)]) hx hb d_Book_takeOver_78 hl (by decide) rfl (fun ls hl => ?_)
            exact t_Book_takeOver_80 C  FU x_3 x_4 0 σ _ _ _ hf w (lv_sub hl [3, 4, 2, 1, 0] rfl)
          · have hf := if_e cd hf
            refine lv_iconst (v := 0) hx hb d_Book_takeOver_75 (by decide) ?_
            obtain ⟨rfl, rfl⟩ := some2_e hf
            exact k_zret C w (by decide) d_Book_takeOver_76
    · have hf := if_e cd hf
      refine lv_iconst (v := 0) hx hb d_Book_takeOver_18 (by decide) ?_
      obtain ⟨rfl, rfl⟩ := some2_e hf
      exact k_zret C w (by decide) d_Book_takeOver_19
def f_BH_on_46 (σ : St) : Option (Int32 × St) :=
  lt (uA σ 30 (upd (sA σ 30) (5 : Int32).toNatClampNeg ((sA σ 30 (5 : Int32).toNatClampNeg) + 1))) fun σ_1 =>
  some (0, σ_1)
def f_BH_on (σ : St) : Option (Int32 × St) :=
  lt ((sI σ 3)) fun x_1 =>
  lt (uI σ 3 0) fun σ_2 =>
  if x_1 = 10 then
    bd (f_Book_takeOver (sI σ_2 55) σ_2) fun r_4 σ_5 =>
    if r_4 = 0 then
      f_BH_on_46 σ_5
    else
      some (1, σ_5)
  else
    f_BH_on_46 σ_2
set_option maxHeartbeats 4000000 in
set_option maxRecDepth 20000 in
theorem t_BH_on_46 {r : Int32} {σ2 : St} (C : Cx g A p s m av meth c prog_1_method_33_code 2 "BellHammer" (some .boolean))  {σ : St} {H : Heap} {locs : List Loc} {ls : Array Slot} (hf : f_BH_on_46    σ = some (r, σ2)) (w : Wd g (wX g q) A s σ H locs) (hl : lv_has ls 2 [(0, .ref (q 0))]) : WK p l e s m av below meth c 2 g (wX g q) A (some (.int r)) σ2 H locs (F0 m 46 ls []) := by
  obtain ⟨hx, hb, hml, hown, hts, hK, hA, hZ, hlocks, hr, hN⟩ := id C
  unfold f_BH_on_46 at hf
  refine lv_aload_n hx hb d_BH_on_46 rfl (lv_at hl 0 rfl) ?_
  refine xg_0_refused C w k519 d_BH_on_47 ?_
  refine lv_iconst (v := 5) hx hb d_BH_on_50 (by decide) ?_
  refine lv_dup2_11 hx hb d_BH_on_51 rfl rfl ?_
  refine xl_44 C w (by decide) d_BH_on_52 ?_
  refine lv_iconst (v := 1) hx hb d_BH_on_53 (by decide) ?_
  refine lv_iadd hx hb d_BH_on_54 ?_
  refine xs_44 C w (by decide) d_BH_on_55 (fun σ_1 H locs eσ_1 w => ?_)
  have hf := lt_e eσ_1 hf
  refine lv_iconst (v := 0) hx hb d_BH_on_56 (by decide) ?_
  obtain ⟨rfl, rfl⟩ := some2_e hf
  exact k_zret C w (by decide) d_BH_on_57
set_option maxHeartbeats 4000000 in
set_option maxRecDepth 20000 in
theorem c_BH_on {l : Launch} {g : GX} {q : Nat → Nat}  {σ : St} {r : Int32} {σ2 : St} (hf : f_BH_on   σ = some (r, σ2)) : KK l y_BH_on prog_1_method_33_code 2 (some .boolean) 2 g (wX g q) σ [.ref (q 0)] (some (.int r)) (wX g q) σ2 := by
  refine KK_of (plainFor_of_name (by decide)) (Nat.le_of_ble_eq_true rfl) (fun p e s m below meth c A ls C w hl => ?_)
  have hl : lv_has ls 2 [(0, .ref (q 0))] := hl
  obtain ⟨hx, hb, hml, hown, hts, hK, hA, hZ, hlocks, hr, hN⟩ := id C
  unfold f_BH_on at hf
  refine lv_aload_n hx hb d_BH_on_0 rfl (lv_at hl 0 rfl) ?_
  refine xg_0_tape C w k507 d_BH_on_1 ?_
  refine xg_1_size C w k135 d_BH_on_4 ?_
  refine lv_topi (fun x_1 ex_1 => ?_)
  have hf := lt_e ex_1 hf
  refine lv_istore_n (lv' := [(1, .int x_1), (0, .ref (q 0))]) hx hb d_BH_on_7 rfl hl (by decide) rfl (fun ls hl => ?_)
  refine lv_aload_n hx hb d_BH_on_8 rfl (lv_at hl 1 rfl) ?_
  refine xg_0_tape C w k507 d_BH_on_9 ?_
  refine lv_iconst (v := 0) hx hb d_BH_on_12 (by decide) ?_
  refine xp_1_size C w k135 d_BH_on_13 (fun σ_2 H locs eσ_2 w => ?_)
  have hf := lt_e eσ_2 hf
  refine lv_iload_n hx hb d_BH_on_16 rfl (lv_at hl 0 rfl) ?_
  refine lv_bipush (v := 10) hx hb d_BH_on_17 (by decide) ?_
  refine lv_icmp_ne (tgt := 46) hx hb d_BH_on_19 (by decide) (fun cd => ?_) (fun cd => ?_)
  · have hf := if_e cd hf
    exact t_BH_on_46 C  hf w (lv_sub hl [1] rfl)
  · have hf := it_e cd hf
    refine lv_aload_n hx hb d_BH_on_22 rfl (lv_at hl 1 rfl) ?_
    refine xg_0_book C w k509 d_BH_on_23 ?_
    refine lv_aload_n hx hb d_BH_on_26 rfl (lv_at hl 1 rfl) ?_
    refine xg_0_tape C w k507 d_BH_on_27 ?_
    refine xg_1_bytes C w k134 d_BH_on_30 ?_
    refine lv_aload_n hx hb d_BH_on_33 rfl (lv_at hl 1 rfl) ?_
    refine xg_0_fair C w k513 d_BH_on_34 ?_
    refine xg_34_rules C w k282 d_BH_on_37 ?_
    obtain ⟨r_4, σ_5, h_3, hf⟩ := bd_e hf
    refine k_callV (As := [.ref (q 2), .int (sI σ_2 55)]) (rest := []) C w (c_Book_takeOver (q := q) h_3) cv_Book_takeOver k1078 (xr_14 C w) (by decide) hl.1 rfl (Nat.le_of_ble_eq_true rfl) d_BH_on_40 (fun H locs w => ?_)
    show WK p l e s m _ below meth c 2 g (wX g q) A (some (.int r)) σ2 H locs (F0 m 43 ls [.int r_4])
    refine lv_if_ne (tgt := 58) hx hb d_BH_on_43 (by decide) (fun cd => ?_) (fun cd => ?_)
    · have hf := if_e cd hf
      refine lv_iconst (v := 1) hx hb d_BH_on_58 (by decide) ?_
      obtain ⟨rfl, rfl⟩ := some2_e hf
      exact k_zret C w (by decide) d_BH_on_59
    · have hf := it_e cd hf
      exact t_BH_on_46 C  hf w (lv_sub hl [1] rfl)
def f_BH_status (x1 : Int32) (σ : St) : Option (Int32) :=
  if x1 < 0 then
    some (-1)
  else
    if x1 < 6 then
      gd (inB x1 6) <|
      some (sA σ 30 x1.toNatClampNeg)
    else
      some (-1)
set_option maxHeartbeats 4000000 in
set_option maxRecDepth 20000 in
theorem c_BH_status {l : Launch} {g : GX} {q : Nat → Nat} {x1 : Int32}  {σ : St} {r : Int32} (hf : f_BH_status  x1 σ = some r) : KK l y_BH_status prog_1_method_34_code 2 (some .int) 0 g (wX g q) σ [.ref (q 0), .int x1] (some (.int r)) (wX g q) σ := by
  refine KK_of (plainFor_of_name (by decide)) (Nat.le_of_ble_eq_true rfl) (fun p e s m below meth c A ls C w hl => ?_)
  have hl : lv_has ls 2 [(0, .ref (q 0)), (1, .int x1)] := hl
  obtain ⟨hx, hb, hml, hown, hts, hK, hA, hZ, hlocks, hr, hN⟩ := id C
  unfold f_BH_status at hf
  refine lv_iload_n hx hb d_BH_status_0 rfl (lv_at hl 1 rfl) ?_
  refine lv_if_lt (tgt := 10) hx hb d_BH_status_1 (by decide) (fun cd => ?_) (fun cd => ?_)
  · have hf := it_e cd hf
    refine lv_iconst (v := (-1)) hx hb d_BH_status_10 (by decide) ?_
    refine lv_goto (tgt := 20) hx hb d_BH_status_11 (by decide) ?_
    cases some_e hf
    exact k_iret C w d_BH_status_20
  · have hf := if_e cd hf
    refine lv_iload_n hx hb d_BH_status_4 rfl (lv_at hl 1 rfl) ?_
    refine lv_bipush (v := 6) hx hb d_BH_status_5 (by decide) ?_
    refine lv_icmp_lt (tgt := 14) hx hb d_BH_status_7 (by decide) (fun cd => ?_) (fun cd => ?_)
    · have hf := it_e cd hf
      refine lv_aload_n hx hb d_BH_status_14 rfl (lv_at hl 0 rfl) ?_
      refine xg_0_refused C w k519 d_BH_status_15 ?_
      refine lv_iload_n hx hb d_BH_status_18 rfl (lv_at hl 1 rfl) ?_
      obtain ⟨g_1, hf⟩ := gd_e hf
      refine xl_44 C w g_1 d_BH_status_19 ?_
      cases some_e hf
      exact k_iret C w d_BH_status_20
    · have hf := if_e cd hf
      refine lv_iconst (v := (-1)) hx hb d_BH_status_10 (by decide) ?_
      refine lv_goto (tgt := 20) hx hb d_BH_status_11 (by decide) ?_
      cases some_e hf
      exact k_iret C w d_BH_status_20
