variable {p : Program} {l : Launch} {e : Env} {s : State} {m : MethodId} {av : Array Value} {below : List Frame} {meth : Method} {c : Code} {g : GX} {q : Nat → Nat} {A : Nat → Prop}
theorem d_Tape_add_0 : decode prog_8_method_2_code 0 = .ok (.bipush 24, 2) := by decide +kernel
theorem d_Tape_add_2 : decode prog_8_method_2_code 2 = .ok (.istore_n 2, 1) := by decide +kernel
theorem d_Tape_add_3 : decode prog_8_method_2_code 3 = .ok (.iload_n 2, 1) := by decide +kernel
theorem d_Tape_add_4 : decode prog_8_method_2_code 4 = .ok (.ifCond .lt 47, 3) := by decide +kernel
theorem d_Tape_add_7 : decode prog_8_method_2_code 7 = .ok (.aload_n 0, 1) := by decide +kernel
theorem d_Tape_add_8 : decode prog_8_method_2_code 8 = .ok (.getfield 15, 3) := by decide +kernel
theorem d_Tape_add_11 : decode prog_8_method_2_code 11 = .ok (.aload_n 0, 1) := by decide +kernel
theorem d_Tape_add_12 : decode prog_8_method_2_code 12 = .ok (.getfield 9, 3) := by decide +kernel
theorem d_Tape_add_15 : decode prog_8_method_2_code 15 = .ok (.arraylength, 1) := by decide +kernel
theorem d_Tape_add_16 : decode prog_8_method_2_code 16 = .ok (.if_icmp .ge 35, 3) := by decide +kernel
theorem d_Tape_add_19 : decode prog_8_method_2_code 19 = .ok (.aload_n 0, 1) := by decide +kernel
theorem d_Tape_add_20 : decode prog_8_method_2_code 20 = .ok (.getfield 9, 3) := by decide +kernel
theorem d_Tape_add_23 : decode prog_8_method_2_code 23 = .ok (.aload_n 0, 1) := by decide +kernel
theorem d_Tape_add_24 : decode prog_8_method_2_code 24 = .ok (.getfield 15, 3) := by decide +kernel
theorem d_Tape_add_27 : decode prog_8_method_2_code 27 = .ok (.iload_n 1, 1) := by decide +kernel
theorem d_Tape_add_28 : decode prog_8_method_2_code 28 = .ok (.iload_n 2, 1) := by decide +kernel
theorem d_Tape_add_29 : decode prog_8_method_2_code 29 = .ok (.ishr, 1) := by decide +kernel
theorem d_Tape_add_30 : decode prog_8_method_2_code 30 = .ok (.sipush 255, 3) := by decide +kernel
theorem d_Tape_add_33 : decode prog_8_method_2_code 33 = .ok (.iand, 1) := by decide +kernel
theorem d_Tape_add_34 : decode prog_8_method_2_code 34 = .ok (.iastore, 1) := by decide +kernel
theorem d_Tape_add_35 : decode prog_8_method_2_code 35 = .ok (.aload_n 0, 1) := by decide +kernel
theorem d_Tape_add_36 : decode prog_8_method_2_code 36 = .ok (.dup, 1) := by decide +kernel
theorem d_Tape_add_37 : decode prog_8_method_2_code 37 = .ok (.getfield 15, 3) := by decide +kernel
theorem d_Tape_add_40 : decode prog_8_method_2_code 40 = .ok (.iconst 1, 1) := by decide +kernel
theorem d_Tape_add_41 : decode prog_8_method_2_code 41 = .ok (.iadd, 1) := by decide +kernel
theorem d_Tape_add_42 : decode prog_8_method_2_code 42 = .ok (.putfield 15, 3) := by decide +kernel
theorem d_Tape_add_45 : decode prog_8_method_2_code 45 = .ok (.iinc 2 (-8), 3) := by decide +kernel
theorem d_Tape_add_48 : decode prog_8_method_2_code 48 = .ok (.goto (-45), 3) := by decide +kernel
theorem d_Tape_add_51 : decode prog_8_method_2_code 51 = .ok (.return_, 1) := by decide +kernel
theorem d_BH_feed_0 : decode prog_1_method_2_code 0 = .ok (.aload_n 0, 1) := by decide +kernel
theorem d_BH_feed_1 : decode prog_1_method_2_code 1 = .ok (.getfield 10, 3) := by decide +kernel
theorem d_BH_feed_4 : decode prog_1_method_2_code 4 = .ok (.getfield 68, 3) := by decide +kernel
theorem d_BH_feed_7 : decode prog_1_method_2_code 7 = .ok (.bipush 20, 2) := by decide +kernel
theorem d_BH_feed_9 : decode prog_1_method_2_code 9 = .ok (.iadd, 1) := by decide +kernel
theorem d_BH_feed_10 : decode prog_1_method_2_code 10 = .ok (.sipush 1600, 3) := by decide +kernel
theorem d_BH_feed_13 : decode prog_1_method_2_code 13 = .ok (.if_icmp .le 15, 3) := by decide +kernel
theorem d_BH_feed_16 : decode prog_1_method_2_code 16 = .ok (.aload_n 0, 1) := by decide +kernel
theorem d_BH_feed_17 : decode prog_1_method_2_code 17 = .ok (.getfield 65, 3) := by decide +kernel
theorem d_BH_feed_20 : decode prog_1_method_2_code 20 = .ok (.iconst 0, 1) := by decide +kernel
theorem d_BH_feed_21 : decode prog_1_method_2_code 21 = .ok (.dup2, 1) := by decide +kernel
theorem d_BH_feed_22 : decode prog_1_method_2_code 22 = .ok (.iaload, 1) := by decide +kernel
theorem d_BH_feed_23 : decode prog_1_method_2_code 23 = .ok (.iconst 1, 1) := by decide +kernel
theorem d_BH_feed_24 : decode prog_1_method_2_code 24 = .ok (.iadd, 1) := by decide +kernel
theorem d_BH_feed_25 : decode prog_1_method_2_code 25 = .ok (.iastore, 1) := by decide +kernel
theorem d_BH_feed_26 : decode prog_1_method_2_code 26 = .ok (.iconst (-1), 1) := by decide +kernel
theorem d_BH_feed_27 : decode prog_1_method_2_code 27 = .ok (.ireturn, 1) := by decide +kernel
theorem d_BH_feed_28 : decode prog_1_method_2_code 28 = .ok (.aload_n 0, 1) := by decide +kernel
theorem d_BH_feed_29 : decode prog_1_method_2_code 29 = .ok (.getfield 10, 3) := by decide +kernel
theorem d_BH_feed_32 : decode prog_1_method_2_code 32 = .ok (.iload_n 1, 1) := by decide +kernel
theorem d_BH_feed_33 : decode prog_1_method_2_code 33 = .ok (.invokevirtual 72, 3) := by decide +kernel
theorem d_BH_feed_36 : decode prog_1_method_2_code 36 = .ok (.aload_n 0, 1) := by decide +kernel
theorem d_BH_feed_37 : decode prog_1_method_2_code 37 = .ok (.getfield 10, 3) := by decide +kernel
theorem d_BH_feed_40 : decode prog_1_method_2_code 40 = .ok (.iload_n 2, 1) := by decide +kernel
theorem d_BH_feed_41 : decode prog_1_method_2_code 41 = .ok (.invokevirtual 72, 3) := by decide +kernel
theorem d_BH_feed_44 : decode prog_1_method_2_code 44 = .ok (.aload_n 0, 1) := by decide +kernel
theorem d_BH_feed_45 : decode prog_1_method_2_code 45 = .ok (.getfield 10, 3) := by decide +kernel
theorem d_BH_feed_48 : decode prog_1_method_2_code 48 = .ok (.iload_n 3, 1) := by decide +kernel
theorem d_BH_feed_49 : decode prog_1_method_2_code 49 = .ok (.invokevirtual 72, 3) := by decide +kernel
theorem d_BH_feed_52 : decode prog_1_method_2_code 52 = .ok (.aload_n 0, 1) := by decide +kernel
theorem d_BH_feed_53 : decode prog_1_method_2_code 53 = .ok (.getfield 10, 3) := by decide +kernel
theorem d_BH_feed_56 : decode prog_1_method_2_code 56 = .ok (.iload 4, 2) := by decide +kernel
theorem d_BH_feed_58 : decode prog_1_method_2_code 58 = .ok (.invokevirtual 72, 3) := by decide +kernel
theorem d_BH_feed_61 : decode prog_1_method_2_code 61 = .ok (.aload_n 0, 1) := by decide +kernel
theorem d_BH_feed_62 : decode prog_1_method_2_code 62 = .ok (.getfield 10, 3) := by decide +kernel
theorem d_BH_feed_65 : decode prog_1_method_2_code 65 = .ok (.iload 5, 2) := by decide +kernel
theorem d_BH_feed_67 : decode prog_1_method_2_code 67 = .ok (.invokevirtual 72, 3) := by decide +kernel
theorem d_BH_feed_70 : decode prog_1_method_2_code 70 = .ok (.aload_n 0, 1) := by decide +kernel
theorem d_BH_feed_71 : decode prog_1_method_2_code 71 = .ok (.getfield 10, 3) := by decide +kernel
theorem d_BH_feed_74 : decode prog_1_method_2_code 74 = .ok (.getfield 68, 3) := by decide +kernel
theorem d_BH_feed_77 : decode prog_1_method_2_code 77 = .ok (.ireturn, 1) := by decide +kernel
theorem d_BH_end_0 : decode prog_1_method_3_code 0 = .ok (.iload_n 1, 1) := by decide +kernel
theorem d_BH_end_1 : decode prog_1_method_3_code 1 = .ok (.ifCond .lt 14, 3) := by decide +kernel
theorem d_BH_end_4 : decode prog_1_method_3_code 4 = .ok (.iload_n 1, 1) := by decide +kernel
theorem d_BH_end_5 : decode prog_1_method_3_code 5 = .ok (.aload_n 0, 1) := by decide +kernel
theorem d_BH_end_6 : decode prog_1_method_3_code 6 = .ok (.getfield 10, 3) := by decide +kernel
theorem d_BH_end_9 : decode prog_1_method_3_code 9 = .ok (.getfield 68, 3) := by decide +kernel
theorem d_BH_end_12 : decode prog_1_method_3_code 12 = .ok (.if_icmp .le 15, 3) := by decide +kernel
theorem d_BH_end_15 : decode prog_1_method_3_code 15 = .ok (.aload_n 0, 1) := by decide +kernel
theorem d_BH_end_16 : decode prog_1_method_3_code 16 = .ok (.getfield 65, 3) := by decide +kernel
theorem d_BH_end_19 : decode prog_1_method_3_code 19 = .ok (.iconst 0, 1) := by decide +kernel
theorem d_BH_end_20 : decode prog_1_method_3_code 20 = .ok (.dup2, 1) := by decide +kernel
theorem d_BH_end_21 : decode prog_1_method_3_code 21 = .ok (.iaload, 1) := by decide +kernel
theorem d_BH_end_22 : decode prog_1_method_3_code 22 = .ok (.iconst 1, 1) := by decide +kernel
theorem d_BH_end_23 : decode prog_1_method_3_code 23 = .ok (.iadd, 1) := by decide +kernel
theorem d_BH_end_24 : decode prog_1_method_3_code 24 = .ok (.iastore, 1) := by decide +kernel
theorem d_BH_end_25 : decode prog_1_method_3_code 25 = .ok (.iconst 0, 1) := by decide +kernel
theorem d_BH_end_26 : decode prog_1_method_3_code 26 = .ok (.ireturn, 1) := by decide +kernel
theorem d_BH_end_27 : decode prog_1_method_3_code 27 = .ok (.aload_n 0, 1) := by decide +kernel
theorem d_BH_end_28 : decode prog_1_method_3_code 28 = .ok (.getfield 10, 3) := by decide +kernel
theorem d_BH_end_31 : decode prog_1_method_3_code 31 = .ok (.iload_n 1, 1) := by decide +kernel
theorem d_BH_end_32 : decode prog_1_method_3_code 32 = .ok (.putfield 68, 3) := by decide +kernel
theorem d_BH_end_35 : decode prog_1_method_3_code 35 = .ok (.iconst 1, 1) := by decide +kernel
theorem d_BH_end_36 : decode prog_1_method_3_code 36 = .ok (.ireturn, 1) := by decide +kernel
theorem d_Fair_forget_0 : decode prog_3_method_2_code 0 = .ok (.getstatic 36, 3) := by decide +kernel
theorem d_Fair_forget_3 : decode prog_3_method_2_code 3 = .ok (.iconst 0, 1) := by decide +kernel
theorem d_Fair_forget_4 : decode prog_3_method_2_code 4 = .ok (.aload_n 0, 1) := by decide +kernel
theorem d_Fair_forget_5 : decode prog_3_method_2_code 5 = .ok (.getfield 24, 3) := by decide +kernel
theorem d_Fair_forget_8 : decode prog_3_method_2_code 8 = .ok (.iconst 0, 1) := by decide +kernel
theorem d_Fair_forget_9 : decode prog_3_method_2_code 9 = .ok (.bipush 9, 2) := by decide +kernel
theorem d_Fair_forget_11 : decode prog_3_method_2_code 11 = .ok (.invokestatic 39, 3) := by decide +kernel
theorem d_Fair_forget_14 : decode prog_3_method_2_code 14 = .ok (.aload_n 0, 1) := by decide +kernel
theorem d_Fair_forget_15 : decode prog_3_method_2_code 15 = .ok (.iconst 0, 1) := by decide +kernel
theorem d_Fair_forget_16 : decode prog_3_method_2_code 16 = .ok (.putfield 45, 3) := by decide +kernel
theorem d_Fair_forget_19 : decode prog_3_method_2_code 19 = .ok (.aload_n 0, 1) := by decide +kernel
theorem d_Fair_forget_20 : decode prog_3_method_2_code 20 = .ok (.iconst 0, 1) := by decide +kernel
theorem d_Fair_forget_21 : decode prog_3_method_2_code 21 = .ok (.putfield 49, 3) := by decide +kernel
theorem d_Fair_forget_24 : decode prog_3_method_2_code 24 = .ok (.aload_n 0, 1) := by decide +kernel
theorem d_Fair_forget_25 : decode prog_3_method_2_code 25 = .ok (.iconst 0, 1) := by decide +kernel
theorem d_Fair_forget_26 : decode prog_3_method_2_code 26 = .ok (.putfield 52, 3) := by decide +kernel
theorem d_Fair_forget_29 : decode prog_3_method_2_code 29 = .ok (.aload_n 0, 1) := by decide +kernel
theorem d_Fair_forget_30 : decode prog_3_method_2_code 30 = .ok (.iconst 0, 1) := by decide +kernel
theorem d_Fair_forget_31 : decode prog_3_method_2_code 31 = .ok (.putfield 55, 3) := by decide +kernel
theorem d_Fair_forget_34 : decode prog_3_method_2_code 34 = .ok (.aload_n 0, 1) := by decide +kernel
theorem d_Fair_forget_35 : decode prog_3_method_2_code 35 = .ok (.iconst 0, 1) := by decide +kernel
theorem d_Fair_forget_36 : decode prog_3_method_2_code 36 = .ok (.putfield 58, 3) := by decide +kernel
theorem d_Fair_forget_39 : decode prog_3_method_2_code 39 = .ok (.return_, 1) := by decide +kernel
theorem d_Reader_readNumber_0 : decode prog_6_method_5_code 0 = .ok (.aload_n 0, 1) := by decide +kernel
theorem d_Reader_readNumber_1 : decode prog_6_method_5_code 1 = .ok (.getfield 41, 3) := by decide +kernel
theorem d_Reader_readNumber_4 : decode prog_6_method_5_code 4 = .ok (.aload_n 0, 1) := by decide +kernel
theorem d_Reader_readNumber_5 : decode prog_6_method_5_code 5 = .ok (.getfield 38, 3) := by decide +kernel
theorem d_Reader_readNumber_8 : decode prog_6_method_5_code 8 = .ok (.if_icmp .ge 86, 3) := by decide +kernel
theorem d_Reader_readNumber_11 : decode prog_6_method_5_code 11 = .ok (.aload_n 0, 1) := by decide +kernel
theorem d_Reader_readNumber_12 : decode prog_6_method_5_code 12 = .ok (.getfield 17, 3) := by decide +kernel
theorem d_Reader_readNumber_15 : decode prog_6_method_5_code 15 = .ok (.aload_n 0, 1) := by decide +kernel
theorem d_Reader_readNumber_16 : decode prog_6_method_5_code 16 = .ok (.getfield 41, 3) := by decide +kernel
theorem d_Reader_readNumber_19 : decode prog_6_method_5_code 19 = .ok (.iaload, 1) := by decide +kernel
theorem d_Reader_readNumber_20 : decode prog_6_method_5_code 20 = .ok (.bipush 48, 2) := by decide +kernel
theorem d_Reader_readNumber_22 : decode prog_6_method_5_code 22 = .ok (.if_icmp .lt 72, 3) := by decide +kernel
theorem d_Reader_readNumber_25 : decode prog_6_method_5_code 25 = .ok (.aload_n 0, 1) := by decide +kernel
theorem d_Reader_readNumber_26 : decode prog_6_method_5_code 26 = .ok (.getfield 17, 3) := by decide +kernel
theorem d_Reader_readNumber_29 : decode prog_6_method_5_code 29 = .ok (.aload_n 0, 1) := by decide +kernel
theorem d_Reader_readNumber_30 : decode prog_6_method_5_code 30 = .ok (.getfield 41, 3) := by decide +kernel
theorem d_Reader_readNumber_33 : decode prog_6_method_5_code 33 = .ok (.iaload, 1) := by decide +kernel
theorem d_Reader_readNumber_34 : decode prog_6_method_5_code 34 = .ok (.bipush 57, 2) := by decide +kernel
theorem d_Reader_readNumber_36 : decode prog_6_method_5_code 36 = .ok (.if_icmp .gt 58, 3) := by decide +kernel
theorem d_Reader_readNumber_39 : decode prog_6_method_5_code 39 = .ok (.aload_n 0, 1) := by decide +kernel
theorem d_Reader_readNumber_40 : decode prog_6_method_5_code 40 = .ok (.getfield 53, 3) := by decide +kernel
theorem d_Reader_readNumber_43 : decode prog_6_method_5_code 43 = .ok (.iconst 4, 1) := by decide +kernel
theorem d_Reader_readNumber_44 : decode prog_6_method_5_code 44 = .ok (.if_icmp .ge 27, 3) := by decide +kernel
theorem d_Reader_readNumber_47 : decode prog_6_method_5_code 47 = .ok (.aload_n 0, 1) := by decide +kernel
theorem d_Reader_readNumber_48 : decode prog_6_method_5_code 48 = .ok (.aload_n 0, 1) := by decide +kernel
theorem d_Reader_readNumber_49 : decode prog_6_method_5_code 49 = .ok (.getfield 56, 3) := by decide +kernel
theorem d_Reader_readNumber_52 : decode prog_6_method_5_code 52 = .ok (.bipush 10, 2) := by decide +kernel
theorem d_Reader_readNumber_54 : decode prog_6_method_5_code 54 = .ok (.imul, 1) := by decide +kernel
theorem d_Reader_readNumber_55 : decode prog_6_method_5_code 55 = .ok (.aload_n 0, 1) := by decide +kernel
theorem d_Reader_readNumber_56 : decode prog_6_method_5_code 56 = .ok (.getfield 17, 3) := by decide +kernel
theorem d_Reader_readNumber_59 : decode prog_6_method_5_code 59 = .ok (.aload_n 0, 1) := by decide +kernel
theorem d_Reader_readNumber_60 : decode prog_6_method_5_code 60 = .ok (.getfield 41, 3) := by decide +kernel
theorem d_Reader_readNumber_63 : decode prog_6_method_5_code 63 = .ok (.iaload, 1) := by decide +kernel
theorem d_Reader_readNumber_64 : decode prog_6_method_5_code 64 = .ok (.iadd, 1) := by decide +kernel
theorem d_Reader_readNumber_65 : decode prog_6_method_5_code 65 = .ok (.bipush 48, 2) := by decide +kernel
theorem d_Reader_readNumber_67 : decode prog_6_method_5_code 67 = .ok (.isub, 1) := by decide +kernel
theorem d_Reader_readNumber_68 : decode prog_6_method_5_code 68 = .ok (.putfield 56, 3) := by decide +kernel
theorem d_Reader_readNumber_71 : decode prog_6_method_5_code 71 = .ok (.aload_n 0, 1) := by decide +kernel
theorem d_Reader_readNumber_72 : decode prog_6_method_5_code 72 = .ok (.dup, 1) := by decide +kernel
theorem d_Reader_readNumber_73 : decode prog_6_method_5_code 73 = .ok (.getfield 53, 3) := by decide +kernel
theorem d_Reader_readNumber_76 : decode prog_6_method_5_code 76 = .ok (.iconst 1, 1) := by decide +kernel
theorem d_Reader_readNumber_77 : decode prog_6_method_5_code 77 = .ok (.iadd, 1) := by decide +kernel
theorem d_Reader_readNumber_78 : decode prog_6_method_5_code 78 = .ok (.putfield 53, 3) := by decide +kernel
theorem d_Reader_readNumber_81 : decode prog_6_method_5_code 81 = .ok (.aload_n 0, 1) := by decide +kernel
theorem d_Reader_readNumber_82 : decode prog_6_method_5_code 82 = .ok (.dup, 1) := by decide +kernel
theorem d_Reader_readNumber_83 : decode prog_6_method_5_code 83 = .ok (.getfield 41, 3) := by decide +kernel
theorem d_Reader_readNumber_86 : decode prog_6_method_5_code 86 = .ok (.iconst 1, 1) := by decide +kernel
theorem d_Reader_readNumber_87 : decode prog_6_method_5_code 87 = .ok (.iadd, 1) := by decide +kernel
theorem d_Reader_readNumber_88 : decode prog_6_method_5_code 88 = .ok (.putfield 41, 3) := by decide +kernel
theorem d_Reader_readNumber_91 : decode prog_6_method_5_code 91 = .ok (.goto (-91), 3) := by decide +kernel
theorem d_Reader_readNumber_94 : decode prog_6_method_5_code 94 = .ok (.return_, 1) := by decide +kernel
theorem d_Reader_readWord_0 : decode prog_6_method_4_code 0 = .ok (.aload_n 0, 1) := by decide +kernel
theorem d_Reader_readWord_1 : decode prog_6_method_4_code 1 = .ok (.getfield 41, 3) := by decide +kernel
theorem d_Reader_readWord_4 : decode prog_6_method_4_code 4 = .ok (.aload_n 0, 1) := by decide +kernel
theorem d_Reader_readWord_5 : decode prog_6_method_4_code 5 = .ok (.getfield 38, 3) := by decide +kernel
theorem d_Reader_readWord_8 : decode prog_6_method_4_code 8 = .ok (.if_icmp .ge 89, 3) := by decide +kernel
theorem d_Reader_readWord_11 : decode prog_6_method_4_code 11 = .ok (.aload_n 0, 1) := by decide +kernel
theorem d_Reader_readWord_12 : decode prog_6_method_4_code 12 = .ok (.getfield 17, 3) := by decide +kernel
theorem d_Reader_readWord_15 : decode prog_6_method_4_code 15 = .ok (.aload_n 0, 1) := by decide +kernel
theorem d_Reader_readWord_16 : decode prog_6_method_4_code 16 = .ok (.getfield 41, 3) := by decide +kernel
theorem d_Reader_readWord_19 : decode prog_6_method_4_code 19 = .ok (.iaload, 1) := by decide +kernel
theorem d_Reader_readWord_20 : decode prog_6_method_4_code 20 = .ok (.bipush 97, 2) := by decide +kernel
theorem d_Reader_readWord_22 : decode prog_6_method_4_code 22 = .ok (.if_icmp .lt 75, 3) := by decide +kernel
theorem d_Reader_readWord_25 : decode prog_6_method_4_code 25 = .ok (.aload_n 0, 1) := by decide +kernel
theorem d_Reader_readWord_26 : decode prog_6_method_4_code 26 = .ok (.getfield 17, 3) := by decide +kernel
theorem d_Reader_readWord_29 : decode prog_6_method_4_code 29 = .ok (.aload_n 0, 1) := by decide +kernel
theorem d_Reader_readWord_30 : decode prog_6_method_4_code 30 = .ok (.getfield 41, 3) := by decide +kernel
theorem d_Reader_readWord_33 : decode prog_6_method_4_code 33 = .ok (.iaload, 1) := by decide +kernel
theorem d_Reader_readWord_34 : decode prog_6_method_4_code 34 = .ok (.bipush 122, 2) := by decide +kernel
theorem d_Reader_readWord_36 : decode prog_6_method_4_code 36 = .ok (.if_icmp .gt 61, 3) := by decide +kernel
theorem d_Reader_readWord_39 : decode prog_6_method_4_code 39 = .ok (.aload_n 0, 1) := by decide +kernel
theorem d_Reader_readWord_40 : decode prog_6_method_4_code 40 = .ok (.getfield 53, 3) := by decide +kernel
theorem d_Reader_readWord_43 : decode prog_6_method_4_code 43 = .ok (.bipush 6, 2) := by decide +kernel
theorem d_Reader_readWord_45 : decode prog_6_method_4_code 45 = .ok (.if_icmp .ge 29, 3) := by decide +kernel
theorem d_Reader_readWord_48 : decode prog_6_method_4_code 48 = .ok (.aload_n 0, 1) := by decide +kernel
theorem d_Reader_readWord_49 : decode prog_6_method_4_code 49 = .ok (.aload_n 0, 1) := by decide +kernel
theorem d_Reader_readWord_50 : decode prog_6_method_4_code 50 = .ok (.getfield 56, 3) := by decide +kernel
theorem d_Reader_readWord_53 : decode prog_6_method_4_code 53 = .ok (.bipush 27, 2) := by decide +kernel
theorem d_Reader_readWord_55 : decode prog_6_method_4_code 55 = .ok (.imul, 1) := by decide +kernel
theorem d_Reader_readWord_56 : decode prog_6_method_4_code 56 = .ok (.aload_n 0, 1) := by decide +kernel
theorem d_Reader_readWord_57 : decode prog_6_method_4_code 57 = .ok (.getfield 17, 3) := by decide +kernel
theorem d_Reader_readWord_60 : decode prog_6_method_4_code 60 = .ok (.aload_n 0, 1) := by decide +kernel
theorem d_Reader_readWord_61 : decode prog_6_method_4_code 61 = .ok (.getfield 41, 3) := by decide +kernel
theorem d_Reader_readWord_64 : decode prog_6_method_4_code 64 = .ok (.iaload, 1) := by decide +kernel
theorem d_Reader_readWord_65 : decode prog_6_method_4_code 65 = .ok (.iadd, 1) := by decide +kernel
theorem d_Reader_readWord_66 : decode prog_6_method_4_code 66 = .ok (.bipush 97, 2) := by decide +kernel
theorem d_Reader_readWord_68 : decode prog_6_method_4_code 68 = .ok (.isub, 1) := by decide +kernel
theorem d_Reader_readWord_69 : decode prog_6_method_4_code 69 = .ok (.iconst 1, 1) := by decide +kernel
theorem d_Reader_readWord_70 : decode prog_6_method_4_code 70 = .ok (.iadd, 1) := by decide +kernel
theorem d_Reader_readWord_71 : decode prog_6_method_4_code 71 = .ok (.putfield 56, 3) := by decide +kernel
theorem d_Reader_readWord_74 : decode prog_6_method_4_code 74 = .ok (.aload_n 0, 1) := by decide +kernel
theorem d_Reader_readWord_75 : decode prog_6_method_4_code 75 = .ok (.dup, 1) := by decide +kernel
theorem d_Reader_readWord_76 : decode prog_6_method_4_code 76 = .ok (.getfield 53, 3) := by decide +kernel
theorem d_Reader_readWord_79 : decode prog_6_method_4_code 79 = .ok (.iconst 1, 1) := by decide +kernel
theorem d_Reader_readWord_80 : decode prog_6_method_4_code 80 = .ok (.iadd, 1) := by decide +kernel
theorem d_Reader_readWord_81 : decode prog_6_method_4_code 81 = .ok (.putfield 53, 3) := by decide +kernel
theorem d_Reader_readWord_84 : decode prog_6_method_4_code 84 = .ok (.aload_n 0, 1) := by decide +kernel
theorem d_Reader_readWord_85 : decode prog_6_method_4_code 85 = .ok (.dup, 1) := by decide +kernel
theorem d_Reader_readWord_86 : decode prog_6_method_4_code 86 = .ok (.getfield 41, 3) := by decide +kernel
theorem d_Reader_readWord_89 : decode prog_6_method_4_code 89 = .ok (.iconst 1, 1) := by decide +kernel
theorem d_Reader_readWord_90 : decode prog_6_method_4_code 90 = .ok (.iadd, 1) := by decide +kernel
theorem d_Reader_readWord_91 : decode prog_6_method_4_code 91 = .ok (.putfield 41, 3) := by decide +kernel
theorem d_Reader_readWord_94 : decode prog_6_method_4_code 94 = .ok (.goto (-94), 3) := by decide +kernel
theorem d_Reader_readWord_97 : decode prog_6_method_4_code 97 = .ok (.aload_n 0, 1) := by decide +kernel
theorem d_Reader_readWord_98 : decode prog_6_method_4_code 98 = .ok (.getfield 53, 3) := by decide +kernel
theorem d_Reader_readWord_101 : decode prog_6_method_4_code 101 = .ok (.istore_n 1, 1) := by decide +kernel
theorem d_Reader_readWord_102 : decode prog_6_method_4_code 102 = .ok (.iload_n 1, 1) := by decide +kernel
theorem d_Reader_readWord_103 : decode prog_6_method_4_code 103 = .ok (.bipush 6, 2) := by decide +kernel
theorem d_Reader_readWord_105 : decode prog_6_method_4_code 105 = .ok (.if_icmp .ge 20, 3) := by decide +kernel
theorem d_Reader_readWord_108 : decode prog_6_method_4_code 108 = .ok (.aload_n 0, 1) := by decide +kernel
theorem d_Reader_readWord_109 : decode prog_6_method_4_code 109 = .ok (.dup, 1) := by decide +kernel
theorem d_Reader_readWord_110 : decode prog_6_method_4_code 110 = .ok (.getfield 56, 3) := by decide +kernel
theorem d_Reader_readWord_113 : decode prog_6_method_4_code 113 = .ok (.bipush 27, 2) := by decide +kernel
theorem d_Reader_readWord_115 : decode prog_6_method_4_code 115 = .ok (.imul, 1) := by decide +kernel
theorem d_Reader_readWord_116 : decode prog_6_method_4_code 116 = .ok (.putfield 56, 3) := by decide +kernel
theorem d_Reader_readWord_119 : decode prog_6_method_4_code 119 = .ok (.iinc 1 1, 3) := by decide +kernel
theorem d_Reader_readWord_122 : decode prog_6_method_4_code 122 = .ok (.goto (-20), 3) := by decide +kernel
theorem d_Reader_readWord_125 : decode prog_6_method_4_code 125 = .ok (.return_, 1) := by decide +kernel
theorem d_Reader_kindOf_0 : decode prog_6_method_6_code 0 = .ok (.iload_n 0, 1) := by decide +kernel
theorem d_Reader_kindOf_1 : decode prog_6_method_6_code 1 = .ok (.bipush 97, 2) := by decide +kernel
theorem d_Reader_kindOf_3 : decode prog_6_method_6_code 3 = .ok (.if_icmp .lt 11, 3) := by decide +kernel
theorem d_Reader_kindOf_6 : decode prog_6_method_6_code 6 = .ok (.iload_n 0, 1) := by decide +kernel
theorem d_Reader_kindOf_7 : decode prog_6_method_6_code 7 = .ok (.bipush 122, 2) := by decide +kernel
theorem d_Reader_kindOf_9 : decode prog_6_method_6_code 9 = .ok (.if_icmp .gt 5, 3) := by decide +kernel
theorem d_Reader_kindOf_12 : decode prog_6_method_6_code 12 = .ok (.iconst 1, 1) := by decide +kernel
theorem d_Reader_kindOf_13 : decode prog_6_method_6_code 13 = .ok (.ireturn, 1) := by decide +kernel
theorem d_Reader_kindOf_14 : decode prog_6_method_6_code 14 = .ok (.iload_n 0, 1) := by decide +kernel
theorem d_Reader_kindOf_15 : decode prog_6_method_6_code 15 = .ok (.bipush 48, 2) := by decide +kernel
theorem d_Reader_kindOf_17 : decode prog_6_method_6_code 17 = .ok (.if_icmp .lt 13, 3) := by decide +kernel
theorem d_Reader_kindOf_20 : decode prog_6_method_6_code 20 = .ok (.iload_n 0, 1) := by decide +kernel
theorem d_Reader_kindOf_21 : decode prog_6_method_6_code 21 = .ok (.bipush 57, 2) := by decide +kernel
theorem d_Reader_kindOf_23 : decode prog_6_method_6_code 23 = .ok (.if_icmp .gt 7, 3) := by decide +kernel
theorem d_Reader_kindOf_26 : decode prog_6_method_6_code 26 = .ok (.iconst 2, 1) := by decide +kernel
theorem d_Reader_kindOf_27 : decode prog_6_method_6_code 27 = .ok (.goto 4, 3) := by decide +kernel
theorem d_Reader_kindOf_30 : decode prog_6_method_6_code 30 = .ok (.iconst 3, 1) := by decide +kernel
theorem d_Reader_kindOf_31 : decode prog_6_method_6_code 31 = .ok (.ireturn, 1) := by decide +kernel
theorem d_Reader_step_0 : decode prog_6_method_3_code 0 = .ok (.aload_n 0, 1) := by decide +kernel
theorem d_Reader_step_1 : decode prog_6_method_3_code 1 = .ok (.getfield 41, 3) := by decide +kernel
theorem d_Reader_step_4 : decode prog_6_method_3_code 4 = .ok (.istore_n 1, 1) := by decide +kernel
theorem d_Reader_step_5 : decode prog_6_method_3_code 5 = .ok (.aload_n 0, 1) := by decide +kernel
theorem d_Reader_step_6 : decode prog_6_method_3_code 6 = .ok (.getfield 44, 3) := by decide +kernel
theorem d_Reader_step_9 : decode prog_6_method_3_code 9 = .ok (.iconst 1, 1) := by decide +kernel
theorem d_Reader_step_10 : decode prog_6_method_3_code 10 = .ok (.if_icmp .eq 11, 3) := by decide +kernel
theorem d_Reader_step_13 : decode prog_6_method_3_code 13 = .ok (.aload_n 0, 1) := by decide +kernel
theorem d_Reader_step_14 : decode prog_6_method_3_code 14 = .ok (.getfield 44, 3) := by decide +kernel
theorem d_Reader_step_17 : decode prog_6_method_3_code 17 = .ok (.iconst 2, 1) := by decide +kernel
theorem d_Reader_step_18 : decode prog_6_method_3_code 18 = .ok (.if_icmp .ne 7, 3) := by decide +kernel
theorem d_Reader_step_21 : decode prog_6_method_3_code 21 = .ok (.iconst 1, 1) := by decide +kernel
theorem d_Reader_step_22 : decode prog_6_method_3_code 22 = .ok (.goto 4, 3) := by decide +kernel
theorem d_Reader_step_25 : decode prog_6_method_3_code 25 = .ok (.iconst 0, 1) := by decide +kernel
theorem d_Reader_step_26 : decode prog_6_method_3_code 26 = .ok (.istore_n 2, 1) := by decide +kernel
theorem d_Reader_step_27 : decode prog_6_method_3_code 27 = .ok (.aload_n 0, 1) := by decide +kernel
theorem d_Reader_step_28 : decode prog_6_method_3_code 28 = .ok (.getfield 41, 3) := by decide +kernel
theorem d_Reader_step_31 : decode prog_6_method_3_code 31 = .ok (.aload_n 0, 1) := by decide +kernel
theorem d_Reader_step_32 : decode prog_6_method_3_code 32 = .ok (.getfield 38, 3) := by decide +kernel
theorem d_Reader_step_35 : decode prog_6_method_3_code 35 = .ok (.if_icmp .ge 44, 3) := by decide +kernel
theorem d_Reader_step_38 : decode prog_6_method_3_code 38 = .ok (.aload_n 0, 1) := by decide +kernel
theorem d_Reader_step_39 : decode prog_6_method_3_code 39 = .ok (.getfield 17, 3) := by decide +kernel
theorem d_Reader_step_42 : decode prog_6_method_3_code 42 = .ok (.aload_n 0, 1) := by decide +kernel
theorem d_Reader_step_43 : decode prog_6_method_3_code 43 = .ok (.getfield 41, 3) := by decide +kernel
theorem d_Reader_step_46 : decode prog_6_method_3_code 46 = .ok (.iaload, 1) := by decide +kernel
theorem d_Reader_step_47 : decode prog_6_method_3_code 47 = .ok (.bipush 10, 2) := by decide +kernel
theorem d_Reader_step_49 : decode prog_6_method_3_code 49 = .ok (.if_icmp .eq 17, 3) := by decide +kernel
theorem d_Reader_step_52 : decode prog_6_method_3_code 52 = .ok (.aload_n 0, 1) := by decide +kernel
theorem d_Reader_step_53 : decode prog_6_method_3_code 53 = .ok (.getfield 17, 3) := by decide +kernel
theorem d_Reader_step_56 : decode prog_6_method_3_code 56 = .ok (.aload_n 0, 1) := by decide +kernel
theorem d_Reader_step_57 : decode prog_6_method_3_code 57 = .ok (.getfield 41, 3) := by decide +kernel
theorem d_Reader_step_60 : decode prog_6_method_3_code 60 = .ok (.iaload, 1) := by decide +kernel
theorem d_Reader_step_61 : decode prog_6_method_3_code 61 = .ok (.bipush 32, 2) := by decide +kernel
theorem d_Reader_step_63 : decode prog_6_method_3_code 63 = .ok (.if_icmp .ne 16, 3) := by decide +kernel
theorem d_Reader_step_66 : decode prog_6_method_3_code 66 = .ok (.aload_n 0, 1) := by decide +kernel
theorem d_Reader_step_67 : decode prog_6_method_3_code 67 = .ok (.dup, 1) := by decide +kernel
theorem d_Reader_step_68 : decode prog_6_method_3_code 68 = .ok (.getfield 41, 3) := by decide +kernel
theorem d_Reader_step_71 : decode prog_6_method_3_code 71 = .ok (.iconst 1, 1) := by decide +kernel
theorem d_Reader_step_72 : decode prog_6_method_3_code 72 = .ok (.iadd, 1) := by decide +kernel
theorem d_Reader_step_73 : decode prog_6_method_3_code 73 = .ok (.putfield 41, 3) := by decide +kernel
theorem d_Reader_step_76 : decode prog_6_method_3_code 76 = .ok (.goto (-49), 3) := by decide +kernel
theorem d_Reader_step_79 : decode prog_6_method_3_code 79 = .ok (.aload_n 0, 1) := by decide +kernel
theorem d_Reader_step_80 : decode prog_6_method_3_code 80 = .ok (.aload_n 0, 1) := by decide +kernel
theorem d_Reader_step_81 : decode prog_6_method_3_code 81 = .ok (.getfield 41, 3) := by decide +kernel
theorem d_Reader_step_84 : decode prog_6_method_3_code 84 = .ok (.putfield 50, 3) := by decide +kernel
theorem d_Reader_step_87 : decode prog_6_method_3_code 87 = .ok (.aload_n 0, 1) := by decide +kernel
theorem d_Reader_step_88 : decode prog_6_method_3_code 88 = .ok (.iconst 0, 1) := by decide +kernel
theorem d_Reader_step_89 : decode prog_6_method_3_code 89 = .ok (.putfield 53, 3) := by decide +kernel
theorem d_Reader_step_92 : decode prog_6_method_3_code 92 = .ok (.aload_n 0, 1) := by decide +kernel
theorem d_Reader_step_93 : decode prog_6_method_3_code 93 = .ok (.iconst 0, 1) := by decide +kernel
theorem d_Reader_step_94 : decode prog_6_method_3_code 94 = .ok (.putfield 56, 3) := by decide +kernel
theorem d_Reader_step_97 : decode prog_6_method_3_code 97 = .ok (.aload_n 0, 1) := by decide +kernel
theorem d_Reader_step_98 : decode prog_6_method_3_code 98 = .ok (.aload_n 0, 1) := by decide +kernel
theorem d_Reader_step_99 : decode prog_6_method_3_code 99 = .ok (.getfield 41, 3) := by decide +kernel
theorem d_Reader_step_102 : decode prog_6_method_3_code 102 = .ok (.aload_n 0, 1) := by decide +kernel
theorem d_Reader_step_103 : decode prog_6_method_3_code 103 = .ok (.getfield 38, 3) := by decide +kernel
theorem d_Reader_step_106 : decode prog_6_method_3_code 106 = .ok (.if_icmp .ge 18, 3) := by decide +kernel
theorem d_Reader_step_109 : decode prog_6_method_3_code 109 = .ok (.aload_n 0, 1) := by decide +kernel
theorem d_Reader_step_110 : decode prog_6_method_3_code 110 = .ok (.getfield 17, 3) := by decide +kernel
theorem d_Reader_step_113 : decode prog_6_method_3_code 113 = .ok (.aload_n 0, 1) := by decide +kernel
theorem d_Reader_step_114 : decode prog_6_method_3_code 114 = .ok (.getfield 41, 3) := by decide +kernel
theorem d_Reader_step_117 : decode prog_6_method_3_code 117 = .ok (.iaload, 1) := by decide +kernel
theorem d_Reader_step_118 : decode prog_6_method_3_code 118 = .ok (.invokestatic 59, 3) := by decide +kernel
theorem d_Reader_step_121 : decode prog_6_method_3_code 121 = .ok (.goto 4, 3) := by decide +kernel
theorem d_Reader_step_124 : decode prog_6_method_3_code 124 = .ok (.iconst 0, 1) := by decide +kernel
theorem d_Reader_step_125 : decode prog_6_method_3_code 125 = .ok (.putfield 44, 3) := by decide +kernel
theorem d_Reader_step_128 : decode prog_6_method_3_code 128 = .ok (.aload_n 0, 1) := by decide +kernel
theorem d_Reader_step_129 : decode prog_6_method_3_code 129 = .ok (.getfield 44, 3) := by decide +kernel
theorem d_Reader_step_132 : decode prog_6_method_3_code 132 = .ok (.iconst 3, 1) := by decide +kernel
theorem d_Reader_step_133 : decode prog_6_method_3_code 133 = .ok (.if_icmp .ne 29, 3) := by decide +kernel
theorem d_Reader_step_136 : decode prog_6_method_3_code 136 = .ok (.aload_n 0, 1) := by decide +kernel
theorem d_Reader_step_137 : decode prog_6_method_3_code 137 = .ok (.aload_n 0, 1) := by decide +kernel
theorem d_Reader_step_138 : decode prog_6_method_3_code 138 = .ok (.getfield 17, 3) := by decide +kernel
theorem d_Reader_step_141 : decode prog_6_method_3_code 141 = .ok (.aload_n 0, 1) := by decide +kernel
theorem d_Reader_step_142 : decode prog_6_method_3_code 142 = .ok (.getfield 41, 3) := by decide +kernel
theorem d_Reader_step_145 : decode prog_6_method_3_code 145 = .ok (.iaload, 1) := by decide +kernel
theorem d_Reader_step_146 : decode prog_6_method_3_code 146 = .ok (.putfield 56, 3) := by decide +kernel
theorem d_Reader_step_149 : decode prog_6_method_3_code 149 = .ok (.aload_n 0, 1) := by decide +kernel
theorem d_Reader_step_150 : decode prog_6_method_3_code 150 = .ok (.dup, 1) := by decide +kernel
theorem d_Reader_step_151 : decode prog_6_method_3_code 151 = .ok (.getfield 41, 3) := by decide +kernel
theorem d_Reader_step_154 : decode prog_6_method_3_code 154 = .ok (.iconst 1, 1) := by decide +kernel
theorem d_Reader_step_155 : decode prog_6_method_3_code 155 = .ok (.iadd, 1) := by decide +kernel
theorem d_Reader_step_156 : decode prog_6_method_3_code 156 = .ok (.putfield 41, 3) := by decide +kernel
theorem d_Reader_step_159 : decode prog_6_method_3_code 159 = .ok (.goto 30, 3) := by decide +kernel
theorem d_Reader_step_162 : decode prog_6_method_3_code 162 = .ok (.aload_n 0, 1) := by decide +kernel
theorem d_Reader_step_163 : decode prog_6_method_3_code 163 = .ok (.getfield 44, 3) := by decide +kernel
theorem d_Reader_step_166 : decode prog_6_method_3_code 166 = .ok (.iconst 1, 1) := by decide +kernel
theorem d_Reader_step_167 : decode prog_6_method_3_code 167 = .ok (.if_icmp .ne 10, 3) := by decide +kernel
theorem d_Reader_step_170 : decode prog_6_method_3_code 170 = .ok (.aload_n 0, 1) := by decide +kernel
theorem d_Reader_step_171 : decode prog_6_method_3_code 171 = .ok (.invokevirtual 63, 3) := by decide +kernel
theorem d_Reader_step_174 : decode prog_6_method_3_code 174 = .ok (.goto 15, 3) := by decide +kernel
theorem d_Reader_step_177 : decode prog_6_method_3_code 177 = .ok (.aload_n 0, 1) := by decide +kernel
theorem d_Reader_step_178 : decode prog_6_method_3_code 178 = .ok (.getfield 44, 3) := by decide +kernel
theorem d_Reader_step_181 : decode prog_6_method_3_code 181 = .ok (.iconst 2, 1) := by decide +kernel
theorem d_Reader_step_182 : decode prog_6_method_3_code 182 = .ok (.if_icmp .ne 7, 3) := by decide +kernel
theorem d_Reader_step_185 : decode prog_6_method_3_code 185 = .ok (.aload_n 0, 1) := by decide +kernel
theorem d_Reader_step_186 : decode prog_6_method_3_code 186 = .ok (.invokevirtual 66, 3) := by decide +kernel
theorem d_Reader_step_189 : decode prog_6_method_3_code 189 = .ok (.aload_n 0, 1) := by decide +kernel
theorem d_Reader_step_190 : decode prog_6_method_3_code 190 = .ok (.getfield 44, 3) := by decide +kernel
theorem d_Reader_step_193 : decode prog_6_method_3_code 193 = .ok (.iconst 1, 1) := by decide +kernel
theorem d_Reader_step_194 : decode prog_6_method_3_code 194 = .ok (.if_icmp .eq 11, 3) := by decide +kernel
theorem d_Reader_step_197 : decode prog_6_method_3_code 197 = .ok (.aload_n 0, 1) := by decide +kernel
theorem d_Reader_step_198 : decode prog_6_method_3_code 198 = .ok (.getfield 44, 3) := by decide +kernel
theorem d_Reader_step_201 : decode prog_6_method_3_code 201 = .ok (.iconst 2, 1) := by decide +kernel
theorem d_Reader_step_202 : decode prog_6_method_3_code 202 = .ok (.if_icmp .ne 7, 3) := by decide +kernel
theorem d_Reader_step_205 : decode prog_6_method_3_code 205 = .ok (.iconst 1, 1) := by decide +kernel
theorem d_Reader_step_206 : decode prog_6_method_3_code 206 = .ok (.goto 4, 3) := by decide +kernel
theorem d_Reader_step_209 : decode prog_6_method_3_code 209 = .ok (.iconst 0, 1) := by decide +kernel
theorem d_Reader_step_210 : decode prog_6_method_3_code 210 = .ok (.istore_n 3, 1) := by decide +kernel
theorem d_Reader_step_211 : decode prog_6_method_3_code 211 = .ok (.iload_n 3, 1) := by decide +kernel
theorem d_Reader_step_212 : decode prog_6_method_3_code 212 = .ok (.ifCond .eq 20, 3) := by decide +kernel
theorem d_Reader_step_215 : decode prog_6_method_3_code 215 = .ok (.iload_n 2, 1) := by decide +kernel
theorem d_Reader_step_216 : decode prog_6_method_3_code 216 = .ok (.ifCond .eq 16, 3) := by decide +kernel
theorem d_Reader_step_219 : decode prog_6_method_3_code 219 = .ok (.aload_n 0, 1) := by decide +kernel
theorem d_Reader_step_220 : decode prog_6_method_3_code 220 = .ok (.getfield 50, 3) := by decide +kernel
theorem d_Reader_step_223 : decode prog_6_method_3_code 223 = .ok (.iload_n 1, 1) := by decide +kernel
theorem d_Reader_step_224 : decode prog_6_method_3_code 224 = .ok (.if_icmp .ne 8, 3) := by decide +kernel
theorem d_Reader_step_227 : decode prog_6_method_3_code 227 = .ok (.aload_n 0, 1) := by decide +kernel
theorem d_Reader_step_228 : decode prog_6_method_3_code 228 = .ok (.iconst 4, 1) := by decide +kernel
theorem d_Reader_step_229 : decode prog_6_method_3_code 229 = .ok (.putfield 44, 3) := by decide +kernel
theorem d_Reader_step_232 : decode prog_6_method_3_code 232 = .ok (.return_, 1) := by decide +kernel
theorem d_Reader_begin_0 : decode prog_6_method_2_code 0 = .ok (.aload_n 0, 1) := by decide +kernel
theorem d_Reader_begin_1 : decode prog_6_method_2_code 1 = .ok (.aload_n 1, 1) := by decide +kernel
theorem d_Reader_begin_2 : decode prog_6_method_2_code 2 = .ok (.putfield 17, 3) := by decide +kernel
theorem d_Reader_begin_5 : decode prog_6_method_2_code 5 = .ok (.aload_n 0, 1) := by decide +kernel
theorem d_Reader_begin_6 : decode prog_6_method_2_code 6 = .ok (.iload_n 2, 1) := by decide +kernel
theorem d_Reader_begin_7 : decode prog_6_method_2_code 7 = .ok (.aload_n 1, 1) := by decide +kernel
theorem d_Reader_begin_8 : decode prog_6_method_2_code 8 = .ok (.arraylength, 1) := by decide +kernel
theorem d_Reader_begin_9 : decode prog_6_method_2_code 9 = .ok (.invokestatic 32, 3) := by decide +kernel
theorem d_Reader_begin_12 : decode prog_6_method_2_code 12 = .ok (.putfield 38, 3) := by decide +kernel
theorem d_Reader_begin_15 : decode prog_6_method_2_code 15 = .ok (.aload_n 0, 1) := by decide +kernel
theorem d_Reader_begin_16 : decode prog_6_method_2_code 16 = .ok (.iconst 0, 1) := by decide +kernel
theorem d_Reader_begin_17 : decode prog_6_method_2_code 17 = .ok (.putfield 41, 3) := by decide +kernel
theorem d_Reader_begin_20 : decode prog_6_method_2_code 20 = .ok (.aload_n 0, 1) := by decide +kernel
theorem d_Reader_begin_21 : decode prog_6_method_2_code 21 = .ok (.iconst 0, 1) := by decide +kernel
theorem d_Reader_begin_22 : decode prog_6_method_2_code 22 = .ok (.putfield 44, 3) := by decide +kernel
theorem d_Reader_begin_25 : decode prog_6_method_2_code 25 = .ok (.aload_n 0, 1) := by decide +kernel
theorem d_Reader_begin_26 : decode prog_6_method_2_code 26 = .ok (.invokevirtual 47, 3) := by decide +kernel
theorem d_Reader_begin_29 : decode prog_6_method_2_code 29 = .ok (.return_, 1) := by decide +kernel
theorem d_Reader_isWord_0 : decode prog_6_method_7_code 0 = .ok (.aload_n 0, 1) := by decide +kernel
theorem d_Reader_isWord_1 : decode prog_6_method_7_code 1 = .ok (.getfield 44, 3) := by decide +kernel
theorem d_Reader_isWord_4 : decode prog_6_method_7_code 4 = .ok (.iconst 1, 1) := by decide +kernel
theorem d_Reader_isWord_5 : decode prog_6_method_7_code 5 = .ok (.if_icmp .ne 42, 3) := by decide +kernel
theorem d_Reader_isWord_8 : decode prog_6_method_7_code 8 = .ok (.aload_n 0, 1) := by decide +kernel
theorem d_Reader_isWord_9 : decode prog_6_method_7_code 9 = .ok (.getfield 53, 3) := by decide +kernel
theorem d_Reader_isWord_12 : decode prog_6_method_7_code 12 = .ok (.bipush 6, 2) := by decide +kernel
theorem d_Reader_isWord_14 : decode prog_6_method_7_code 14 = .ok (.if_icmp .gt 33, 3) := by decide +kernel
theorem d_Reader_isWord_17 : decode prog_6_method_7_code 17 = .ok (.iload_n 1, 1) := by decide +kernel
theorem d_Reader_isWord_18 : decode prog_6_method_7_code 18 = .ok (.ifCond .lt 29, 3) := by decide +kernel
theorem d_Reader_isWord_21 : decode prog_6_method_7_code 21 = .ok (.iload_n 1, 1) := by decide +kernel
theorem d_Reader_isWord_22 : decode prog_6_method_7_code 22 = .ok (.aload_n 0, 1) := by decide +kernel
theorem d_Reader_isWord_23 : decode prog_6_method_7_code 23 = .ok (.getfield 11, 3) := by decide +kernel
theorem d_Reader_isWord_26 : decode prog_6_method_7_code 26 = .ok (.arraylength, 1) := by decide +kernel
theorem d_Reader_isWord_27 : decode prog_6_method_7_code 27 = .ok (.if_icmp .ge 20, 3) := by decide +kernel
theorem d_Reader_isWord_30 : decode prog_6_method_7_code 30 = .ok (.aload_n 0, 1) := by decide +kernel
theorem d_Reader_isWord_31 : decode prog_6_method_7_code 31 = .ok (.getfield 56, 3) := by decide +kernel
theorem d_Reader_isWord_34 : decode prog_6_method_7_code 34 = .ok (.aload_n 0, 1) := by decide +kernel
theorem d_Reader_isWord_35 : decode prog_6_method_7_code 35 = .ok (.getfield 11, 3) := by decide +kernel
theorem d_Reader_isWord_38 : decode prog_6_method_7_code 38 = .ok (.iload_n 1, 1) := by decide +kernel
theorem d_Reader_isWord_39 : decode prog_6_method_7_code 39 = .ok (.iaload, 1) := by decide +kernel
theorem d_Reader_isWord_40 : decode prog_6_method_7_code 40 = .ok (.if_icmp .ne 7, 3) := by decide +kernel
theorem d_Reader_isWord_43 : decode prog_6_method_7_code 43 = .ok (.iconst 1, 1) := by decide +kernel
theorem d_Reader_isWord_44 : decode prog_6_method_7_code 44 = .ok (.goto 4, 3) := by decide +kernel
theorem d_Reader_isWord_47 : decode prog_6_method_7_code 47 = .ok (.iconst 0, 1) := by decide +kernel
theorem d_Reader_isWord_48 : decode prog_6_method_7_code 48 = .ok (.ireturn, 1) := by decide +kernel
theorem d_Parser_tell_0 : decode prog_5_method_3_code 0 = .ok (.aload_n 0, 1) := by decide +kernel
theorem d_Parser_tell_1 : decode prog_5_method_3_code 1 = .ok (.iload_n 1, 1) := by decide +kernel
theorem d_Parser_tell_2 : decode prog_5_method_3_code 2 = .ok (.putfield 29, 3) := by decide +kernel
theorem d_Parser_tell_5 : decode prog_5_method_3_code 5 = .ok (.aload_n 0, 1) := by decide +kernel
theorem d_Parser_tell_6 : decode prog_5_method_3_code 6 = .ok (.iload_n 2, 1) := by decide +kernel
theorem d_Parser_tell_7 : decode prog_5_method_3_code 7 = .ok (.putfield 25, 3) := by decide +kernel
theorem d_Parser_tell_10 : decode prog_5_method_3_code 10 = .ok (.iconst 0, 1) := by decide +kernel
theorem d_Parser_tell_11 : decode prog_5_method_3_code 11 = .ok (.ireturn, 1) := by decide +kernel
theorem d_Parser_tellWrong_0 : decode prog_5_method_4_code 0 = .ok (.aload_n 0, 1) := by decide +kernel
theorem d_Parser_tellWrong_1 : decode prog_5_method_4_code 1 = .ok (.iconst 1, 1) := by decide +kernel
theorem d_Parser_tellWrong_2 : decode prog_5_method_4_code 2 = .ok (.aload_n 0, 1) := by decide +kernel
theorem d_Parser_tellWrong_3 : decode prog_5_method_4_code 3 = .ok (.getfield 12, 3) := by decide +kernel
theorem d_Parser_tellWrong_6 : decode prog_5_method_4_code 6 = .ok (.getfield 45, 3) := by decide +kernel
theorem d_Parser_tellWrong_9 : decode prog_5_method_4_code 9 = .ok (.invokevirtual 48, 3) := by decide +kernel
theorem d_Parser_tellWrong_12 : decode prog_5_method_4_code 12 = .ok (.ireturn, 1) := by decide +kernel
theorem d_Parser_passNumber_0 : decode prog_5_method_8_code 0 = .ok (.aload_n 0, 1) := by decide +kernel
theorem d_Parser_passNumber_1 : decode prog_5_method_8_code 1 = .ok (.getfield 12, 3) := by decide +kernel
theorem d_Parser_passNumber_4 : decode prog_5_method_8_code 4 = .ok (.getfield 39, 3) := by decide +kernel
theorem d_Parser_passNumber_7 : decode prog_5_method_8_code 7 = .ok (.iconst 2, 1) := by decide +kernel
theorem d_Parser_passNumber_8 : decode prog_5_method_8_code 8 = .ok (.if_icmp .eq 10, 3) := by decide +kernel
theorem d_Parser_passNumber_11 : decode prog_5_method_8_code 11 = .ok (.aload_n 0, 1) := by decide +kernel
theorem d_Parser_passNumber_12 : decode prog_5_method_8_code 12 = .ok (.invokevirtual 63, 3) := by decide +kernel
theorem d_Parser_passNumber_15 : decode prog_5_method_8_code 15 = .ok (.pop, 1) := by decide +kernel
theorem d_Parser_passNumber_16 : decode prog_5_method_8_code 16 = .ok (.iconst (-1), 1) := by decide +kernel
theorem d_Parser_passNumber_17 : decode prog_5_method_8_code 17 = .ok (.ireturn, 1) := by decide +kernel
theorem d_Parser_passNumber_18 : decode prog_5_method_8_code 18 = .ok (.aload_n 0, 1) := by decide +kernel
theorem d_Parser_passNumber_19 : decode prog_5_method_8_code 19 = .ok (.getfield 12, 3) := by decide +kernel
theorem d_Parser_passNumber_22 : decode prog_5_method_8_code 22 = .ok (.getfield 73, 3) := by decide +kernel
theorem d_Parser_passNumber_25 : decode prog_5_method_8_code 25 = .ok (.iconst 4, 1) := by decide +kernel
theorem d_Parser_passNumber_26 : decode prog_5_method_8_code 26 = .ok (.if_icmp .le 20, 3) := by decide +kernel
theorem d_Parser_passNumber_29 : decode prog_5_method_8_code 29 = .ok (.aload_n 0, 1) := by decide +kernel
theorem d_Parser_passNumber_30 : decode prog_5_method_8_code 30 = .ok (.iconst 1, 1) := by decide +kernel
theorem d_Parser_passNumber_31 : decode prog_5_method_8_code 31 = .ok (.aload_n 0, 1) := by decide +kernel
theorem d_Parser_passNumber_32 : decode prog_5_method_8_code 32 = .ok (.getfield 12, 3) := by decide +kernel
theorem d_Parser_passNumber_35 : decode prog_5_method_8_code 35 = .ok (.getfield 45, 3) := by decide +kernel
theorem d_Parser_passNumber_38 : decode prog_5_method_8_code 38 = .ok (.iconst 4, 1) := by decide +kernel
theorem d_Parser_passNumber_39 : decode prog_5_method_8_code 39 = .ok (.iadd, 1) := by decide +kernel
theorem d_Parser_passNumber_40 : decode prog_5_method_8_code 40 = .ok (.invokevirtual 48, 3) := by decide +kernel
theorem d_Parser_passNumber_43 : decode prog_5_method_8_code 43 = .ok (.pop, 1) := by decide +kernel
theorem d_Parser_passNumber_44 : decode prog_5_method_8_code 44 = .ok (.iconst (-1), 1) := by decide +kernel
theorem d_Parser_passNumber_45 : decode prog_5_method_8_code 45 = .ok (.ireturn, 1) := by decide +kernel
theorem d_Parser_passNumber_46 : decode prog_5_method_8_code 46 = .ok (.aload_n 0, 1) := by decide +kernel
theorem d_Parser_passNumber_47 : decode prog_5_method_8_code 47 = .ok (.getfield 12, 3) := by decide +kernel
theorem d_Parser_passNumber_50 : decode prog_5_method_8_code 50 = .ok (.getfield 79, 3) := by decide +kernel
theorem d_Parser_passNumber_53 : decode prog_5_method_8_code 53 = .ok (.istore_n 3, 1) := by decide +kernel
theorem d_Parser_passNumber_54 : decode prog_5_method_8_code 54 = .ok (.iload_n 3, 1) := by decide +kernel
theorem d_Parser_passNumber_55 : decode prog_5_method_8_code 55 = .ok (.iload_n 1, 1) := by decide +kernel
theorem d_Parser_passNumber_56 : decode prog_5_method_8_code 56 = .ok (.if_icmp .lt 8, 3) := by decide +kernel
theorem d_Parser_passNumber_59 : decode prog_5_method_8_code 59 = .ok (.iload_n 3, 1) := by decide +kernel
theorem d_Parser_passNumber_60 : decode prog_5_method_8_code 60 = .ok (.iload_n 2, 1) := by decide +kernel
theorem d_Parser_passNumber_61 : decode prog_5_method_8_code 61 = .ok (.if_icmp .le 18, 3) := by decide +kernel
theorem d_Parser_passNumber_64 : decode prog_5_method_8_code 64 = .ok (.aload_n 0, 1) := by decide +kernel
theorem d_Parser_passNumber_65 : decode prog_5_method_8_code 65 = .ok (.iconst 2, 1) := by decide +kernel
theorem d_Parser_passNumber_66 : decode prog_5_method_8_code 66 = .ok (.aload_n 0, 1) := by decide +kernel
theorem d_Parser_passNumber_67 : decode prog_5_method_8_code 67 = .ok (.getfield 12, 3) := by decide +kernel
theorem d_Parser_passNumber_70 : decode prog_5_method_8_code 70 = .ok (.getfield 45, 3) := by decide +kernel
theorem d_Parser_passNumber_73 : decode prog_5_method_8_code 73 = .ok (.invokevirtual 48, 3) := by decide +kernel
theorem d_Parser_passNumber_76 : decode prog_5_method_8_code 76 = .ok (.pop, 1) := by decide +kernel
theorem d_Parser_passNumber_77 : decode prog_5_method_8_code 77 = .ok (.iconst (-1), 1) := by decide +kernel
theorem d_Parser_passNumber_78 : decode prog_5_method_8_code 78 = .ok (.ireturn, 1) := by decide +kernel
theorem d_Parser_passNumber_79 : decode prog_5_method_8_code 79 = .ok (.aload_n 0, 1) := by decide +kernel
theorem d_Parser_passNumber_80 : decode prog_5_method_8_code 80 = .ok (.getfield 12, 3) := by decide +kernel
theorem d_Parser_passNumber_83 : decode prog_5_method_8_code 83 = .ok (.invokevirtual 66, 3) := by decide +kernel
theorem d_Parser_passNumber_86 : decode prog_5_method_8_code 86 = .ok (.iload_n 3, 1) := by decide +kernel
theorem d_Parser_passNumber_87 : decode prog_5_method_8_code 87 = .ok (.ireturn, 1) := by decide +kernel
theorem d_Parser_readSetting_0 : decode prog_5_method_10_code 0 = .ok (.aload_n 0, 1) := by decide +kernel
theorem d_Parser_readSetting_1 : decode prog_5_method_10_code 1 = .ok (.getstatic 109, 3) := by decide +kernel
theorem d_Parser_readSetting_4 : decode prog_5_method_10_code 4 = .ok (.iload_n 1, 1) := by decide +kernel
theorem d_Parser_readSetting_5 : decode prog_5_method_10_code 5 = .ok (.iaload, 1) := by decide +kernel
theorem d_Parser_readSetting_6 : decode prog_5_method_10_code 6 = .ok (.getstatic 112, 3) := by decide +kernel
theorem d_Parser_readSetting_9 : decode prog_5_method_10_code 9 = .ok (.iload_n 1, 1) := by decide +kernel
theorem d_Parser_readSetting_10 : decode prog_5_method_10_code 10 = .ok (.iaload, 1) := by decide +kernel
theorem d_Parser_readSetting_11 : decode prog_5_method_10_code 11 = .ok (.invokevirtual 115, 3) := by decide +kernel
theorem d_Parser_readSetting_14 : decode prog_5_method_10_code 14 = .ok (.istore_n 2, 1) := by decide +kernel
theorem d_Parser_readSetting_15 : decode prog_5_method_10_code 15 = .ok (.iload_n 2, 1) := by decide +kernel
theorem d_Parser_readSetting_16 : decode prog_5_method_10_code 16 = .ok (.iconst (-1), 1) := by decide +kernel
theorem d_Parser_readSetting_17 : decode prog_5_method_10_code 17 = .ok (.if_icmp .ne 5, 3) := by decide +kernel
theorem d_Parser_readSetting_20 : decode prog_5_method_10_code 20 = .ok (.iconst 0, 1) := by decide +kernel
theorem d_Parser_readSetting_21 : decode prog_5_method_10_code 21 = .ok (.ireturn, 1) := by decide +kernel
theorem d_Parser_readSetting_22 : decode prog_5_method_10_code 22 = .ok (.aload_n 0, 1) := by decide +kernel
theorem d_Parser_readSetting_23 : decode prog_5_method_10_code 23 = .ok (.getfield 21, 3) := by decide +kernel
theorem d_Parser_readSetting_26 : decode prog_5_method_10_code 26 = .ok (.getfield 119, 3) := by decide +kernel
theorem d_Parser_readSetting_29 : decode prog_5_method_10_code 29 = .ok (.iload_n 1, 1) := by decide +kernel
theorem d_Parser_readSetting_30 : decode prog_5_method_10_code 30 = .ok (.iload_n 2, 1) := by decide +kernel
theorem d_Parser_readSetting_31 : decode prog_5_method_10_code 31 = .ok (.iastore, 1) := by decide +kernel
theorem d_Parser_readSetting_32 : decode prog_5_method_10_code 32 = .ok (.iconst 1, 1) := by decide +kernel
theorem d_Parser_readSetting_33 : decode prog_5_method_10_code 33 = .ok (.ireturn, 1) := by decide +kernel
theorem d_Parser_passWord_0 : decode prog_5_method_6_code 0 = .ok (.aload_n 0, 1) := by decide +kernel
theorem d_Parser_passWord_1 : decode prog_5_method_6_code 1 = .ok (.getfield 12, 3) := by decide +kernel
theorem d_Parser_passWord_4 : decode prog_5_method_6_code 4 = .ok (.iload_n 1, 1) := by decide +kernel
theorem d_Parser_passWord_5 : decode prog_5_method_6_code 5 = .ok (.invokevirtual 69, 3) := by decide +kernel
theorem d_Parser_passWord_8 : decode prog_5_method_6_code 8 = .ok (.ifCond .ne 8, 3) := by decide +kernel
theorem d_Parser_passWord_11 : decode prog_5_method_6_code 11 = .ok (.aload_n 0, 1) := by decide +kernel
theorem d_Parser_passWord_12 : decode prog_5_method_6_code 12 = .ok (.invokevirtual 63, 3) := by decide +kernel
theorem d_Parser_passWord_15 : decode prog_5_method_6_code 15 = .ok (.ireturn, 1) := by decide +kernel
theorem d_Parser_passWord_16 : decode prog_5_method_6_code 16 = .ok (.aload_n 0, 1) := by decide +kernel
theorem d_Parser_passWord_17 : decode prog_5_method_6_code 17 = .ok (.getfield 12, 3) := by decide +kernel
theorem d_Parser_passWord_20 : decode prog_5_method_6_code 20 = .ok (.invokevirtual 66, 3) := by decide +kernel
theorem d_Parser_passWord_23 : decode prog_5_method_6_code 23 = .ok (.iconst 1, 1) := by decide +kernel
theorem d_Parser_passWord_24 : decode prog_5_method_6_code 24 = .ok (.ireturn, 1) := by decide +kernel
theorem d_Parser_beginRule_0 : decode prog_5_method_13_code 0 = .ok (.aload_n 0, 1) := by decide +kernel
theorem d_Parser_beginRule_1 : decode prog_5_method_13_code 1 = .ok (.getfield 21, 3) := by decide +kernel
theorem d_Parser_beginRule_4 : decode prog_5_method_13_code 4 = .ok (.getfield 153, 3) := by decide +kernel
theorem d_Parser_beginRule_7 : decode prog_5_method_13_code 7 = .ok (.bipush 6, 2) := by decide +kernel
theorem d_Parser_beginRule_9 : decode prog_5_method_13_code 9 = .ok (.if_icmp .lt 16, 3) := by decide +kernel
theorem d_Parser_beginRule_12 : decode prog_5_method_13_code 12 = .ok (.aload_n 0, 1) := by decide +kernel
theorem d_Parser_beginRule_13 : decode prog_5_method_13_code 13 = .ok (.iconst 5, 1) := by decide +kernel
theorem d_Parser_beginRule_14 : decode prog_5_method_13_code 14 = .ok (.aload_n 0, 1) := by decide +kernel
theorem d_Parser_beginRule_15 : decode prog_5_method_13_code 15 = .ok (.getfield 12, 3) := by decide +kernel
theorem d_Parser_beginRule_18 : decode prog_5_method_13_code 18 = .ok (.getfield 45, 3) := by decide +kernel
theorem d_Parser_beginRule_21 : decode prog_5_method_13_code 21 = .ok (.invokevirtual 48, 3) := by decide +kernel
theorem d_Parser_beginRule_24 : decode prog_5_method_13_code 24 = .ok (.ireturn, 1) := by decide +kernel
theorem d_Parser_beginRule_25 : decode prog_5_method_13_code 25 = .ok (.aload_n 0, 1) := by decide +kernel
theorem d_Parser_beginRule_26 : decode prog_5_method_13_code 26 = .ok (.getfield 12, 3) := by decide +kernel
theorem d_Parser_beginRule_29 : decode prog_5_method_13_code 29 = .ok (.invokevirtual 66, 3) := by decide +kernel
theorem d_Parser_beginRule_32 : decode prog_5_method_13_code 32 = .ok (.aload_n 0, 1) := by decide +kernel
theorem d_Parser_beginRule_33 : decode prog_5_method_13_code 33 = .ok (.bipush 10, 2) := by decide +kernel
theorem d_Parser_beginRule_35 : decode prog_5_method_13_code 35 = .ok (.invokevirtual 129, 3) := by decide +kernel
theorem d_Parser_beginRule_38 : decode prog_5_method_13_code 38 = .ok (.ireturn, 1) := by decide +kernel
theorem d_Fair_emit_0 : decode prog_3_method_6_code 0 = .ok (.aload_n 0, 1) := by decide +kernel
theorem d_Fair_emit_1 : decode prog_3_method_6_code 1 = .ok (.getfield 45, 3) := by decide +kernel
theorem d_Fair_emit_4 : decode prog_3_method_6_code 4 = .ok (.aload_n 0, 1) := by decide +kernel
theorem d_Fair_emit_5 : decode prog_3_method_6_code 5 = .ok (.getfield 27, 3) := by decide +kernel
theorem d_Fair_emit_8 : decode prog_3_method_6_code 8 = .ok (.arraylength, 1) := by decide +kernel
theorem d_Fair_emit_9 : decode prog_3_method_6_code 9 = .ok (.if_icmp .ge 23, 3) := by decide +kernel
theorem d_Fair_emit_12 : decode prog_3_method_6_code 12 = .ok (.aload_n 0, 1) := by decide +kernel
theorem d_Fair_emit_13 : decode prog_3_method_6_code 13 = .ok (.getfield 27, 3) := by decide +kernel
theorem d_Fair_emit_16 : decode prog_3_method_6_code 16 = .ok (.aload_n 0, 1) := by decide +kernel
theorem d_Fair_emit_17 : decode prog_3_method_6_code 17 = .ok (.getfield 45, 3) := by decide +kernel
theorem d_Fair_emit_20 : decode prog_3_method_6_code 20 = .ok (.iload_n 1, 1) := by decide +kernel
theorem d_Fair_emit_21 : decode prog_3_method_6_code 21 = .ok (.iastore, 1) := by decide +kernel
theorem d_Fair_emit_22 : decode prog_3_method_6_code 22 = .ok (.aload_n 0, 1) := by decide +kernel
theorem d_Fair_emit_23 : decode prog_3_method_6_code 23 = .ok (.dup, 1) := by decide +kernel
theorem d_Fair_emit_24 : decode prog_3_method_6_code 24 = .ok (.getfield 45, 3) := by decide +kernel
theorem d_Fair_emit_27 : decode prog_3_method_6_code 27 = .ok (.iconst 1, 1) := by decide +kernel
theorem d_Fair_emit_28 : decode prog_3_method_6_code 28 = .ok (.iadd, 1) := by decide +kernel
theorem d_Fair_emit_29 : decode prog_3_method_6_code 29 = .ok (.putfield 45, 3) := by decide +kernel
theorem d_Fair_emit_32 : decode prog_3_method_6_code 32 = .ok (.return_, 1) := by decide +kernel
theorem d_Parser_readBoth_0 : decode prog_5_method_16_code 0 = .ok (.aload_n 0, 1) := by decide +kernel
theorem d_Parser_readBoth_1 : decode prog_5_method_16_code 1 = .ok (.iload_n 1, 1) := by decide +kernel
theorem d_Parser_readBoth_2 : decode prog_5_method_16_code 2 = .ok (.invokevirtual 171, 3) := by decide +kernel
theorem d_Parser_readBoth_5 : decode prog_5_method_16_code 5 = .ok (.ifCond .ne 5, 3) := by decide +kernel
theorem d_Parser_readBoth_8 : decode prog_5_method_16_code 8 = .ok (.iconst 0, 1) := by decide +kernel
theorem d_Parser_readBoth_9 : decode prog_5_method_16_code 9 = .ok (.ireturn, 1) := by decide +kernel
theorem d_Parser_readBoth_10 : decode prog_5_method_16_code 10 = .ok (.iconst 0, 1) := by decide +kernel
theorem d_Parser_readBoth_11 : decode prog_5_method_16_code 11 = .ok (.istore_n 2, 1) := by decide +kernel
theorem d_Parser_readBoth_12 : decode prog_5_method_16_code 12 = .ok (.iload_n 2, 1) := by decide +kernel
theorem d_Parser_readBoth_13 : decode prog_5_method_16_code 13 = .ok (.sipush 1600, 3) := by decide +kernel
theorem d_Parser_readBoth_16 : decode prog_5_method_16_code 16 = .ok (.if_icmp .ge 48, 3) := by decide +kernel
theorem d_Parser_readBoth_19 : decode prog_5_method_16_code 19 = .ok (.aload_n 0, 1) := by decide +kernel
theorem d_Parser_readBoth_20 : decode prog_5_method_16_code 20 = .ok (.getfield 12, 3) := by decide +kernel
theorem d_Parser_readBoth_23 : decode prog_5_method_16_code 23 = .ok (.bipush 22, 2) := by decide +kernel
theorem d_Parser_readBoth_25 : decode prog_5_method_16_code 25 = .ok (.invokevirtual 69, 3) := by decide +kernel
theorem d_Parser_readBoth_28 : decode prog_5_method_16_code 28 = .ok (.ifCond .eq 36, 3) := by decide +kernel
theorem d_Parser_readBoth_31 : decode prog_5_method_16_code 31 = .ok (.aload_n 0, 1) := by decide +kernel
theorem d_Parser_readBoth_32 : decode prog_5_method_16_code 32 = .ok (.getfield 12, 3) := by decide +kernel
theorem d_Parser_readBoth_35 : decode prog_5_method_16_code 35 = .ok (.invokevirtual 66, 3) := by decide +kernel
theorem d_Parser_readBoth_38 : decode prog_5_method_16_code 38 = .ok (.aload_n 0, 1) := by decide +kernel
theorem d_Parser_readBoth_39 : decode prog_5_method_16_code 39 = .ok (.iload_n 1, 1) := by decide +kernel
theorem d_Parser_readBoth_40 : decode prog_5_method_16_code 40 = .ok (.invokevirtual 171, 3) := by decide +kernel
theorem d_Parser_readBoth_43 : decode prog_5_method_16_code 43 = .ok (.ifCond .ne 5, 3) := by decide +kernel
theorem d_Parser_readBoth_46 : decode prog_5_method_16_code 46 = .ok (.iconst 0, 1) := by decide +kernel
theorem d_Parser_readBoth_47 : decode prog_5_method_16_code 47 = .ok (.ireturn, 1) := by decide +kernel
theorem d_Parser_readBoth_48 : decode prog_5_method_16_code 48 = .ok (.aload_n 0, 1) := by decide +kernel
theorem d_Parser_readBoth_49 : decode prog_5_method_16_code 49 = .ok (.getfield 21, 3) := by decide +kernel
theorem d_Parser_readBoth_52 : decode prog_5_method_16_code 52 = .ok (.sipush 10011, 3) := by decide +kernel
theorem d_Parser_readBoth_55 : decode prog_5_method_16_code 55 = .ok (.invokevirtual 167, 3) := by decide +kernel
theorem d_Parser_readBoth_58 : decode prog_5_method_16_code 58 = .ok (.iinc 2 1, 3) := by decide +kernel
theorem d_Parser_readBoth_61 : decode prog_5_method_16_code 61 = .ok (.goto (-49), 3) := by decide +kernel
theorem d_Parser_readBoth_64 : decode prog_5_method_16_code 64 = .ok (.iconst 1, 1) := by decide +kernel
theorem d_Parser_readBoth_65 : decode prog_5_method_16_code 65 = .ok (.ireturn, 1) := by decide +kernel
theorem d_Parser_readTest_0 : decode prog_5_method_15_code 0 = .ok (.aload_n 0, 1) := by decide +kernel
theorem d_Parser_readTest_1 : decode prog_5_method_15_code 1 = .ok (.iload_n 1, 1) := by decide +kernel
theorem d_Parser_readTest_2 : decode prog_5_method_15_code 2 = .ok (.invokevirtual 162, 3) := by decide +kernel
theorem d_Parser_readTest_5 : decode prog_5_method_15_code 5 = .ok (.ifCond .ne 5, 3) := by decide +kernel
theorem d_Parser_readTest_8 : decode prog_5_method_15_code 8 = .ok (.iconst 0, 1) := by decide +kernel
theorem d_Parser_readTest_9 : decode prog_5_method_15_code 9 = .ok (.ireturn, 1) := by decide +kernel
theorem d_Parser_readTest_10 : decode prog_5_method_15_code 10 = .ok (.iconst 0, 1) := by decide +kernel
theorem d_Parser_readTest_11 : decode prog_5_method_15_code 11 = .ok (.istore_n 2, 1) := by decide +kernel
theorem d_Parser_readTest_12 : decode prog_5_method_15_code 12 = .ok (.iload_n 2, 1) := by decide +kernel
theorem d_Parser_readTest_13 : decode prog_5_method_15_code 13 = .ok (.sipush 1600, 3) := by decide +kernel
theorem d_Parser_readTest_16 : decode prog_5_method_15_code 16 = .ok (.if_icmp .ge 48, 3) := by decide +kernel
theorem d_Parser_readTest_19 : decode prog_5_method_15_code 19 = .ok (.aload_n 0, 1) := by decide +kernel
theorem d_Parser_readTest_20 : decode prog_5_method_15_code 20 = .ok (.getfield 12, 3) := by decide +kernel
theorem d_Parser_readTest_23 : decode prog_5_method_15_code 23 = .ok (.bipush 21, 2) := by decide +kernel
theorem d_Parser_readTest_25 : decode prog_5_method_15_code 25 = .ok (.invokevirtual 69, 3) := by decide +kernel
theorem d_Parser_readTest_28 : decode prog_5_method_15_code 28 = .ok (.ifCond .eq 36, 3) := by decide +kernel
theorem d_Parser_readTest_31 : decode prog_5_method_15_code 31 = .ok (.aload_n 0, 1) := by decide +kernel
theorem d_Parser_readTest_32 : decode prog_5_method_15_code 32 = .ok (.getfield 12, 3) := by decide +kernel
theorem d_Parser_readTest_35 : decode prog_5_method_15_code 35 = .ok (.invokevirtual 66, 3) := by decide +kernel
theorem d_Parser_readTest_38 : decode prog_5_method_15_code 38 = .ok (.aload_n 0, 1) := by decide +kernel
theorem d_Parser_readTest_39 : decode prog_5_method_15_code 39 = .ok (.iload_n 1, 1) := by decide +kernel
theorem d_Parser_readTest_40 : decode prog_5_method_15_code 40 = .ok (.invokevirtual 162, 3) := by decide +kernel
theorem d_Parser_readTest_43 : decode prog_5_method_15_code 43 = .ok (.ifCond .ne 5, 3) := by decide +kernel
theorem d_Parser_readTest_46 : decode prog_5_method_15_code 46 = .ok (.iconst 0, 1) := by decide +kernel
theorem d_Parser_readTest_47 : decode prog_5_method_15_code 47 = .ok (.ireturn, 1) := by decide +kernel
theorem d_Parser_readTest_48 : decode prog_5_method_15_code 48 = .ok (.aload_n 0, 1) := by decide +kernel
theorem d_Parser_readTest_49 : decode prog_5_method_15_code 49 = .ok (.getfield 21, 3) := by decide +kernel
theorem d_Parser_readTest_52 : decode prog_5_method_15_code 52 = .ok (.sipush 10012, 3) := by decide +kernel
theorem d_Parser_readTest_55 : decode prog_5_method_15_code 55 = .ok (.invokevirtual 167, 3) := by decide +kernel
theorem d_Parser_readTest_58 : decode prog_5_method_15_code 58 = .ok (.iinc 2 1, 3) := by decide +kernel
theorem d_Parser_readTest_61 : decode prog_5_method_15_code 61 = .ok (.goto (-49), 3) := by decide +kernel
theorem d_Parser_readTest_64 : decode prog_5_method_15_code 64 = .ok (.iconst 1, 1) := by decide +kernel
theorem d_Parser_readTest_65 : decode prog_5_method_15_code 65 = .ok (.ireturn, 1) := by decide +kernel
theorem d_Reader_isSign_0 : decode prog_6_method_8_code 0 = .ok (.aload_n 0, 1) := by decide +kernel
theorem d_Reader_isSign_1 : decode prog_6_method_8_code 1 = .ok (.getfield 44, 3) := by decide +kernel
theorem d_Reader_isSign_4 : decode prog_6_method_8_code 4 = .ok (.iconst 3, 1) := by decide +kernel
theorem d_Reader_isSign_5 : decode prog_6_method_8_code 5 = .ok (.if_icmp .ne 15, 3) := by decide +kernel
theorem d_Reader_isSign_8 : decode prog_6_method_8_code 8 = .ok (.aload_n 0, 1) := by decide +kernel
theorem d_Reader_isSign_9 : decode prog_6_method_8_code 9 = .ok (.getfield 56, 3) := by decide +kernel
theorem d_Reader_isSign_12 : decode prog_6_method_8_code 12 = .ok (.iload_n 1, 1) := by decide +kernel
theorem d_Reader_isSign_13 : decode prog_6_method_8_code 13 = .ok (.if_icmp .ne 7, 3) := by decide +kernel
theorem d_Reader_isSign_16 : decode prog_6_method_8_code 16 = .ok (.iconst 1, 1) := by decide +kernel
theorem d_Reader_isSign_17 : decode prog_6_method_8_code 17 = .ok (.goto 4, 3) := by decide +kernel
theorem d_Reader_isSign_20 : decode prog_6_method_8_code 20 = .ok (.iconst 0, 1) := by decide +kernel
theorem d_Reader_isSign_21 : decode prog_6_method_8_code 21 = .ok (.ireturn, 1) := by decide +kernel
theorem d_Parser_passOpener_0 : decode prog_5_method_18_code 0 = .ok (.iload_n 1, 1) := by decide +kernel
theorem d_Parser_passOpener_1 : decode prog_5_method_18_code 1 = .ok (.bipush 6, 2) := by decide +kernel
theorem d_Parser_passOpener_3 : decode prog_5_method_18_code 3 = .ok (.if_icmp .lt 16, 3) := by decide +kernel
theorem d_Parser_passOpener_6 : decode prog_5_method_18_code 6 = .ok (.aload_n 0, 1) := by decide +kernel
theorem d_Parser_passOpener_7 : decode prog_5_method_18_code 7 = .ok (.iconst 4, 1) := by decide +kernel
theorem d_Parser_passOpener_8 : decode prog_5_method_18_code 8 = .ok (.aload_n 0, 1) := by decide +kernel
theorem d_Parser_passOpener_9 : decode prog_5_method_18_code 9 = .ok (.getfield 12, 3) := by decide +kernel
theorem d_Parser_passOpener_12 : decode prog_5_method_18_code 12 = .ok (.getfield 45, 3) := by decide +kernel
theorem d_Parser_passOpener_15 : decode prog_5_method_18_code 15 = .ok (.invokevirtual 48, 3) := by decide +kernel
theorem d_Parser_passOpener_18 : decode prog_5_method_18_code 18 = .ok (.ireturn, 1) := by decide +kernel
theorem d_Parser_passOpener_19 : decode prog_5_method_18_code 19 = .ok (.aload_n 0, 1) := by decide +kernel
theorem d_Parser_passOpener_20 : decode prog_5_method_18_code 20 = .ok (.getfield 12, 3) := by decide +kernel
theorem d_Parser_passOpener_23 : decode prog_5_method_18_code 23 = .ok (.invokevirtual 66, 3) := by decide +kernel
theorem d_Parser_passOpener_26 : decode prog_5_method_18_code 26 = .ok (.iconst 1, 1) := by decide +kernel
theorem d_Parser_passOpener_27 : decode prog_5_method_18_code 27 = .ok (.ireturn, 1) := by decide +kernel
theorem d_Parser_passSign_0 : decode prog_5_method_5_code 0 = .ok (.aload_n 0, 1) := by decide +kernel
theorem d_Parser_passSign_1 : decode prog_5_method_5_code 1 = .ok (.getfield 12, 3) := by decide +kernel
theorem d_Parser_passSign_4 : decode prog_5_method_5_code 4 = .ok (.iload_n 1, 1) := by decide +kernel
theorem d_Parser_passSign_5 : decode prog_5_method_5_code 5 = .ok (.invokevirtual 60, 3) := by decide +kernel
theorem d_Parser_passSign_8 : decode prog_5_method_5_code 8 = .ok (.ifCond .ne 8, 3) := by decide +kernel
theorem d_Parser_passSign_11 : decode prog_5_method_5_code 11 = .ok (.aload_n 0, 1) := by decide +kernel
theorem d_Parser_passSign_12 : decode prog_5_method_5_code 12 = .ok (.invokevirtual 63, 3) := by decide +kernel
theorem d_Parser_passSign_15 : decode prog_5_method_5_code 15 = .ok (.ireturn, 1) := by decide +kernel
theorem d_Parser_passSign_16 : decode prog_5_method_5_code 16 = .ok (.aload_n 0, 1) := by decide +kernel
theorem d_Parser_passSign_17 : decode prog_5_method_5_code 17 = .ok (.getfield 12, 3) := by decide +kernel
theorem d_Parser_passSign_20 : decode prog_5_method_5_code 20 = .ok (.invokevirtual 66, 3) := by decide +kernel
theorem d_Parser_passSign_23 : decode prog_5_method_5_code 23 = .ok (.iconst 1, 1) := by decide +kernel
theorem d_Parser_passSign_24 : decode prog_5_method_5_code 24 = .ok (.ireturn, 1) := by decide +kernel
theorem d_Parser_readPair_0 : decode prog_5_method_23_code 0 = .ok (.aload_n 0, 1) := by decide +kernel
theorem d_Parser_readPair_1 : decode prog_5_method_23_code 1 = .ok (.getfield 12, 3) := by decide +kernel
theorem d_Parser_readPair_4 : decode prog_5_method_23_code 4 = .ok (.invokevirtual 66, 3) := by decide +kernel
theorem d_Parser_readPair_7 : decode prog_5_method_23_code 7 = .ok (.aload_n 0, 1) := by decide +kernel
theorem d_Parser_readPair_8 : decode prog_5_method_23_code 8 = .ok (.getfield 12, 3) := by decide +kernel
theorem d_Parser_readPair_11 : decode prog_5_method_23_code 11 = .ok (.bipush 40, 2) := by decide +kernel
theorem d_Parser_readPair_13 : decode prog_5_method_23_code 13 = .ok (.invokevirtual 60, 3) := by decide +kernel
theorem d_Parser_readPair_16 : decode prog_5_method_23_code 16 = .ok (.ifCond .ne 8, 3) := by decide +kernel
theorem d_Parser_readPair_19 : decode prog_5_method_23_code 19 = .ok (.aload_n 0, 1) := by decide +kernel
theorem d_Parser_readPair_20 : decode prog_5_method_23_code 20 = .ok (.invokevirtual 63, 3) := by decide +kernel
theorem d_Parser_readPair_23 : decode prog_5_method_23_code 23 = .ok (.ireturn, 1) := by decide +kernel
theorem d_Parser_readPair_24 : decode prog_5_method_23_code 24 = .ok (.aload_n 0, 1) := by decide +kernel
theorem d_Parser_readPair_25 : decode prog_5_method_23_code 25 = .ok (.iload_n 1, 1) := by decide +kernel
theorem d_Parser_readPair_26 : decode prog_5_method_23_code 26 = .ok (.invokevirtual 174, 3) := by decide +kernel
theorem d_Parser_readPair_29 : decode prog_5_method_23_code 29 = .ok (.ifCond .eq 45, 3) := by decide +kernel
theorem d_Parser_readPair_32 : decode prog_5_method_23_code 32 = .ok (.aload_n 0, 1) := by decide +kernel
theorem d_Parser_readPair_33 : decode prog_5_method_23_code 33 = .ok (.iload_n 1, 1) := by decide +kernel
theorem d_Parser_readPair_34 : decode prog_5_method_23_code 34 = .ok (.iconst 1, 1) := by decide +kernel
theorem d_Parser_readPair_35 : decode prog_5_method_23_code 35 = .ok (.iadd, 1) := by decide +kernel
theorem d_Parser_readPair_36 : decode prog_5_method_23_code 36 = .ok (.invokevirtual 177, 3) := by decide +kernel
theorem d_Parser_readPair_39 : decode prog_5_method_23_code 39 = .ok (.ifCond .eq 35, 3) := by decide +kernel
theorem d_Parser_readPair_42 : decode prog_5_method_23_code 42 = .ok (.aload_n 0, 1) := by decide +kernel
theorem d_Parser_readPair_43 : decode prog_5_method_23_code 43 = .ok (.bipush 44, 2) := by decide +kernel
theorem d_Parser_readPair_45 : decode prog_5_method_23_code 45 = .ok (.invokevirtual 56, 3) := by decide +kernel
theorem d_Parser_readPair_48 : decode prog_5_method_23_code 48 = .ok (.ifCond .eq 26, 3) := by decide +kernel
theorem d_Parser_readPair_51 : decode prog_5_method_23_code 51 = .ok (.aload_n 0, 1) := by decide +kernel
theorem d_Parser_readPair_52 : decode prog_5_method_23_code 52 = .ok (.iload_n 1, 1) := by decide +kernel
theorem d_Parser_readPair_53 : decode prog_5_method_23_code 53 = .ok (.iconst 1, 1) := by decide +kernel
theorem d_Parser_readPair_54 : decode prog_5_method_23_code 54 = .ok (.iadd, 1) := by decide +kernel
theorem d_Parser_readPair_55 : decode prog_5_method_23_code 55 = .ok (.invokevirtual 177, 3) := by decide +kernel
theorem d_Parser_readPair_58 : decode prog_5_method_23_code 58 = .ok (.ifCond .eq 16, 3) := by decide +kernel
theorem d_Parser_readPair_61 : decode prog_5_method_23_code 61 = .ok (.aload_n 0, 1) := by decide +kernel
theorem d_Parser_readPair_62 : decode prog_5_method_23_code 62 = .ok (.bipush 41, 2) := by decide +kernel
theorem d_Parser_readPair_64 : decode prog_5_method_23_code 64 = .ok (.invokevirtual 56, 3) := by decide +kernel
theorem d_Parser_readPair_67 : decode prog_5_method_23_code 67 = .ok (.ifCond .eq 7, 3) := by decide +kernel
theorem d_Parser_readPair_70 : decode prog_5_method_23_code 70 = .ok (.iconst 1, 1) := by decide +kernel
theorem d_Parser_readPair_71 : decode prog_5_method_23_code 71 = .ok (.goto 4, 3) := by decide +kernel
theorem d_Parser_readPair_74 : decode prog_5_method_23_code 74 = .ok (.iconst 0, 1) := by decide +kernel
theorem d_Parser_readPair_75 : decode prog_5_method_23_code 75 = .ok (.istore_n 3, 1) := by decide +kernel
theorem d_Parser_readPair_76 : decode prog_5_method_23_code 76 = .ok (.iload_n 3, 1) := by decide +kernel
theorem d_Parser_readPair_77 : decode prog_5_method_23_code 77 = .ok (.ifCond .eq 11, 3) := by decide +kernel
theorem d_Parser_readPair_80 : decode prog_5_method_23_code 80 = .ok (.aload_n 0, 1) := by decide +kernel
theorem d_Parser_readPair_81 : decode prog_5_method_23_code 81 = .ok (.getfield 21, 3) := by decide +kernel
theorem d_Parser_readPair_84 : decode prog_5_method_23_code 84 = .ok (.iload_n 2, 1) := by decide +kernel
theorem d_Parser_readPair_85 : decode prog_5_method_23_code 85 = .ok (.invokevirtual 167, 3) := by decide +kernel
theorem d_Parser_readPair_88 : decode prog_5_method_23_code 88 = .ok (.iload_n 3, 1) := by decide +kernel
theorem d_Parser_readPair_89 : decode prog_5_method_23_code 89 = .ok (.ireturn, 1) := by decide +kernel
def f_Tape_add_3b (k3 : Int32 → Int32 → St → Option (St)) (x1 : Int32) (x2 : Int32) (σ : St) : Option (St) :=
  if x2 < 0 then
    some σ
  else
    if 1600 ≤ (sI σ 3) then
      some σ
    else
      gd (inB (sI σ 3) 1600) <|
      lt (uA σ 0 (upd (sA σ 0) (sI σ 3).toNatClampNeg ((x1 >>> (x2 &&& 31)) &&& 255))) fun σ_2 =>
      lt (uI σ_2 3 ((sI σ_2 3) + 1)) fun σ_3 =>
      lt ((x2 + (-8))) fun x_4 =>
      k3 x1 x_4 σ_3
def f_Tape_add_3 : Nat → Int32 → Int32 → St → Option (St)
  | 0 => fun _ _ _ => none
  | n + 1 => f_Tape_add_3b   (f_Tape_add_3   n)
def f_Tape_add (x1 : Int32) (σ : St) : Option (St) :=
  f_Tape_add_3 FU x1 24 σ
set_option maxHeartbeats 4000000 in
set_option maxRecDepth 20000 in
theorem t_Tape_add_3b {σ2 : St} (C : Cx g A p s m av meth c prog_8_method_2_code 3 "BellHammer$Tape" none) {k3 : Int32 → Int32 → St → Option (St)} (hk3 : ∀ (x1 : Int32) (x2 : Int32) (σ : St) (H : Heap) (locs : List Loc) (ls : Array Slot), k3 x1 x2 σ = some σ2 → Wd g (wX g q) A s σ H locs → lv_has ls 3 [(0, .ref (q 1)), (1, .int x1), (2, .int x2)] → WK p l e s m av below meth c 0 g (wX g q) A none σ2 H locs (F0 m 3 ls []))  {x1 : Int32} {x2 : Int32} {σ : St} {H : Heap} {locs : List Loc} {ls : Array Slot} (hf : f_Tape_add_3b  k3 x1 x2 σ = some σ2) (w : Wd g (wX g q) A s σ H locs) (hl : lv_has ls 3 [(0, .ref (q 1)), (1, .int x1), (2, .int x2)]) : WK p l e s m av below meth c 0 g (wX g q) A none σ2 H locs (F0 m 3 ls []) := by
  obtain ⟨hx, hb, hml, hown, hts, hK, hA, hZ, hlocks, hr, hN⟩ := id C
  unfold f_Tape_add_3b at hf
  refine lv_iload_n hx hb d_Tape_add_3 rfl (lv_at hl 2 rfl) ?_
  refine lv_if_lt (tgt := 51) hx hb d_Tape_add_4 (by decide) (fun cd => ?_) (fun cd => ?_)
  · have hf := it_e cd hf
    cases some_e hf
    exact k_vret C w d_Tape_add_51
  · have hf := if_e cd hf
    refine lv_aload_n hx hb d_Tape_add_7 rfl (lv_at hl 0 rfl) ?_
    refine xg_1_size C w k136 d_Tape_add_8 ?_
    refine lv_aload_n hx hb d_Tape_add_11 rfl (lv_at hl 0 rfl) ?_
    refine xg_1_bytes C w k133 d_Tape_add_12 ?_
    refine xn_2 C w d_Tape_add_15 ?_
    refine lv_icmp_ge (tgt := 51) hx hb d_Tape_add_16 (by decide) (fun cd => ?_) (fun cd => ?_)
    · have hf := it_e cd hf
      cases some_e hf
      exact k_vret C w d_Tape_add_51
    · have hf := if_e cd hf
      refine lv_aload_n hx hb d_Tape_add_19 rfl (lv_at hl 0 rfl) ?_
      refine xg_1_bytes C w k133 d_Tape_add_20 ?_
      refine lv_aload_n hx hb d_Tape_add_23 rfl (lv_at hl 0 rfl) ?_
      refine xg_1_size C w k136 d_Tape_add_24 ?_
      refine lv_iload_n hx hb d_Tape_add_27 rfl (lv_at hl 1 rfl) ?_
      refine lv_iload_n hx hb d_Tape_add_28 rfl (lv_at hl 2 rfl) ?_
      refine lv_ishr hx hb d_Tape_add_29 ?_
      refine lv_sipush (v := 255) hx hb d_Tape_add_30 (by decide) ?_
      refine lv_iand hx hb d_Tape_add_33 ?_
      obtain ⟨g_1, hf⟩ := gd_e hf
      refine xs_2 C w g_1 d_Tape_add_34 (fun σ_2 H locs eσ_2 w => ?_)
      have hf := lt_e eσ_2 hf
      refine lv_aload_n hx hb d_Tape_add_35 rfl (lv_at hl 0 rfl) ?_
      refine lv_dup hx hb d_Tape_add_36 rfl ?_
      refine xg_1_size C w k136 d_Tape_add_37 ?_
      refine lv_iconst (v := 1) hx hb d_Tape_add_40 (by decide) ?_
      refine lv_iadd hx hb d_Tape_add_41 ?_
      refine xp_1_size C w k136 d_Tape_add_42 (fun σ_3 H locs eσ_3 w => ?_)
      have hf := lt_e eσ_3 hf
      obtain ⟨x_4, ex_4⟩ : ∃ y : Int32, y = (x2 + (-8)) := ⟨_, rfl⟩
      have hf := lt_e ex_4 hf
      refine lv_iinc (v := x_4) (lv' := [(2, .int x_4), (0, .ref (q 1)), (1, .int x1)]) hx hb d_Tape_add_45 hl (k := 2) rfl (by rw [ex_4]; rfl) (by decide) rfl (fun ls hl => ?_)
      refine lv_goto (tgt := 3) hx hb d_Tape_add_48 (by decide) ?_
      exact hk3 x1 x_4 σ_3 _ _ _ hf w (lv_sub hl [1, 2, 0] rfl)
set_option maxHeartbeats 4000000 in
set_option maxRecDepth 20000 in
theorem t_Tape_add_3 {σ2 : St} (C : Cx g A p s m av meth c prog_8_method_2_code 3 "BellHammer$Tape" none)  : ∀ (n : Nat) (x1 : Int32) (x2 : Int32) (σ : St) (H : Heap) (locs : List Loc) (ls : Array Slot), f_Tape_add_3   n x1 x2 σ = some σ2 → Wd g (wX g q) A s σ H locs → lv_has ls 3 [(0, .ref (q 1)), (1, .int x1), (2, .int x2)] → WK p l e s m av below meth c 0 g (wX g q) A none σ2 H locs (F0 m 3 ls []) := by
  intro n
  induction n with
  | zero => intro x1 x2 σ H locs ls hf; exact absurd hf (by intro z; cases z)
  | succ n ih => intro x1 x2 σ H locs ls hf w hl; exact t_Tape_add_3b C  ih hf w hl
set_option maxHeartbeats 4000000 in
set_option maxRecDepth 20000 in
theorem c_Tape_add {l : Launch} {g : GX} {q : Nat → Nat} {x1 : Int32}  {σ : St} {σ2 : St} (hf : f_Tape_add  x1 σ = some σ2) : KK l y_Tape_add prog_8_method_2_code 3 none 0 g (wX g q) σ [.ref (q 1), .int x1] none (wX g q) σ2 := by
  refine KK_of (plainFor_of_name (by decide)) (Nat.le_of_ble_eq_true rfl) (fun p e s m below meth c A ls C w hl => ?_)
  have hl : lv_has ls 3 [(0, .ref (q 1)), (1, .int x1)] := hl
  obtain ⟨hx, hb, hml, hown, hts, hK, hA, hZ, hlocks, hr, hN⟩ := id C
  unfold f_Tape_add at hf
  refine lv_bipush (v := 24) hx hb d_Tape_add_0 (by decide) ?_
  refine lv_istore_n (lv' := [(2, .int 24), (0, .ref (q 1)), (1, .int x1)]) hx hb d_Tape_add_2 rfl hl (by decide) rfl (fun ls hl => ?_)
  exact t_Tape_add_3 C  FU x1 24 σ _ _ _ hf w (lv_sub hl [1, 2, 0] rfl)
def f_BH_feed (x1 : Int32) (x2 : Int32) (x3 : Int32) (x4 : Int32) (x5 : Int32) (σ : St) : Option (Int32 × St) :=
  if ((sI σ 3) + 20) ≤ 1600 then
    bp (f_Tape_add x1 σ) fun σ_2 =>
    bp (f_Tape_add x2 σ_2) fun σ_4 =>
    bp (f_Tape_add x3 σ_4) fun σ_6 =>
    bp (f_Tape_add x4 σ_6) fun σ_8 =>
    bp (f_Tape_add x5 σ_8) fun σ_10 =>
    some ((sI σ_10 3), σ_10)
  else
    lt (uA σ 30 (upd (sA σ 30) (0 : Int32).toNatClampNeg ((sA σ 30 (0 : Int32).toNatClampNeg) + 1))) fun σ_11 =>
    some ((-1), σ_11)
set_option maxHeartbeats 4000000 in
set_option maxRecDepth 20000 in
theorem c_BH_feed {l : Launch} {g : GX} {q : Nat → Nat} {x1 : Int32} {x2 : Int32} {x3 : Int32} {x4 : Int32} {x5 : Int32}  {σ : St} {r : Int32} {σ2 : St} (hf : f_BH_feed  x1 x2 x3 x4 x5 σ = some (r, σ2)) : KK l y_BH_feed prog_1_method_2_code 6 (some .int) 1 g (wX g q) σ [.ref (q 0), .int x1, .int x2, .int x3, .int x4, .int x5] (some (.int r)) (wX g q) σ2 := by
  refine KK_of (plainFor_of_name (by decide)) (Nat.le_of_ble_eq_true rfl) (fun p e s m below meth c A ls C w hl => ?_)
  have hl : lv_has ls 6 [(0, .ref (q 0)), (1, .int x1), (2, .int x2), (3, .int x3), (4, .int x4), (5, .int x5)] := hl
  obtain ⟨hx, hb, hml, hown, hts, hK, hA, hZ, hlocks, hr, hN⟩ := id C
  unfold f_BH_feed at hf
  refine lv_aload_n hx hb d_BH_feed_0 rfl (lv_at hl 0 rfl) ?_
  refine xg_0_tape C w k507 d_BH_feed_1 ?_
  refine xg_1_size C w k135 d_BH_feed_4 ?_
  refine lv_bipush (v := 20) hx hb d_BH_feed_7 (by decide) ?_
  refine lv_iadd hx hb d_BH_feed_9 ?_
  refine lv_sipush (v := 1600) hx hb d_BH_feed_10 (by decide) ?_
  refine lv_icmp_le (tgt := 28) hx hb d_BH_feed_13 (by decide) (fun cd => ?_) (fun cd => ?_)
  · have hf := it_e cd hf
    refine lv_aload_n hx hb d_BH_feed_28 rfl (lv_at hl 0 rfl) ?_
    refine xg_0_tape C w k507 d_BH_feed_29 ?_
    refine lv_iload_n hx hb d_BH_feed_32 rfl (lv_at hl 1 rfl) ?_
    obtain ⟨σ_2, h_1, hf⟩ := bp_e hf
    refine k_callV (As := [.int x1]) (rest := []) C w (c_Tape_add (q := q) h_1) cv_Tape_add k551 (xr_1 C w) (by decide) hl.1 rfl (Nat.le_of_ble_eq_true rfl) d_BH_feed_33 (fun H locs w => ?_)
    show WK p l e s m _ below meth c 1 g (wX g q) A (some (.int r)) σ2 H locs (F0 m 36 ls [])
    refine lv_aload_n hx hb d_BH_feed_36 rfl (lv_at hl 0 rfl) ?_
    refine xg_0_tape C w k507 d_BH_feed_37 ?_
    refine lv_iload_n hx hb d_BH_feed_40 rfl (lv_at hl 2 rfl) ?_
    obtain ⟨σ_4, h_3, hf⟩ := bp_e hf
    refine k_callV (As := [.int x2]) (rest := []) C w (c_Tape_add (q := q) h_3) cv_Tape_add k551 (xr_1 C w) (by decide) hl.1 rfl (Nat.le_of_ble_eq_true rfl) d_BH_feed_41 (fun H locs w => ?_)
    show WK p l e s m _ below meth c 1 g (wX g q) A (some (.int r)) σ2 H locs (F0 m 44 ls [])
    refine lv_aload_n hx hb d_BH_feed_44 rfl (lv_at hl 0 rfl) ?_
    refine xg_0_tape C w k507 d_BH_feed_45 ?_
    refine lv_iload_n hx hb d_BH_feed_48 rfl (lv_at hl 3 rfl) ?_
    obtain ⟨σ_6, h_5, hf⟩ := bp_e hf
    refine k_callV (As := [.int x3]) (rest := []) C w (c_Tape_add (q := q) h_5) cv_Tape_add k551 (xr_1 C w) (by decide) hl.1 rfl (Nat.le_of_ble_eq_true rfl) d_BH_feed_49 (fun H locs w => ?_)
    show WK p l e s m _ below meth c 1 g (wX g q) A (some (.int r)) σ2 H locs (F0 m 52 ls [])
    refine lv_aload_n hx hb d_BH_feed_52 rfl (lv_at hl 0 rfl) ?_
    refine xg_0_tape C w k507 d_BH_feed_53 ?_
    refine lv_iload hx hb d_BH_feed_56 (lv_at hl 4 rfl) ?_
    obtain ⟨σ_8, h_7, hf⟩ := bp_e hf
    refine k_callV (As := [.int x4]) (rest := []) C w (c_Tape_add (q := q) h_7) cv_Tape_add k551 (xr_1 C w) (by decide) hl.1 rfl (Nat.le_of_ble_eq_true rfl) d_BH_feed_58 (fun H locs w => ?_)
    show WK p l e s m _ below meth c 1 g (wX g q) A (some (.int r)) σ2 H locs (F0 m 61 ls [])
    refine lv_aload_n hx hb d_BH_feed_61 rfl (lv_at hl 0 rfl) ?_
    refine xg_0_tape C w k507 d_BH_feed_62 ?_
    refine lv_iload hx hb d_BH_feed_65 (lv_at hl 5 rfl) ?_
    obtain ⟨σ_10, h_9, hf⟩ := bp_e hf
    refine k_callV (As := [.int x5]) (rest := []) C w (c_Tape_add (q := q) h_9) cv_Tape_add k551 (xr_1 C w) (by decide) hl.1 rfl (Nat.le_of_ble_eq_true rfl) d_BH_feed_67 (fun H locs w => ?_)
    show WK p l e s m _ below meth c 1 g (wX g q) A (some (.int r)) σ2 H locs (F0 m 70 ls [])
    refine lv_aload_n hx hb d_BH_feed_70 rfl (lv_at hl 0 rfl) ?_
    refine xg_0_tape C w k507 d_BH_feed_71 ?_
    refine xg_1_size C w k135 d_BH_feed_74 ?_
    obtain ⟨rfl, rfl⟩ := some2_e hf
    exact k_iret C w d_BH_feed_77
  · have hf := if_e cd hf
    refine lv_aload_n hx hb d_BH_feed_16 rfl (lv_at hl 0 rfl) ?_
    refine xg_0_refused C w k519 d_BH_feed_17 ?_
    refine lv_iconst (v := 0) hx hb d_BH_feed_20 (by decide) ?_
    refine lv_dup2_11 hx hb d_BH_feed_21 rfl rfl ?_
    refine xl_44 C w (by decide) d_BH_feed_22 ?_
    refine lv_iconst (v := 1) hx hb d_BH_feed_23 (by decide) ?_
    refine lv_iadd hx hb d_BH_feed_24 ?_
    refine xs_44 C w (by decide) d_BH_feed_25 (fun σ_11 H locs eσ_11 w => ?_)
    have hf := lt_e eσ_11 hf
    refine lv_iconst (v := (-1)) hx hb d_BH_feed_26 (by decide) ?_
    obtain ⟨rfl, rfl⟩ := some2_e hf
    exact k_iret C w d_BH_feed_27
def f_BH_end_15 (σ : St) : Option (Int32 × St) :=
  lt (uA σ 30 (upd (sA σ 30) (0 : Int32).toNatClampNeg ((sA σ 30 (0 : Int32).toNatClampNeg) + 1))) fun σ_1 =>
  some (0, σ_1)
def f_BH_end (x1 : Int32) (σ : St) : Option (Int32 × St) :=
  if x1 < 0 then
    f_BH_end_15 σ
  else
    if x1 ≤ (sI σ 3) then
      lt (uI σ 3 x1) fun σ_1 =>
      some (1, σ_1)
    else
      f_BH_end_15 σ
set_option maxHeartbeats 4000000 in
set_option maxRecDepth 20000 in
theorem t_BH_end_15 {r : Int32} {σ2 : St} (C : Cx g A p s m av meth c prog_1_method_3_code 2 "BellHammer" (some .boolean))  {σ : St} {H : Heap} {locs : List Loc} {ls : Array Slot} (hf : f_BH_end_15    σ = some (r, σ2)) (w : Wd g (wX g q) A s σ H locs) (hl : lv_has ls 2 [(0, .ref (q 0))]) : WK p l e s m av below meth c 0 g (wX g q) A (some (.int r)) σ2 H locs (F0 m 15 ls []) := by
  obtain ⟨hx, hb, hml, hown, hts, hK, hA, hZ, hlocks, hr, hN⟩ := id C
  unfold f_BH_end_15 at hf
  refine lv_aload_n hx hb d_BH_end_15 rfl (lv_at hl 0 rfl) ?_
  refine xg_0_refused C w k519 d_BH_end_16 ?_
  refine lv_iconst (v := 0) hx hb d_BH_end_19 (by decide) ?_
  refine lv_dup2_11 hx hb d_BH_end_20 rfl rfl ?_
  refine xl_44 C w (by decide) d_BH_end_21 ?_
  refine lv_iconst (v := 1) hx hb d_BH_end_22 (by decide) ?_
  refine lv_iadd hx hb d_BH_end_23 ?_
  refine xs_44 C w (by decide) d_BH_end_24 (fun σ_1 H locs eσ_1 w => ?_)
  have hf := lt_e eσ_1 hf
  refine lv_iconst (v := 0) hx hb d_BH_end_25 (by decide) ?_
  obtain ⟨rfl, rfl⟩ := some2_e hf
  exact k_zret C w (by decide) d_BH_end_26
set_option maxHeartbeats 4000000 in
set_option maxRecDepth 20000 in
theorem c_BH_end {l : Launch} {g : GX} {q : Nat → Nat} {x1 : Int32}  {σ : St} {r : Int32} {σ2 : St} (hf : f_BH_end  x1 σ = some (r, σ2)) : KK l y_BH_end prog_1_method_3_code 2 (some .boolean) 0 g (wX g q) σ [.ref (q 0), .int x1] (some (.int r)) (wX g q) σ2 := by
  refine KK_of (plainFor_of_name (by decide)) (Nat.le_of_ble_eq_true rfl) (fun p e s m below meth c A ls C w hl => ?_)
  have hl : lv_has ls 2 [(0, .ref (q 0)), (1, .int x1)] := hl
  obtain ⟨hx, hb, hml, hown, hts, hK, hA, hZ, hlocks, hr, hN⟩ := id C
  unfold f_BH_end at hf
  refine lv_iload_n hx hb d_BH_end_0 rfl (lv_at hl 1 rfl) ?_
  refine lv_if_lt (tgt := 15) hx hb d_BH_end_1 (by decide) (fun cd => ?_) (fun cd => ?_)
  · have hf := it_e cd hf
    exact t_BH_end_15 C  hf w (lv_sub hl [0] rfl)
  · have hf := if_e cd hf
    refine lv_iload_n hx hb d_BH_end_4 rfl (lv_at hl 1 rfl) ?_
    refine lv_aload_n hx hb d_BH_end_5 rfl (lv_at hl 0 rfl) ?_
    refine xg_0_tape C w k507 d_BH_end_6 ?_
    refine xg_1_size C w k135 d_BH_end_9 ?_
    refine lv_icmp_le (tgt := 27) hx hb d_BH_end_12 (by decide) (fun cd => ?_) (fun cd => ?_)
    · have hf := it_e cd hf
      refine lv_aload_n hx hb d_BH_end_27 rfl (lv_at hl 0 rfl) ?_
      refine xg_0_tape C w k507 d_BH_end_28 ?_
      refine lv_iload_n hx hb d_BH_end_31 rfl (lv_at hl 1 rfl) ?_
      refine xp_1_size C w k135 d_BH_end_32 (fun σ_1 H locs eσ_1 w => ?_)
      have hf := lt_e eσ_1 hf
      refine lv_iconst (v := 1) hx hb d_BH_end_35 (by decide) ?_
      obtain ⟨rfl, rfl⟩ := some2_e hf
      exact k_zret C w (by decide) d_BH_end_36
    · have hf := if_e cd hf
      exact t_BH_end_15 C  hf w (lv_sub hl [0] rfl)
def f_Fair_forget (σ : St) : Option (St) :=
  lt (uA σ 6 (va_cpy (stF 2) (sA σ 6) (0 : Int32).toNatClampNeg (0 : Int32).toNatClampNeg (9 : Int32).toNatClampNeg)) fun σ_1 =>
  lt (uI σ_1 12 0) fun σ_2 =>
  lt (uI σ_2 13 0) fun σ_3 =>
  lt (uI σ_3 14 0) fun σ_4 =>
  lt (uI σ_4 15 0) fun σ_5 =>
  lt (uI σ_5 16 0) fun σ_6 =>
  some σ_6
set_option maxHeartbeats 4000000 in
set_option maxRecDepth 20000 in
theorem c_Fair_forget {l : Launch} {g : GX} {q : Nat → Nat}  {σ : St} {σ2 : St} (hf : f_Fair_forget   σ = some σ2) : KK l y_Fair_forget prog_3_method_2_code 1 none 1 g (wX g q) σ [.ref (q 6)] none (wX g q) σ2 := by
  refine KK_of (plainFor_of_name (by decide)) (Nat.le_of_ble_eq_true rfl) (fun p e s m below meth c A ls C w hl => ?_)
  have hl : lv_has ls 1 [(0, .ref (q 6))] := hl
  obtain ⟨hx, hb, hml, hown, hts, hK, hA, hZ, hlocks, hr, hN⟩ := id C
  unfold f_Fair_forget at hf
  refine r_getsN C w 2 rfl (List.mem_of_getElem? (l := nestF) (i := 0) rfl) d_Fair_forget_0 ?_
  refine lv_iconst (v := 0) hx hb d_Fair_forget_3 (by decide) ?_
  refine lv_aload_n hx hb d_Fair_forget_4 rfl (lv_at hl 0 rfl) ?_
  refine xg_6_settings C w k260 d_Fair_forget_5 ?_
  refine lv_iconst (v := 0) hx hb d_Fair_forget_8 (by decide) ?_
  refine lv_bipush (v := 9) hx hb d_Fair_forget_9 (by decide) ?_
  refine xc_S2_11 C w hl.1 (by omega) (Nat.le_of_ble_eq_true rfl) (by decide) (by decide) (by decide) (by decide) (by decide) k246 d_Fair_forget_11 (fun σ_1 H locs eσ_1 w => ?_)
  have hf := lt_e eσ_1 hf
  refine lv_aload_n hx hb d_Fair_forget_14 rfl (lv_at hl 0 rfl) ?_
  refine lv_iconst (v := 0) hx hb d_Fair_forget_15 (by decide) ?_
  refine xp_6_codeSize C w k270 d_Fair_forget_16 (fun σ_2 H locs eσ_2 w => ?_)
  have hf := lt_e eσ_2 hf
  refine lv_aload_n hx hb d_Fair_forget_19 rfl (lv_at hl 0 rfl) ?_
  refine lv_iconst (v := 0) hx hb d_Fair_forget_20 (by decide) ?_
  refine xp_6_marks C w k272 d_Fair_forget_21 (fun σ_3 H locs eσ_3 w => ?_)
  have hf := lt_e eσ_3 hf
  refine lv_aload_n hx hb d_Fair_forget_24 rfl (lv_at hl 0 rfl) ?_
  refine lv_iconst (v := 0) hx hb d_Fair_forget_25 (by decide) ?_
  refine xp_6_triers C w k275 d_Fair_forget_26 (fun σ_4 H locs eσ_4 w => ?_)
  have hf := lt_e eσ_4 hf
  refine lv_aload_n hx hb d_Fair_forget_29 rfl (lv_at hl 0 rfl) ?_
  refine lv_iconst (v := 0) hx hb d_Fair_forget_30 (by decide) ?_
  refine xp_6_rules C w k280 d_Fair_forget_31 (fun σ_5 H locs eσ_5 w => ?_)
  have hf := lt_e eσ_5 hf
  refine lv_aload_n hx hb d_Fair_forget_34 rfl (lv_at hl 0 rfl) ?_
  refine lv_iconst (v := 0) hx hb d_Fair_forget_35 (by decide) ?_
  refine xp_6_statements C w k285 d_Fair_forget_36 (fun σ_6 H locs eσ_6 w => ?_)
  have hf := lt_e eσ_6 hf
  cases some_e hf
  exact k_vret C w d_Fair_forget_39
def f_Reader_readNumber_71 (k0 : St → Option (St)) (σ : St) : Option (St) :=
  lt (uI σ 10 ((sI σ 10) + 1)) fun σ_1 =>
  lt (uI σ_1 7 ((sI σ_1 7) + 1)) fun σ_2 =>
  k0 σ_2
def f_Reader_readNumber_0b (k0 : St → Option (St)) (σ : St) : Option (St) :=
  if (sI σ 6) ≤ (sI σ 7) then
    some σ
  else
    gd (inB (sI σ 7) 1600) <|
    if (sA σ 0 (sI σ 7).toNatClampNeg) < 48 then
      some σ
    else
      gd (inB (sI σ 7) 1600) <|
      if 57 < (sA σ 0 (sI σ 7).toNatClampNeg) then
        some σ
      else
        if 4 ≤ (sI σ 10) then
          f_Reader_readNumber_71 k0 σ
        else
          gd (inB (sI σ 7) 1600) <|
          lt (uI σ 11 ((((sI σ 11) * 10) + (sA σ 0 (sI σ 7).toNatClampNeg)) - 48)) fun σ_4 =>
          f_Reader_readNumber_71 k0 σ_4
def f_Reader_readNumber_0 : Nat → St → Option (St)
  | 0 => fun  _ => none
  | n + 1 => f_Reader_readNumber_0b   (f_Reader_readNumber_0   n)
def f_Reader_readNumber (σ : St) : Option (St) :=
  f_Reader_readNumber_0 FU σ
set_option maxHeartbeats 4000000 in
set_option maxRecDepth 20000 in
theorem t_Reader_readNumber_71 {σ2 : St} (C : Cx g A p s m av meth c prog_6_method_5_code 1 "BellHammer$Reader" none) {k0 : St → Option (St)} (hk0 : ∀  (σ : St) (H : Heap) (locs : List Loc) (ls : Array Slot), k0  σ = some σ2 → Wd g (wX g (qt q)) A s σ H locs → lv_has ls 1 [(0, .ref (qt q 4))] → WK p l e s m av below meth c 0 g (wX g (qt q)) A none σ2 H locs (F0 m 0 ls []))  {σ : St} {H : Heap} {locs : List Loc} {ls : Array Slot} (hf : f_Reader_readNumber_71  k0  σ = some σ2) (w : Wd g (wX g (qt q)) A s σ H locs) (hl : lv_has ls 1 [(0, .ref (qt q 4))]) : WK p l e s m av below meth c 0 g (wX g (qt q)) A none σ2 H locs (F0 m 71 ls []) := by
  obtain ⟨hx, hb, hml, hown, hts, hK, hA, hZ, hlocks, hr, hN⟩ := id C
  unfold f_Reader_readNumber_71 at hf
  refine lv_aload_n hx hb d_Reader_readNumber_71 rfl (lv_at hl 0 rfl) ?_
  refine lv_dup hx hb d_Reader_readNumber_72 rfl ?_
  refine xg_4_size C w k212 d_Reader_readNumber_73 ?_
  refine lv_iconst (v := 1) hx hb d_Reader_readNumber_76 (by decide) ?_
  refine lv_iadd hx hb d_Reader_readNumber_77 ?_
  refine xp_4_size C w k212 d_Reader_readNumber_78 (fun σ_1 H locs eσ_1 w => ?_)
  have hf := lt_e eσ_1 hf
  refine lv_aload_n hx hb d_Reader_readNumber_81 rfl (lv_at hl 0 rfl) ?_
  refine lv_dup hx hb d_Reader_readNumber_82 rfl ?_
  refine xg_4_at C w k207 d_Reader_readNumber_83 ?_
  refine lv_iconst (v := 1) hx hb d_Reader_readNumber_86 (by decide) ?_
  refine lv_iadd hx hb d_Reader_readNumber_87 ?_
  refine xp_4_at C w k207 d_Reader_readNumber_88 (fun σ_2 H locs eσ_2 w => ?_)
  have hf := lt_e eσ_2 hf
  refine lv_goto (tgt := 0) hx hb d_Reader_readNumber_91 (by decide) ?_
  exact hk0  σ_2 _ _ _ hf w (lv_sub hl [0] rfl)
set_option maxHeartbeats 4000000 in
set_option maxRecDepth 20000 in
theorem t_Reader_readNumber_0b {σ2 : St} (C : Cx g A p s m av meth c prog_6_method_5_code 1 "BellHammer$Reader" none) {k0 : St → Option (St)} (hk0 : ∀  (σ : St) (H : Heap) (locs : List Loc) (ls : Array Slot), k0  σ = some σ2 → Wd g (wX g (qt q)) A s σ H locs → lv_has ls 1 [(0, .ref (qt q 4))] → WK p l e s m av below meth c 0 g (wX g (qt q)) A none σ2 H locs (F0 m 0 ls []))  {σ : St} {H : Heap} {locs : List Loc} {ls : Array Slot} (hf : f_Reader_readNumber_0b  k0  σ = some σ2) (w : Wd g (wX g (qt q)) A s σ H locs) (hl : lv_has ls 1 [(0, .ref (qt q 4))]) : WK p l e s m av below meth c 0 g (wX g (qt q)) A none σ2 H locs (F0 m 0 ls []) := by
  obtain ⟨hx, hb, hml, hown, hts, hK, hA, hZ, hlocks, hr, hN⟩ := id C
  unfold f_Reader_readNumber_0b at hf
  refine lv_aload_n hx hb d_Reader_readNumber_0 rfl (lv_at hl 0 rfl) ?_
  refine xg_4_at C w k207 d_Reader_readNumber_1 ?_
  refine lv_aload_n hx hb d_Reader_readNumber_4 rfl (lv_at hl 0 rfl) ?_
  refine xg_4_length C w k206 d_Reader_readNumber_5 ?_
  refine lv_icmp_ge (tgt := 94) hx hb d_Reader_readNumber_8 (by decide) (fun cd => ?_) (fun cd => ?_)
  · have hf := it_e cd hf
    cases some_e hf
    exact k_vret C w d_Reader_readNumber_94
  · have hf := if_e cd hf
    refine lv_aload_n hx hb d_Reader_readNumber_11 rfl (lv_at hl 0 rfl) ?_
    refine xg_text C w k205 d_Reader_readNumber_12 ?_
    refine lv_aload_n hx hb d_Reader_readNumber_15 rfl (lv_at hl 0 rfl) ?_
    refine xg_4_at C w k207 d_Reader_readNumber_16 ?_
    obtain ⟨g_1, hf⟩ := gd_e hf
    refine xl_2 C w g_1 d_Reader_readNumber_19 ?_
    refine lv_bipush (v := 48) hx hb d_Reader_readNumber_20 (by decide) ?_
    refine lv_icmp_lt (tgt := 94) hx hb d_Reader_readNumber_22 (by decide) (fun cd => ?_) (fun cd => ?_)
    · have hf := it_e cd hf
      cases some_e hf
      exact k_vret C w d_Reader_readNumber_94
    · have hf := if_e cd hf
      refine lv_aload_n hx hb d_Reader_readNumber_25 rfl (lv_at hl 0 rfl) ?_
      refine xg_text C w k205 d_Reader_readNumber_26 ?_
      refine lv_aload_n hx hb d_Reader_readNumber_29 rfl (lv_at hl 0 rfl) ?_
      refine xg_4_at C w k207 d_Reader_readNumber_30 ?_
      obtain ⟨g_2, hf⟩ := gd_e hf
      refine xl_2 C w g_2 d_Reader_readNumber_33 ?_
      refine lv_bipush (v := 57) hx hb d_Reader_readNumber_34 (by decide) ?_
      refine lv_icmp_gt (tgt := 94) hx hb d_Reader_readNumber_36 (by decide) (fun cd => ?_) (fun cd => ?_)
      · have hf := it_e cd hf
        cases some_e hf
        exact k_vret C w d_Reader_readNumber_94
      · have hf := if_e cd hf
        refine lv_aload_n hx hb d_Reader_readNumber_39 rfl (lv_at hl 0 rfl) ?_
        refine xg_4_size C w k212 d_Reader_readNumber_40 ?_
        refine lv_iconst (v := 4) hx hb d_Reader_readNumber_43 (by decide) ?_
        refine lv_icmp_ge (tgt := 71) hx hb d_Reader_readNumber_44 (by decide) (fun cd => ?_) (fun cd => ?_)
        · have hf := it_e cd hf
          exact t_Reader_readNumber_71 C hk0 hf w (lv_sub hl [0] rfl)
        · have hf := if_e cd hf
          refine lv_aload_n hx hb d_Reader_readNumber_47 rfl (lv_at hl 0 rfl) ?_
          refine lv_aload_n hx hb d_Reader_readNumber_48 rfl (lv_at hl 0 rfl) ?_
          refine xg_4_value C w k214 d_Reader_readNumber_49 ?_
          refine lv_bipush (v := 10) hx hb d_Reader_readNumber_52 (by decide) ?_
          refine lv_imul hx hb d_Reader_readNumber_54 ?_
          refine lv_aload_n hx hb d_Reader_readNumber_55 rfl (lv_at hl 0 rfl) ?_
          refine xg_text C w k205 d_Reader_readNumber_56 ?_
          refine lv_aload_n hx hb d_Reader_readNumber_59 rfl (lv_at hl 0 rfl) ?_
          refine xg_4_at C w k207 d_Reader_readNumber_60 ?_
          obtain ⟨g_3, hf⟩ := gd_e hf
          refine xl_2 C w g_3 d_Reader_readNumber_63 ?_
          refine lv_iadd hx hb d_Reader_readNumber_64 ?_
          refine lv_bipush (v := 48) hx hb d_Reader_readNumber_65 (by decide) ?_
          refine lv_isub hx hb d_Reader_readNumber_67 ?_
          refine xp_4_value C w k214 d_Reader_readNumber_68 (fun σ_4 H locs eσ_4 w => ?_)
          have hf := lt_e eσ_4 hf
          exact t_Reader_readNumber_71 C hk0 hf w (lv_sub hl [0] rfl)
set_option maxHeartbeats 4000000 in
set_option maxRecDepth 20000 in
theorem t_Reader_readNumber_0 {σ2 : St} (C : Cx g A p s m av meth c prog_6_method_5_code 1 "BellHammer$Reader" none)  : ∀ (n : Nat)  (σ : St) (H : Heap) (locs : List Loc) (ls : Array Slot), f_Reader_readNumber_0   n  σ = some σ2 → Wd g (wX g (qt q)) A s σ H locs → lv_has ls 1 [(0, .ref (qt q 4))] → WK p l e s m av below meth c 0 g (wX g (qt q)) A none σ2 H locs (F0 m 0 ls []) := by
  intro n
  induction n with
  | zero => intro  σ H locs ls hf; exact absurd hf (by intro z; cases z)
  | succ n ih => intro  σ H locs ls hf w hl; exact t_Reader_readNumber_0b C  ih hf w hl
set_option maxHeartbeats 4000000 in
set_option maxRecDepth 20000 in
theorem c_Reader_readNumber {l : Launch} {g : GX} {q : Nat → Nat}  {σ : St} {σ2 : St} (hf : f_Reader_readNumber   σ = some σ2) : KK l y_Reader_readNumber prog_6_method_5_code 1 none 0 g (wX g (qt q)) σ [.ref (qt q 4)] none (wX g (qt q)) σ2 := by
  refine KK_of (plainFor_of_name (by decide)) (Nat.le_of_ble_eq_true rfl) (fun p e s m below meth c A ls C w hl => ?_)
  have hl : lv_has ls 1 [(0, .ref (qt q 4))] := hl
  obtain ⟨hx, hb, hml, hown, hts, hK, hA, hZ, hlocks, hr, hN⟩ := id C
  unfold f_Reader_readNumber at hf
  exact t_Reader_readNumber_0 C  FU  σ _ _ _ hf w (lv_sub hl [0] rfl)
def f_Reader_readWord_102b (k102 : Int32 → St → Option (St)) (x1 : Int32) (σ : St) : Option (St) :=
  if 6 ≤ x1 then
    some σ
  else
    lt (uI σ 11 ((sI σ 11) * 27)) fun σ_1 =>
    lt ((x1 + 1)) fun x_2 =>
    k102 x_2 σ_1
def f_Reader_readWord_102 : Nat → Int32 → St → Option (St)
  | 0 => fun _ _ => none
  | n + 1 => f_Reader_readWord_102b   (f_Reader_readWord_102   n)
def f_Reader_readWord_74 (k0 : St → Option (St)) (σ : St) : Option (St) :=
  lt (uI σ 10 ((sI σ 10) + 1)) fun σ_1 =>
  lt (uI σ_1 7 ((sI σ_1 7) + 1)) fun σ_2 =>
  k0 σ_2
def f_Reader_readWord_0b (k0 : St → Option (St)) (σ : St) : Option (St) :=
  if (sI σ 6) ≤ (sI σ 7) then
    lt ((sI σ 10)) fun x_1 =>
    f_Reader_readWord_102 FU x_1 σ
  else
    gd (inB (sI σ 7) 1600) <|
    if (sA σ 0 (sI σ 7).toNatClampNeg) < 97 then
      lt ((sI σ 10)) fun x_3 =>
      f_Reader_readWord_102 FU x_3 σ
    else
      gd (inB (sI σ 7) 1600) <|
      if 122 < (sA σ 0 (sI σ 7).toNatClampNeg) then
        lt ((sI σ 10)) fun x_5 =>
        f_Reader_readWord_102 FU x_5 σ
      else
        if 6 ≤ (sI σ 10) then
          f_Reader_readWord_74 k0 σ
        else
          gd (inB (sI σ 7) 1600) <|
          lt (uI σ 11 (((((sI σ 11) * 27) + (sA σ 0 (sI σ 7).toNatClampNeg)) - 97) + 1)) fun σ_7 =>
          f_Reader_readWord_74 k0 σ_7
def f_Reader_readWord_0 : Nat → St → Option (St)
  | 0 => fun  _ => none
  | n + 1 => f_Reader_readWord_0b   (f_Reader_readWord_0   n)
def f_Reader_readWord (σ : St) : Option (St) :=
  f_Reader_readWord_0 FU σ
set_option maxHeartbeats 4000000 in
set_option maxRecDepth 20000 in
theorem t_Reader_readWord_102b {σ2 : St} (C : Cx g A p s m av meth c prog_6_method_4_code 2 "BellHammer$Reader" none) {k102 : Int32 → St → Option (St)} (hk102 : ∀ (x1 : Int32) (σ : St) (H : Heap) (locs : List Loc) (ls : Array Slot), k102 x1 σ = some σ2 → Wd g (wX g (qt q)) A s σ H locs → lv_has ls 2 [(0, .ref (qt q 4)), (1, .int x1)] → WK p l e s m av below meth c 0 g (wX g (qt q)) A none σ2 H locs (F0 m 102 ls []))  {x1 : Int32} {σ : St} {H : Heap} {locs : List Loc} {ls : Array Slot} (hf : f_Reader_readWord_102b  k102 x1 σ = some σ2) (w : Wd g (wX g (qt q)) A s σ H locs) (hl : lv_has ls 2 [(0, .ref (qt q 4)), (1, .int x1)]) : WK p l e s m av below meth c 0 g (wX g (qt q)) A none σ2 H locs (F0 m 102 ls []) := by
  obtain ⟨hx, hb, hml, hown, hts, hK, hA, hZ, hlocks, hr, hN⟩ := id C
  unfold f_Reader_readWord_102b at hf
  refine lv_iload_n hx hb d_Reader_readWord_102 rfl (lv_at hl 1 rfl) ?_
  refine lv_bipush (v := 6) hx hb d_Reader_readWord_103 (by decide) ?_
  refine lv_icmp_ge (tgt := 125) hx hb d_Reader_readWord_105 (by decide) (fun cd => ?_) (fun cd => ?_)
  · have hf := it_e cd hf
    cases some_e hf
    exact k_vret C w d_Reader_readWord_125
  · have hf := if_e cd hf
    refine lv_aload_n hx hb d_Reader_readWord_108 rfl (lv_at hl 0 rfl) ?_
    refine lv_dup hx hb d_Reader_readWord_109 rfl ?_
    refine xg_4_value C w k214 d_Reader_readWord_110 ?_
    refine lv_bipush (v := 27) hx hb d_Reader_readWord_113 (by decide) ?_
    refine lv_imul hx hb d_Reader_readWord_115 ?_
    refine xp_4_value C w k214 d_Reader_readWord_116 (fun σ_1 H locs eσ_1 w => ?_)
    have hf := lt_e eσ_1 hf
    obtain ⟨x_2, ex_2⟩ : ∃ y : Int32, y = (x1 + 1) := ⟨_, rfl⟩
    have hf := lt_e ex_2 hf
    refine lv_iinc (v := x_2) (lv' := [(1, .int x_2), (0, .ref (qt q 4))]) hx hb d_Reader_readWord_119 hl (k := 1) rfl (by rw [ex_2]; rfl) (by decide) rfl (fun ls hl => ?_)
    refine lv_goto (tgt := 102) hx hb d_Reader_readWord_122 (by decide) ?_
    exact hk102 x_2 σ_1 _ _ _ hf w (lv_sub hl [1, 0] rfl)
set_option maxHeartbeats 4000000 in
set_option maxRecDepth 20000 in
theorem t_Reader_readWord_102 {σ2 : St} (C : Cx g A p s m av meth c prog_6_method_4_code 2 "BellHammer$Reader" none)  : ∀ (n : Nat) (x1 : Int32) (σ : St) (H : Heap) (locs : List Loc) (ls : Array Slot), f_Reader_readWord_102   n x1 σ = some σ2 → Wd g (wX g (qt q)) A s σ H locs → lv_has ls 2 [(0, .ref (qt q 4)), (1, .int x1)] → WK p l e s m av below meth c 0 g (wX g (qt q)) A none σ2 H locs (F0 m 102 ls []) := by
  intro n
  induction n with
  | zero => intro x1 σ H locs ls hf; exact absurd hf (by intro z; cases z)
  | succ n ih => intro x1 σ H locs ls hf w hl; exact t_Reader_readWord_102b C  ih hf w hl
set_option maxHeartbeats 4000000 in
set_option maxRecDepth 20000 in
theorem t_Reader_readWord_74 {σ2 : St} (C : Cx g A p s m av meth c prog_6_method_4_code 2 "BellHammer$Reader" none) {k0 : St → Option (St)} (hk0 : ∀  (σ : St) (H : Heap) (locs : List Loc) (ls : Array Slot), k0  σ = some σ2 → Wd g (wX g (qt q)) A s σ H locs → lv_has ls 2 [(0, .ref (qt q 4))] → WK p l e s m av below meth c 0 g (wX g (qt q)) A none σ2 H locs (F0 m 0 ls []))  {σ : St} {H : Heap} {locs : List Loc} {ls : Array Slot} (hf : f_Reader_readWord_74  k0  σ = some σ2) (w : Wd g (wX g (qt q)) A s σ H locs) (hl : lv_has ls 2 [(0, .ref (qt q 4))]) : WK p l e s m av below meth c 0 g (wX g (qt q)) A none σ2 H locs (F0 m 74 ls []) := by
  obtain ⟨hx, hb, hml, hown, hts, hK, hA, hZ, hlocks, hr, hN⟩ := id C
  unfold f_Reader_readWord_74 at hf
  refine lv_aload_n hx hb d_Reader_readWord_74 rfl (lv_at hl 0 rfl) ?_
  refine lv_dup hx hb d_Reader_readWord_75 rfl ?_
  refine xg_4_size C w k212 d_Reader_readWord_76 ?_
  refine lv_iconst (v := 1) hx hb d_Reader_readWord_79 (by decide) ?_
  refine lv_iadd hx hb d_Reader_readWord_80 ?_
  refine xp_4_size C w k212 d_Reader_readWord_81 (fun σ_1 H locs eσ_1 w => ?_)
  have hf := lt_e eσ_1 hf
  refine lv_aload_n hx hb d_Reader_readWord_84 rfl (lv_at hl 0 rfl) ?_
  refine lv_dup hx hb d_Reader_readWord_85 rfl ?_
  refine xg_4_at C w k207 d_Reader_readWord_86 ?_
  refine lv_iconst (v := 1) hx hb d_Reader_readWord_89 (by decide) ?_
  refine lv_iadd hx hb d_Reader_readWord_90 ?_
  refine xp_4_at C w k207 d_Reader_readWord_91 (fun σ_2 H locs eσ_2 w => ?_)
  have hf := lt_e eσ_2 hf
  refine lv_goto (tgt := 0) hx hb d_Reader_readWord_94 (by decide) ?_
  exact hk0  σ_2 _ _ _ hf w (lv_sub hl [0] rfl)
set_option maxHeartbeats 4000000 in
set_option maxRecDepth 20000 in
theorem t_Reader_readWord_0b {σ2 : St} (C : Cx g A p s m av meth c prog_6_method_4_code 2 "BellHammer$Reader" none) {k0 : St → Option (St)} (hk0 : ∀  (σ : St) (H : Heap) (locs : List Loc) (ls : Array Slot), k0  σ = some σ2 → Wd g (wX g (qt q)) A s σ H locs → lv_has ls 2 [(0, .ref (qt q 4))] → WK p l e s m av below meth c 0 g (wX g (qt q)) A none σ2 H locs (F0 m 0 ls []))  {σ : St} {H : Heap} {locs : List Loc} {ls : Array Slot} (hf : f_Reader_readWord_0b  k0  σ = some σ2) (w : Wd g (wX g (qt q)) A s σ H locs) (hl : lv_has ls 2 [(0, .ref (qt q 4))]) : WK p l e s m av below meth c 0 g (wX g (qt q)) A none σ2 H locs (F0 m 0 ls []) := by
  obtain ⟨hx, hb, hml, hown, hts, hK, hA, hZ, hlocks, hr, hN⟩ := id C
  unfold f_Reader_readWord_0b at hf
  refine lv_aload_n hx hb d_Reader_readWord_0 rfl (lv_at hl 0 rfl) ?_
  refine xg_4_at C w k207 d_Reader_readWord_1 ?_
  refine lv_aload_n hx hb d_Reader_readWord_4 rfl (lv_at hl 0 rfl) ?_
  refine xg_4_length C w k206 d_Reader_readWord_5 ?_
  refine lv_icmp_ge (tgt := 97) hx hb d_Reader_readWord_8 (by decide) (fun cd => ?_) (fun cd => ?_)
  · have hf := it_e cd hf
    refine lv_aload_n hx hb d_Reader_readWord_97 rfl (lv_at hl 0 rfl) ?_
    refine xg_4_size C w k212 d_Reader_readWord_98 ?_
    refine lv_topi (fun x_1 ex_1 => ?_)
    have hf := lt_e ex_1 hf
    refine lv_istore_n (lv' := [(1, .int x_1), (0, .ref (qt q 4))]) hx hb d_Reader_readWord_101 rfl hl (by decide) rfl (fun ls hl => ?_)
    exact t_Reader_readWord_102 C  FU x_1 σ _ _ _ hf w (lv_sub hl [1, 0] rfl)
  · have hf := if_e cd hf
    refine lv_aload_n hx hb d_Reader_readWord_11 rfl (lv_at hl 0 rfl) ?_
    refine xg_text C w k205 d_Reader_readWord_12 ?_
    refine lv_aload_n hx hb d_Reader_readWord_15 rfl (lv_at hl 0 rfl) ?_
    refine xg_4_at C w k207 d_Reader_readWord_16 ?_
    obtain ⟨g_2, hf⟩ := gd_e hf
    refine xl_2 C w g_2 d_Reader_readWord_19 ?_
    refine lv_bipush (v := 97) hx hb d_Reader_readWord_20 (by decide) ?_
    refine lv_icmp_lt (tgt := 97) hx hb d_Reader_readWord_22 (by decide) (fun cd => ?_) (fun cd => ?_)
    · have hf := it_e cd hf
      refine lv_aload_n hx hb d_Reader_readWord_97 rfl (lv_at hl 0 rfl) ?_
      refine xg_4_size C w k212 d_Reader_readWord_98 ?_
      refine lv_topi (fun x_3 ex_3 => ?_)
      have hf := lt_e ex_3 hf
      refine lv_istore_n (lv' := [(1, .int x_3), (0, .ref (qt q 4))]) hx hb d_Reader_readWord_101 rfl hl (by decide) rfl (fun ls hl => ?_)
      exact t_Reader_readWord_102 C  FU x_3 σ _ _ _ hf w (lv_sub hl [1, 0] rfl)
    · have hf := if_e cd hf
      refine lv_aload_n hx hb d_Reader_readWord_25 rfl (lv_at hl 0 rfl) ?_
      refine xg_text C w k205 d_Reader_readWord_26 ?_
      refine lv_aload_n hx hb d_Reader_readWord_29 rfl (lv_at hl 0 rfl) ?_
      refine xg_4_at C w k207 d_Reader_readWord_30 ?_
      obtain ⟨g_4, hf⟩ := gd_e hf
      refine xl_2 C w g_4 d_Reader_readWord_33 ?_
      refine lv_bipush (v := 122) hx hb d_Reader_readWord_34 (by decide) ?_
      refine lv_icmp_gt (tgt := 97) hx hb d_Reader_readWord_36 (by decide) (fun cd => ?_) (fun cd => ?_)
      · have hf := it_e cd hf
        refine lv_aload_n hx hb d_Reader_readWord_97 rfl (lv_at hl 0 rfl) ?_
        refine xg_4_size C w k212 d_Reader_readWord_98 ?_
        refine lv_topi (fun x_5 ex_5 => ?_)
        have hf := lt_e ex_5 hf
        refine lv_istore_n (lv' := [(1, .int x_5), (0, .ref (qt q 4))]) hx hb d_Reader_readWord_101 rfl hl (by decide) rfl (fun ls hl => ?_)
        exact t_Reader_readWord_102 C  FU x_5 σ _ _ _ hf w (lv_sub hl [1, 0] rfl)
      · have hf := if_e cd hf
        refine lv_aload_n hx hb d_Reader_readWord_39 rfl (lv_at hl 0 rfl) ?_
        refine xg_4_size C w k212 d_Reader_readWord_40 ?_
        refine lv_bipush (v := 6) hx hb d_Reader_readWord_43 (by decide) ?_
        refine lv_icmp_ge (tgt := 74) hx hb d_Reader_readWord_45 (by decide) (fun cd => ?_) (fun cd => ?_)
        · have hf := it_e cd hf
          exact t_Reader_readWord_74 C hk0 hf w (lv_sub hl [0] rfl)
        · have hf := if_e cd hf
          refine lv_aload_n hx hb d_Reader_readWord_48 rfl (lv_at hl 0 rfl) ?_
          refine lv_aload_n hx hb d_Reader_readWord_49 rfl (lv_at hl 0 rfl) ?_
          refine xg_4_value C w k214 d_Reader_readWord_50 ?_
          refine lv_bipush (v := 27) hx hb d_Reader_readWord_53 (by decide) ?_
          refine lv_imul hx hb d_Reader_readWord_55 ?_
          refine lv_aload_n hx hb d_Reader_readWord_56 rfl (lv_at hl 0 rfl) ?_
          refine xg_text C w k205 d_Reader_readWord_57 ?_
          refine lv_aload_n hx hb d_Reader_readWord_60 rfl (lv_at hl 0 rfl) ?_
          refine xg_4_at C w k207 d_Reader_readWord_61 ?_
          obtain ⟨g_6, hf⟩ := gd_e hf
          refine xl_2 C w g_6 d_Reader_readWord_64 ?_
          refine lv_iadd hx hb d_Reader_readWord_65 ?_
          refine lv_bipush (v := 97) hx hb d_Reader_readWord_66 (by decide) ?_
          refine lv_isub hx hb d_Reader_readWord_68 ?_
          refine lv_iconst (v := 1) hx hb d_Reader_readWord_69 (by decide) ?_
          refine lv_iadd hx hb d_Reader_readWord_70 ?_
          refine xp_4_value C w k214 d_Reader_readWord_71 (fun σ_7 H locs eσ_7 w => ?_)
          have hf := lt_e eσ_7 hf
          exact t_Reader_readWord_74 C hk0 hf w (lv_sub hl [0] rfl)
set_option maxHeartbeats 4000000 in
set_option maxRecDepth 20000 in
theorem t_Reader_readWord_0 {σ2 : St} (C : Cx g A p s m av meth c prog_6_method_4_code 2 "BellHammer$Reader" none)  : ∀ (n : Nat)  (σ : St) (H : Heap) (locs : List Loc) (ls : Array Slot), f_Reader_readWord_0   n  σ = some σ2 → Wd g (wX g (qt q)) A s σ H locs → lv_has ls 2 [(0, .ref (qt q 4))] → WK p l e s m av below meth c 0 g (wX g (qt q)) A none σ2 H locs (F0 m 0 ls []) := by
  intro n
  induction n with
  | zero => intro  σ H locs ls hf; exact absurd hf (by intro z; cases z)
  | succ n ih => intro  σ H locs ls hf w hl; exact t_Reader_readWord_0b C  ih hf w hl
set_option maxHeartbeats 4000000 in
set_option maxRecDepth 20000 in
theorem c_Reader_readWord {l : Launch} {g : GX} {q : Nat → Nat}  {σ : St} {σ2 : St} (hf : f_Reader_readWord   σ = some σ2) : KK l y_Reader_readWord prog_6_method_4_code 2 none 0 g (wX g (qt q)) σ [.ref (qt q 4)] none (wX g (qt q)) σ2 := by
  refine KK_of (plainFor_of_name (by decide)) (Nat.le_of_ble_eq_true rfl) (fun p e s m below meth c A ls C w hl => ?_)
  have hl : lv_has ls 2 [(0, .ref (qt q 4))] := hl
  obtain ⟨hx, hb, hml, hown, hts, hK, hA, hZ, hlocks, hr, hN⟩ := id C
  unfold f_Reader_readWord at hf
  exact t_Reader_readWord_0 C  FU  σ _ _ _ hf w (lv_sub hl [0] rfl)
def f_Reader_kindOf_14 (x0 : Int32) (σ : St) : Option (Int32) :=
  if x0 < 48 then
    some 3
  else
    if 57 < x0 then
      some 3
    else
      some 2
def f_Reader_kindOf (x0 : Int32) (σ : St) : Option (Int32) :=
  if x0 < 97 then
    f_Reader_kindOf_14 x0 σ
  else
    if 122 < x0 then
      f_Reader_kindOf_14 x0 σ
    else
      some 1
set_option maxHeartbeats 4000000 in
set_option maxRecDepth 20000 in
theorem t_Reader_kindOf_14 {r : Int32} {σ : St} (C : Cx g A p s m av meth c prog_6_method_6_code 1 "BellHammer$Reader" (some .int))  {x0 : Int32} {H : Heap} {locs : List Loc} {ls : Array Slot} (hf : f_Reader_kindOf_14   x0 σ = some r) (w : Wd g (wX g q) A s σ H locs) (hl : lv_has ls 1 [(0, .int x0)]) : WK p l e s m av below meth c 0 g (wX g q) A (some (.int r)) σ H locs (F0 m 14 ls []) := by
  obtain ⟨hx, hb, hml, hown, hts, hK, hA, hZ, hlocks, hr, hN⟩ := id C
  unfold f_Reader_kindOf_14 at hf
  refine lv_iload_n hx hb d_Reader_kindOf_14 rfl (lv_at hl 0 rfl) ?_
  refine lv_bipush (v := 48) hx hb d_Reader_kindOf_15 (by decide) ?_
  refine lv_icmp_lt (tgt := 30) hx hb d_Reader_kindOf_17 (by decide) (fun cd => ?_) (fun cd => ?_)
  · have hf := it_e cd hf
    refine lv_iconst (v := 3) hx hb d_Reader_kindOf_30 (by decide) ?_
    cases some_e hf
    exact k_iret C w d_Reader_kindOf_31
  · have hf := if_e cd hf
    refine lv_iload_n hx hb d_Reader_kindOf_20 rfl (lv_at hl 0 rfl) ?_
    refine lv_bipush (v := 57) hx hb d_Reader_kindOf_21 (by decide) ?_
    refine lv_icmp_gt (tgt := 30) hx hb d_Reader_kindOf_23 (by decide) (fun cd => ?_) (fun cd => ?_)
    · have hf := it_e cd hf
      refine lv_iconst (v := 3) hx hb d_Reader_kindOf_30 (by decide) ?_
      cases some_e hf
      exact k_iret C w d_Reader_kindOf_31
    · have hf := if_e cd hf
      refine lv_iconst (v := 2) hx hb d_Reader_kindOf_26 (by decide) ?_
      refine lv_goto (tgt := 31) hx hb d_Reader_kindOf_27 (by decide) ?_
      cases some_e hf
      exact k_iret C w d_Reader_kindOf_31
set_option maxHeartbeats 4000000 in
set_option maxRecDepth 20000 in
theorem c_Reader_kindOf {l : Launch} {g : GX} {q : Nat → Nat} {x0 : Int32}  {σ : St} {r : Int32} (hf : f_Reader_kindOf  x0 σ = some r) : KK l y_Reader_kindOf prog_6_method_6_code 1 (some .int) 0 g (wX g q) σ [.int x0] (some (.int r)) (wX g q) σ := by
  refine KK_of (plainFor_of_name (by decide)) (Nat.le_of_ble_eq_true rfl) (fun p e s m below meth c A ls C w hl => ?_)
  have hl : lv_has ls 1 [(0, .int x0)] := hl
  obtain ⟨hx, hb, hml, hown, hts, hK, hA, hZ, hlocks, hr, hN⟩ := id C
  unfold f_Reader_kindOf at hf
  refine lv_iload_n hx hb d_Reader_kindOf_0 rfl (lv_at hl 0 rfl) ?_
  refine lv_bipush (v := 97) hx hb d_Reader_kindOf_1 (by decide) ?_
  refine lv_icmp_lt (tgt := 14) hx hb d_Reader_kindOf_3 (by decide) (fun cd => ?_) (fun cd => ?_)
  · have hf := it_e cd hf
    exact t_Reader_kindOf_14 C  hf w (lv_sub hl [0] rfl)
  · have hf := if_e cd hf
    refine lv_iload_n hx hb d_Reader_kindOf_6 rfl (lv_at hl 0 rfl) ?_
    refine lv_bipush (v := 122) hx hb d_Reader_kindOf_7 (by decide) ?_
    refine lv_icmp_gt (tgt := 14) hx hb d_Reader_kindOf_9 (by decide) (fun cd => ?_) (fun cd => ?_)
    · have hf := it_e cd hf
      exact t_Reader_kindOf_14 C  hf w (lv_sub hl [0] rfl)
    · have hf := if_e cd hf
      refine lv_iconst (v := 1) hx hb d_Reader_kindOf_12 (by decide) ?_
      cases some_e hf
      exact k_iret C w d_Reader_kindOf_13
def f_Reader_step_210 (x1 : Int32) (x2 : Int32) (t0 : Int32) (σ : St) : Option (St) :=
  if t0 = 0 then
    some σ
  else
    if x2 = 0 then
      some σ
    else
      if (sI σ 9) = x1 then
        lt (uI σ 8 4) fun σ_1 =>
        some σ_1
      else
        some σ
def f_Reader_step_205 (x1 : Int32) (x2 : Int32) (σ : St) : Option (St) :=
  f_Reader_step_210 x1 x2 1 σ
def f_Reader_step_189 (x1 : Int32) (x2 : Int32) (σ : St) : Option (St) :=
  if (sI σ 8) = 1 then
    f_Reader_step_205 x1 x2 σ
  else
    if (sI σ 8) = 2 then
      f_Reader_step_205 x1 x2 σ
    else
      f_Reader_step_210 x1 x2 0 σ
def f_Reader_step_125 (x1 : Int32) (x2 : Int32) (t0 : Int32) (σ : St) : Option (St) :=
  lt (uI σ 8 t0) fun σ_1 =>
  if (sI σ_1 8) = 3 then
    gd (inB (sI σ_1 7) 1600) <|
    lt (uI σ_1 11 (sA σ_1 0 (sI σ_1 7).toNatClampNeg)) fun σ_7 =>
    lt (uI σ_7 7 ((sI σ_7 7) + 1)) fun σ_8 =>
    f_Reader_step_189 x1 x2 σ_8
  else
    if (sI σ_1 8) = 1 then
      bp (f_Reader_readWord σ_1) fun σ_5 =>
      f_Reader_step_189 x1 x2 σ_5
    else
      if (sI σ_1 8) = 2 then
        bp (f_Reader_readNumber σ_1) fun σ_3 =>
        f_Reader_step_189 x1 x2 σ_3
      else
        f_Reader_step_189 x1 x2 σ_1
def f_Reader_step_79 (x1 : Int32) (x2 : Int32) (σ : St) : Option (St) :=
  lt (uI σ 9 (sI σ 7)) fun σ_1 =>
  lt (uI σ_1 10 0) fun σ_2 =>
  lt (uI σ_2 11 0) fun σ_3 =>
  if (sI σ_3 6) ≤ (sI σ_3 7) then
    f_Reader_step_125 x1 x2 0 σ_3
  else
    gd (inB (sI σ_3 7) 1600) <|
    bp (f_Reader_kindOf (sA σ_3 0 (sI σ_3 7).toNatClampNeg) σ_3) fun r_6 =>
    f_Reader_step_125 x1 x2 r_6 σ_3
def f_Reader_step_66 (k27 : Int32 → Int32 → St → Option (St)) (x1 : Int32) (x2 : Int32) (σ : St) : Option (St) :=
  lt (uI σ 7 ((sI σ 7) + 1)) fun σ_1 =>
  k27 x1 x2 σ_1
def f_Reader_step_27b (k27 : Int32 → Int32 → St → Option (St)) (x1 : Int32) (x2 : Int32) (σ : St) : Option (St) :=
  if (sI σ 6) ≤ (sI σ 7) then
    f_Reader_step_79 x1 x2 σ
  else
    gd (inB (sI σ 7) 1600) <|
    if (sA σ 0 (sI σ 7).toNatClampNeg) = 10 then
      f_Reader_step_66 k27 x1 x2 σ
    else
      gd (inB (sI σ 7) 1600) <|
      if (sA σ 0 (sI σ 7).toNatClampNeg) = 32 then
        f_Reader_step_66 k27 x1 x2 σ
      else
        f_Reader_step_79 x1 x2 σ
def f_Reader_step_27 : Nat → Int32 → Int32 → St → Option (St)
  | 0 => fun _ _ _ => none
  | n + 1 => f_Reader_step_27b   (f_Reader_step_27   n)
def f_Reader_step (σ : St) : Option (St) :=
  lt ((sI σ 7)) fun x_1 =>
  if (sI σ 8) = 1 then
    f_Reader_step_27 FU x_1 1 σ
  else
    if (sI σ 8) = 2 then
      f_Reader_step_27 FU x_1 1 σ
    else
      f_Reader_step_27 FU x_1 0 σ
set_option maxHeartbeats 4000000 in
set_option maxRecDepth 20000 in
theorem t_Reader_step_210 {σ2 : St} (C : Cx g A p s m av meth c prog_6_method_3_code 4 "BellHammer$Reader" none)  {x1 : Int32} {x2 : Int32} {t0 : Int32} {σ : St} {H : Heap} {locs : List Loc} {ls : Array Slot} (hf : f_Reader_step_210   x1 x2 t0 σ = some σ2) (w : Wd g (wX g (qt q)) A s σ H locs) (hl : lv_has ls 4 [(0, .ref (qt q 4)), (1, .int x1), (2, .int x2)]) : WK p l e s m av below meth c 1 g (wX g (qt q)) A none σ2 H locs (F0 m 210 ls [.int t0]) := by
  obtain ⟨hx, hb, hml, hown, hts, hK, hA, hZ, hlocks, hr, hN⟩ := id C
  unfold f_Reader_step_210 at hf
  refine lv_istore_n (lv' := [(3, .int t0), (0, .ref (qt q 4)), (1, .int x1), (2, .int x2)]) hx hb d_Reader_step_210 rfl hl (by decide) rfl (fun ls hl => ?_)
  refine lv_iload_n hx hb d_Reader_step_211 rfl (lv_at hl 0 rfl) ?_
  refine lv_if_eq (tgt := 232) hx hb d_Reader_step_212 (by decide) (fun cd => ?_) (fun cd => ?_)
  · have hf := it_e cd hf
    cases some_e hf
    exact k_vret C w d_Reader_step_232
  · have hf := if_e cd hf
    refine lv_iload_n hx hb d_Reader_step_215 rfl (lv_at hl 3 rfl) ?_
    refine lv_if_eq (tgt := 232) hx hb d_Reader_step_216 (by decide) (fun cd => ?_) (fun cd => ?_)
    · have hf := it_e cd hf
      cases some_e hf
      exact k_vret C w d_Reader_step_232
    · have hf := if_e cd hf
      refine lv_aload_n hx hb d_Reader_step_219 rfl (lv_at hl 1 rfl) ?_
      refine xg_4_start C w k211 d_Reader_step_220 ?_
      refine lv_iload_n hx hb d_Reader_step_223 rfl (lv_at hl 2 rfl) ?_
      refine lv_icmp_ne (tgt := 232) hx hb d_Reader_step_224 (by decide) (fun cd => ?_) (fun cd => ?_)
      · have hf := if_e cd hf
        cases some_e hf
        exact k_vret C w d_Reader_step_232
      · have hf := it_e cd hf
        refine lv_aload_n hx hb d_Reader_step_227 rfl (lv_at hl 1 rfl) ?_
        refine lv_iconst (v := 4) hx hb d_Reader_step_228 (by decide) ?_
        refine xp_4_kind C w k208 d_Reader_step_229 (fun σ_1 H locs eσ_1 w => ?_)
        have hf := lt_e eσ_1 hf
        cases some_e hf
        exact k_vret C w d_Reader_step_232
set_option maxHeartbeats 4000000 in
set_option maxRecDepth 20000 in
theorem t_Reader_step_205 {σ2 : St} (C : Cx g A p s m av meth c prog_6_method_3_code 4 "BellHammer$Reader" none)  {x1 : Int32} {x2 : Int32} {σ : St} {H : Heap} {locs : List Loc} {ls : Array Slot} (hf : f_Reader_step_205   x1 x2 σ = some σ2) (w : Wd g (wX g (qt q)) A s σ H locs) (hl : lv_has ls 4 [(0, .ref (qt q 4)), (1, .int x1), (2, .int x2)]) : WK p l e s m av below meth c 1 g (wX g (qt q)) A none σ2 H locs (F0 m 205 ls []) := by
  obtain ⟨hx, hb, hml, hown, hts, hK, hA, hZ, hlocks, hr, hN⟩ := id C
  unfold f_Reader_step_205 at hf
  refine lv_iconst (v := 1) hx hb d_Reader_step_205 (by decide) ?_
  refine lv_goto (tgt := 210) hx hb d_Reader_step_206 (by decide) ?_
  exact t_Reader_step_210 C  hf w (lv_sub hl [0, 1, 2] rfl)
set_option maxHeartbeats 4000000 in
set_option maxRecDepth 20000 in
theorem t_Reader_step_189 {σ2 : St} (C : Cx g A p s m av meth c prog_6_method_3_code 4 "BellHammer$Reader" none)  {x1 : Int32} {x2 : Int32} {σ : St} {H : Heap} {locs : List Loc} {ls : Array Slot} (hf : f_Reader_step_189   x1 x2 σ = some σ2) (w : Wd g (wX g (qt q)) A s σ H locs) (hl : lv_has ls 4 [(0, .ref (qt q 4)), (1, .int x1), (2, .int x2)]) : WK p l e s m av below meth c 1 g (wX g (qt q)) A none σ2 H locs (F0 m 189 ls []) := by
  obtain ⟨hx, hb, hml, hown, hts, hK, hA, hZ, hlocks, hr, hN⟩ := id C
  unfold f_Reader_step_189 at hf
  refine lv_aload_n hx hb d_Reader_step_189 rfl (lv_at hl 0 rfl) ?_
  refine xg_4_kind C w k208 d_Reader_step_190 ?_
  refine lv_iconst (v := 1) hx hb d_Reader_step_193 (by decide) ?_
  refine lv_icmp_eq (tgt := 205) hx hb d_Reader_step_194 (by decide) (fun cd => ?_) (fun cd => ?_)
  · have hf := it_e cd hf
    exact t_Reader_step_205 C  hf w (lv_sub hl [0, 1, 2] rfl)
  · have hf := if_e cd hf
    refine lv_aload_n hx hb d_Reader_step_197 rfl (lv_at hl 0 rfl) ?_
    refine xg_4_kind C w k208 d_Reader_step_198 ?_
    refine lv_iconst (v := 2) hx hb d_Reader_step_201 (by decide) ?_
    refine lv_icmp_ne (tgt := 209) hx hb d_Reader_step_202 (by decide) (fun cd => ?_) (fun cd => ?_)
    · have hf := if_e cd hf
      refine lv_iconst (v := 0) hx hb d_Reader_step_209 (by decide) ?_
      exact t_Reader_step_210 C  hf w (lv_sub hl [0, 1, 2] rfl)
    · have hf := it_e cd hf
      exact t_Reader_step_205 C  hf w (lv_sub hl [0, 1, 2] rfl)
set_option maxHeartbeats 4000000 in
set_option maxRecDepth 20000 in
theorem t_Reader_step_125 {σ2 : St} (C : Cx g A p s m av meth c prog_6_method_3_code 4 "BellHammer$Reader" none)  {x1 : Int32} {x2 : Int32} {t0 : Int32} {σ : St} {H : Heap} {locs : List Loc} {ls : Array Slot} (hf : f_Reader_step_125   x1 x2 t0 σ = some σ2) (w : Wd g (wX g (qt q)) A s σ H locs) (hl : lv_has ls 4 [(0, .ref (qt q 4)), (1, .int x1), (2, .int x2)]) : WK p l e s m av below meth c 1 g (wX g (qt q)) A none σ2 H locs (F0 m 125 ls [.int t0, .ref (qt q 4)]) := by
  obtain ⟨hx, hb, hml, hown, hts, hK, hA, hZ, hlocks, hr, hN⟩ := id C
  unfold f_Reader_step_125 at hf
  refine xp_4_kind C w k208 d_Reader_step_125 (fun σ_1 H locs eσ_1 w => ?_)
  have hf := lt_e eσ_1 hf
  refine lv_aload_n hx hb d_Reader_step_128 rfl (lv_at hl 0 rfl) ?_
  refine xg_4_kind C w k208 d_Reader_step_129 ?_
  refine lv_iconst (v := 3) hx hb d_Reader_step_132 (by decide) ?_
  refine lv_icmp_ne (tgt := 162) hx hb d_Reader_step_133 (by decide) (fun cd => ?_) (fun cd => ?_)
  · have hf := if_e cd hf
    refine lv_aload_n hx hb d_Reader_step_162 rfl (lv_at hl 0 rfl) ?_
    refine xg_4_kind C w k208 d_Reader_step_163 ?_
    refine lv_iconst (v := 1) hx hb d_Reader_step_166 (by decide) ?_
    refine lv_icmp_ne (tgt := 177) hx hb d_Reader_step_167 (by decide) (fun cd => ?_) (fun cd => ?_)
    · have hf := if_e cd hf
      refine lv_aload_n hx hb d_Reader_step_177 rfl (lv_at hl 0 rfl) ?_
      refine xg_4_kind C w k208 d_Reader_step_178 ?_
      refine lv_iconst (v := 2) hx hb d_Reader_step_181 (by decide) ?_
      refine lv_icmp_ne (tgt := 189) hx hb d_Reader_step_182 (by decide) (fun cd => ?_) (fun cd => ?_)
      · have hf := if_e cd hf
        exact t_Reader_step_189 C  hf w (lv_sub hl [0, 1, 2] rfl)
      · have hf := it_e cd hf
        refine lv_aload_n hx hb d_Reader_step_185 rfl (lv_at hl 0 rfl) ?_
        obtain ⟨σ_3, h_2, hf⟩ := bp_e hf
        refine k_callV (As := []) (rest := []) C w (c_Reader_readNumber (q := q) h_2) cv_Reader_readNumber k586 (xr_4 C w) (by decide) hl.1 rfl (Nat.le_of_ble_eq_true rfl) d_Reader_step_186 (fun H locs w => ?_)
        show WK p l e s m av below meth c 1 g (wX g (qt q)) A none σ2 H locs (F0 m 189 ls [])
        exact t_Reader_step_189 C  hf w (lv_sub hl [0, 1, 2] rfl)
    · have hf := it_e cd hf
      refine lv_aload_n hx hb d_Reader_step_170 rfl (lv_at hl 0 rfl) ?_
      obtain ⟨σ_5, h_4, hf⟩ := bp_e hf
      refine k_callV (As := []) (rest := []) C w (c_Reader_readWord (q := q) h_4) cv_Reader_readWord k582 (xr_4 C w) (by decide) hl.1 rfl (Nat.le_of_ble_eq_true rfl) d_Reader_step_171 (fun H locs w => ?_)
      show WK p l e s m av below meth c 1 g (wX g (qt q)) A none σ2 H locs (F0 m 174 ls [])
      refine lv_goto (tgt := 189) hx hb d_Reader_step_174 (by decide) ?_
      exact t_Reader_step_189 C  hf w (lv_sub hl [0, 1, 2] rfl)
  · have hf := it_e cd hf
    refine lv_aload_n hx hb d_Reader_step_136 rfl (lv_at hl 0 rfl) ?_
    refine lv_aload_n hx hb d_Reader_step_137 rfl (lv_at hl 0 rfl) ?_
    refine xg_text C w k205 d_Reader_step_138 ?_
    refine lv_aload_n hx hb d_Reader_step_141 rfl (lv_at hl 0 rfl) ?_
    refine xg_4_at C w k207 d_Reader_step_142 ?_
    obtain ⟨g_6, hf⟩ := gd_e hf
    refine xl_2 C w g_6 d_Reader_step_145 ?_
    refine xp_4_value C w k214 d_Reader_step_146 (fun σ_7 H locs eσ_7 w => ?_)
    have hf := lt_e eσ_7 hf
    refine lv_aload_n hx hb d_Reader_step_149 rfl (lv_at hl 0 rfl) ?_
    refine lv_dup hx hb d_Reader_step_150 rfl ?_
    refine xg_4_at C w k207 d_Reader_step_151 ?_
    refine lv_iconst (v := 1) hx hb d_Reader_step_154 (by decide) ?_
    refine lv_iadd hx hb d_Reader_step_155 ?_
    refine xp_4_at C w k207 d_Reader_step_156 (fun σ_8 H locs eσ_8 w => ?_)
    have hf := lt_e eσ_8 hf
    refine lv_goto (tgt := 189) hx hb d_Reader_step_159 (by decide) ?_
    exact t_Reader_step_189 C  hf w (lv_sub hl [0, 1, 2] rfl)
set_option maxHeartbeats 4000000 in
set_option maxRecDepth 20000 in
theorem t_Reader_step_79 {σ2 : St} (C : Cx g A p s m av meth c prog_6_method_3_code 4 "BellHammer$Reader" none)  {x1 : Int32} {x2 : Int32} {σ : St} {H : Heap} {locs : List Loc} {ls : Array Slot} (hf : f_Reader_step_79   x1 x2 σ = some σ2) (w : Wd g (wX g (qt q)) A s σ H locs) (hl : lv_has ls 4 [(0, .ref (qt q 4)), (1, .int x1), (2, .int x2)]) : WK p l e s m av below meth c 1 g (wX g (qt q)) A none σ2 H locs (F0 m 79 ls []) := by
  obtain ⟨hx, hb, hml, hown, hts, hK, hA, hZ, hlocks, hr, hN⟩ := id C
  unfold f_Reader_step_79 at hf
  refine lv_aload_n hx hb d_Reader_step_79 rfl (lv_at hl 0 rfl) ?_
  refine lv_aload_n hx hb d_Reader_step_80 rfl (lv_at hl 0 rfl) ?_
  refine xg_4_at C w k207 d_Reader_step_81 ?_
  refine xp_4_start C w k211 d_Reader_step_84 (fun σ_1 H locs eσ_1 w => ?_)
  have hf := lt_e eσ_1 hf
  refine lv_aload_n hx hb d_Reader_step_87 rfl (lv_at hl 0 rfl) ?_
  refine lv_iconst (v := 0) hx hb d_Reader_step_88 (by decide) ?_
  refine xp_4_size C w k212 d_Reader_step_89 (fun σ_2 H locs eσ_2 w => ?_)
  have hf := lt_e eσ_2 hf
  refine lv_aload_n hx hb d_Reader_step_92 rfl (lv_at hl 0 rfl) ?_
  refine lv_iconst (v := 0) hx hb d_Reader_step_93 (by decide) ?_
  refine xp_4_value C w k214 d_Reader_step_94 (fun σ_3 H locs eσ_3 w => ?_)
  have hf := lt_e eσ_3 hf
  refine lv_aload_n hx hb d_Reader_step_97 rfl (lv_at hl 0 rfl) ?_
  refine lv_aload_n hx hb d_Reader_step_98 rfl (lv_at hl 0 rfl) ?_
  refine xg_4_at C w k207 d_Reader_step_99 ?_
  refine lv_aload_n hx hb d_Reader_step_102 rfl (lv_at hl 0 rfl) ?_
  refine xg_4_length C w k206 d_Reader_step_103 ?_
  refine lv_icmp_ge (tgt := 124) hx hb d_Reader_step_106 (by decide) (fun cd => ?_) (fun cd => ?_)
  · have hf := it_e cd hf
    refine lv_iconst (v := 0) hx hb d_Reader_step_124 (by decide) ?_
    exact t_Reader_step_125 C  hf w (lv_sub hl [0, 1, 2] rfl)
  · have hf := if_e cd hf
    refine lv_aload_n hx hb d_Reader_step_109 rfl (lv_at hl 0 rfl) ?_
    refine xg_text C w k205 d_Reader_step_110 ?_
    refine lv_aload_n hx hb d_Reader_step_113 rfl (lv_at hl 0 rfl) ?_
    refine xg_4_at C w k207 d_Reader_step_114 ?_
    obtain ⟨g_4, hf⟩ := gd_e hf
    refine xl_2 C w g_4 d_Reader_step_117 ?_
    obtain ⟨r_6, h_5, hf⟩ := bp_e hf
    refine k_callS (As := [.int (sA σ_3 0 (sI σ_3 7).toNatClampNeg)]) (rest := [.ref (qt q 4)]) C w (c_Reader_kindOf (q := qt q) h_5) cv_Reader_kindOf k579 (by decide) hl.1 rfl (Nat.le_of_ble_eq_true rfl) d_Reader_step_118 (fun H locs w => ?_)
    show WK p l e s m av below meth c 1 g (wX g (qt q)) A none σ2 H locs (F0 m 121 ls [.int r_6, .ref (qt q 4)])
    refine lv_goto (tgt := 125) hx hb d_Reader_step_121 (by decide) ?_
    exact t_Reader_step_125 C  hf w (lv_sub hl [0, 1, 2] rfl)
set_option maxHeartbeats 4000000 in
set_option maxRecDepth 20000 in
theorem t_Reader_step_66 {σ2 : St} (C : Cx g A p s m av meth c prog_6_method_3_code 4 "BellHammer$Reader" none) {k27 : Int32 → Int32 → St → Option (St)} (hk27 : ∀ (x1 : Int32) (x2 : Int32) (σ : St) (H : Heap) (locs : List Loc) (ls : Array Slot), k27 x1 x2 σ = some σ2 → Wd g (wX g (qt q)) A s σ H locs → lv_has ls 4 [(0, .ref (qt q 4)), (1, .int x1), (2, .int x2)] → WK p l e s m av below meth c 1 g (wX g (qt q)) A none σ2 H locs (F0 m 27 ls []))  {x1 : Int32} {x2 : Int32} {σ : St} {H : Heap} {locs : List Loc} {ls : Array Slot} (hf : f_Reader_step_66  k27 x1 x2 σ = some σ2) (w : Wd g (wX g (qt q)) A s σ H locs) (hl : lv_has ls 4 [(0, .ref (qt q 4)), (1, .int x1), (2, .int x2)]) : WK p l e s m av below meth c 1 g (wX g (qt q)) A none σ2 H locs (F0 m 66 ls []) := by
  obtain ⟨hx, hb, hml, hown, hts, hK, hA, hZ, hlocks, hr, hN⟩ := id C
  unfold f_Reader_step_66 at hf
  refine lv_aload_n hx hb d_Reader_step_66 rfl (lv_at hl 0 rfl) ?_
  refine lv_dup hx hb d_Reader_step_67 rfl ?_
  refine xg_4_at C w k207 d_Reader_step_68 ?_
  refine lv_iconst (v := 1) hx hb d_Reader_step_71 (by decide) ?_
  refine lv_iadd hx hb d_Reader_step_72 ?_
  refine xp_4_at C w k207 d_Reader_step_73 (fun σ_1 H locs eσ_1 w => ?_)
  have hf := lt_e eσ_1 hf
  refine lv_goto (tgt := 27) hx hb d_Reader_step_76 (by decide) ?_
  exact hk27 x1 x2 σ_1 _ _ _ hf w (lv_sub hl [0, 1, 2] rfl)
set_option maxHeartbeats 4000000 in
set_option maxRecDepth 20000 in
theorem t_Reader_step_27b {σ2 : St} (C : Cx g A p s m av meth c prog_6_method_3_code 4 "BellHammer$Reader" none) {k27 : Int32 → Int32 → St → Option (St)} (hk27 : ∀ (x1 : Int32) (x2 : Int32) (σ : St) (H : Heap) (locs : List Loc) (ls : Array Slot), k27 x1 x2 σ = some σ2 → Wd g (wX g (qt q)) A s σ H locs → lv_has ls 4 [(0, .ref (qt q 4)), (1, .int x1), (2, .int x2)] → WK p l e s m av below meth c 1 g (wX g (qt q)) A none σ2 H locs (F0 m 27 ls []))  {x1 : Int32} {x2 : Int32} {σ : St} {H : Heap} {locs : List Loc} {ls : Array Slot} (hf : f_Reader_step_27b  k27 x1 x2 σ = some σ2) (w : Wd g (wX g (qt q)) A s σ H locs) (hl : lv_has ls 4 [(0, .ref (qt q 4)), (1, .int x1), (2, .int x2)]) : WK p l e s m av below meth c 1 g (wX g (qt q)) A none σ2 H locs (F0 m 27 ls []) := by
  obtain ⟨hx, hb, hml, hown, hts, hK, hA, hZ, hlocks, hr, hN⟩ := id C
  unfold f_Reader_step_27b at hf
  refine lv_aload_n hx hb d_Reader_step_27 rfl (lv_at hl 0 rfl) ?_
  refine xg_4_at C w k207 d_Reader_step_28 ?_
  refine lv_aload_n hx hb d_Reader_step_31 rfl (lv_at hl 0 rfl) ?_
  refine xg_4_length C w k206 d_Reader_step_32 ?_
  refine lv_icmp_ge (tgt := 79) hx hb d_Reader_step_35 (by decide) (fun cd => ?_) (fun cd => ?_)
  · have hf := it_e cd hf
    exact t_Reader_step_79 C  hf w (lv_sub hl [0, 1, 2] rfl)
  · have hf := if_e cd hf
    refine lv_aload_n hx hb d_Reader_step_38 rfl (lv_at hl 0 rfl) ?_
    refine xg_text C w k205 d_Reader_step_39 ?_
    refine lv_aload_n hx hb d_Reader_step_42 rfl (lv_at hl 0 rfl) ?_
    refine xg_4_at C w k207 d_Reader_step_43 ?_
    obtain ⟨g_1, hf⟩ := gd_e hf
    refine xl_2 C w g_1 d_Reader_step_46 ?_
    refine lv_bipush (v := 10) hx hb d_Reader_step_47 (by decide) ?_
    refine lv_icmp_eq (tgt := 66) hx hb d_Reader_step_49 (by decide) (fun cd => ?_) (fun cd => ?_)
    · have hf := it_e cd hf
      exact t_Reader_step_66 C hk27 hf w (lv_sub hl [0, 1, 2] rfl)
    · have hf := if_e cd hf
      refine lv_aload_n hx hb d_Reader_step_52 rfl (lv_at hl 0 rfl) ?_
      refine xg_text C w k205 d_Reader_step_53 ?_
      refine lv_aload_n hx hb d_Reader_step_56 rfl (lv_at hl 0 rfl) ?_
      refine xg_4_at C w k207 d_Reader_step_57 ?_
      obtain ⟨g_2, hf⟩ := gd_e hf
      refine xl_2 C w g_2 d_Reader_step_60 ?_
      refine lv_bipush (v := 32) hx hb d_Reader_step_61 (by decide) ?_
      refine lv_icmp_ne (tgt := 79) hx hb d_Reader_step_63 (by decide) (fun cd => ?_) (fun cd => ?_)
      · have hf := if_e cd hf
        exact t_Reader_step_79 C  hf w (lv_sub hl [0, 1, 2] rfl)
      · have hf := it_e cd hf
        exact t_Reader_step_66 C hk27 hf w (lv_sub hl [0, 1, 2] rfl)
set_option maxHeartbeats 4000000 in
set_option maxRecDepth 20000 in
theorem t_Reader_step_27 {σ2 : St} (C : Cx g A p s m av meth c prog_6_method_3_code 4 "BellHammer$Reader" none)  : ∀ (n : Nat) (x1 : Int32) (x2 : Int32) (σ : St) (H : Heap) (locs : List Loc) (ls : Array Slot), f_Reader_step_27   n x1 x2 σ = some σ2 → Wd g (wX g (qt q)) A s σ H locs → lv_has ls 4 [(0, .ref (qt q 4)), (1, .int x1), (2, .int x2)] → WK p l e s m av below meth c 1 g (wX g (qt q)) A none σ2 H locs (F0 m 27 ls []) := by
  intro n
  induction n with
  | zero => intro x1 x2 σ H locs ls hf; exact absurd hf (by intro z; cases z)
  | succ n ih => intro x1 x2 σ H locs ls hf w hl; exact t_Reader_step_27b C  ih hf w hl
set_option maxHeartbeats 4000000 in
set_option maxRecDepth 20000 in
theorem c_Reader_step {l : Launch} {g : GX} {q : Nat → Nat}  {σ : St} {σ2 : St} (hf : f_Reader_step   σ = some σ2) : KK l y_Reader_step prog_6_method_3_code 4 none 1 g (wX g (qt q)) σ [.ref (qt q 4)] none (wX g (qt q)) σ2 := by
  refine KK_of (plainFor_of_name (by decide)) (Nat.le_of_ble_eq_true rfl) (fun p e s m below meth c A ls C w hl => ?_)
  have hl : lv_has ls 4 [(0, .ref (qt q 4))] := hl
  obtain ⟨hx, hb, hml, hown, hts, hK, hA, hZ, hlocks, hr, hN⟩ := id C
  unfold f_Reader_step at hf
  refine lv_aload_n hx hb d_Reader_step_0 rfl (lv_at hl 0 rfl) ?_
  refine xg_4_at C w k207 d_Reader_step_1 ?_
  refine lv_topi (fun x_1 ex_1 => ?_)
  have hf := lt_e ex_1 hf
  refine lv_istore_n (lv' := [(1, .int x_1), (0, .ref (qt q 4))]) hx hb d_Reader_step_4 rfl hl (by decide) rfl (fun ls hl => ?_)
  refine lv_aload_n hx hb d_Reader_step_5 rfl (lv_at hl 1 rfl) ?_
  refine xg_4_kind C w k208 d_Reader_step_6 ?_
  refine lv_iconst (v := 1) hx hb d_Reader_step_9 (by decide) ?_
  refine lv_icmp_eq (tgt := 21) hx hb d_Reader_step_10 (by decide) (fun cd => ?_) (fun cd => ?_)
  · have hf := it_e cd hf
    refine lv_iconst (v := 1) hx hb d_Reader_step_21 (by decide) ?_
    refine lv_goto (tgt := 26) hx hb d_Reader_step_22 (by decide) ?_
    refine lv_istore_n (lv' := [(2, .int 1), (1, .int x_1), (0, .ref (qt q 4))]) hx hb d_Reader_step_26 rfl hl (by decide) rfl (fun ls hl => ?_)
    exact t_Reader_step_27 C  FU x_1 1 σ _ _ _ hf w (lv_sub hl [2, 1, 0] rfl)
  · have hf := if_e cd hf
    refine lv_aload_n hx hb d_Reader_step_13 rfl (lv_at hl 1 rfl) ?_
    refine xg_4_kind C w k208 d_Reader_step_14 ?_
    refine lv_iconst (v := 2) hx hb d_Reader_step_17 (by decide) ?_
    refine lv_icmp_ne (tgt := 25) hx hb d_Reader_step_18 (by decide) (fun cd => ?_) (fun cd => ?_)
    · have hf := if_e cd hf
      refine lv_iconst (v := 0) hx hb d_Reader_step_25 (by decide) ?_
      refine lv_istore_n (lv' := [(2, .int 0), (1, .int x_1), (0, .ref (qt q 4))]) hx hb d_Reader_step_26 rfl hl (by decide) rfl (fun ls hl => ?_)
      exact t_Reader_step_27 C  FU x_1 0 σ _ _ _ hf w (lv_sub hl [2, 1, 0] rfl)
    · have hf := it_e cd hf
      refine lv_iconst (v := 1) hx hb d_Reader_step_21 (by decide) ?_
      refine lv_goto (tgt := 26) hx hb d_Reader_step_22 (by decide) ?_
      refine lv_istore_n (lv' := [(2, .int 1), (1, .int x_1), (0, .ref (qt q 4))]) hx hb d_Reader_step_26 rfl hl (by decide) rfl (fun ls hl => ?_)
      exact t_Reader_step_27 C  FU x_1 1 σ _ _ _ hf w (lv_sub hl [2, 1, 0] rfl)
def f_Reader_begin (x2 : Int32) (σ : St) : Option (St) :=
  lt (uI σ 6 (iMin x2 1600)) fun σ_1 =>
  lt (uI σ_1 7 0) fun σ_2 =>
  lt (uI σ_2 8 0) fun σ_3 =>
  bp (f_Reader_step σ_3) fun σ_5 =>
  some σ_5
set_option maxHeartbeats 4000000 in
set_option maxRecDepth 20000 in
theorem c_Reader_begin {l : Launch} {g : GX} {q : Nat → Nat} {x2 : Int32}  {σ : St} {σ2 : St} (hf : f_Reader_begin  x2 σ = some σ2) : KK l y_Reader_begin prog_6_method_2_code 3 none 2 g (wX g q) σ [.ref (q 4), .ref (q 2), .int x2] none (wX g (qt q)) σ2 := by
  refine KK_of (plainFor_of_name (by decide)) (Nat.le_of_ble_eq_true rfl) (fun p e s m below meth c A ls C w hl => ?_)
  have hl : lv_has ls 3 [(0, .ref (q 4)), (1, .ref (q 2)), (2, .int x2)] := hl
  obtain ⟨hx, hb, hml, hown, hts, hK, hA, hZ, hlocks, hr, hN⟩ := id C
  unfold f_Reader_begin at hf
  refine lv_aload_n hx hb d_Reader_begin_0 rfl (lv_at hl 0 rfl) ?_
  refine lv_aload_n hx hb d_Reader_begin_1 rfl (lv_at hl 1 rfl) ?_
  refine xp_text C w k205 d_Reader_begin_2 (fun H locs w => ?_)
  have hl : lv_has ls 3 [(0, .ref (qt q 4)), (1, .ref (qt q 2)), (2, .int x2)] := hl
  refine lv_aload_n hx hb d_Reader_begin_5 rfl (lv_at hl 0 rfl) ?_
  refine lv_iload_n hx hb d_Reader_begin_6 rfl (lv_at hl 2 rfl) ?_
  refine lv_aload_n hx hb d_Reader_begin_7 rfl (lv_at hl 1 rfl) ?_
  refine xn_2 C w d_Reader_begin_8 ?_
  refine r_min C hl.1 (by omega) (Nat.le_of_ble_eq_true rfl) k572 d_Reader_begin_9 ?_
  refine xp_4_length C w k206 d_Reader_begin_12 (fun σ_1 H locs eσ_1 w => ?_)
  have hf := lt_e eσ_1 hf
  refine lv_aload_n hx hb d_Reader_begin_15 rfl (lv_at hl 0 rfl) ?_
  refine lv_iconst (v := 0) hx hb d_Reader_begin_16 (by decide) ?_
  refine xp_4_at C w k207 d_Reader_begin_17 (fun σ_2 H locs eσ_2 w => ?_)
  have hf := lt_e eσ_2 hf
  refine lv_aload_n hx hb d_Reader_begin_20 rfl (lv_at hl 0 rfl) ?_
  refine lv_iconst (v := 0) hx hb d_Reader_begin_21 (by decide) ?_
  refine xp_4_kind C w k208 d_Reader_begin_22 (fun σ_3 H locs eσ_3 w => ?_)
  have hf := lt_e eσ_3 hf
  refine lv_aload_n hx hb d_Reader_begin_25 rfl (lv_at hl 0 rfl) ?_
  obtain ⟨σ_5, h_4, hf⟩ := bp_e hf
  refine k_callV (As := []) (rest := []) C w (c_Reader_step (q := q) h_4) cv_Reader_step k575 (xr_4 C w) (by decide) hl.1 rfl (Nat.le_of_ble_eq_true rfl) d_Reader_begin_26 (fun H locs w => ?_)
  show WK p l e s m _ below meth c 2 g (wX g (qt q)) A none σ2 H locs (F0 m 29 ls [])
  cases some_e hf
  exact k_vret C w d_Reader_begin_29
def f_Reader_isWord (x1 : Int32) (σ : St) : Option (Int32) :=
  if (sI σ 8) = 1 then
    if 6 < (sI σ 10) then
      some 0
    else
      if x1 < 0 then
        some 0
      else
        if 27 ≤ x1 then
          some 0
        else
          gd (inB x1 27) <|
          if (sI σ 11) = (sA σ 1 x1.toNatClampNeg) then
            some 1
          else
            some 0
  else
    some 0
set_option maxHeartbeats 4000000 in
set_option maxRecDepth 20000 in
theorem c_Reader_isWord {l : Launch} {g : GX} {q : Nat → Nat} {x1 : Int32}  {σ : St} {r : Int32} (hf : f_Reader_isWord  x1 σ = some r) : KK l y_Reader_isWord prog_6_method_7_code 2 (some .boolean) 0 g (wX g q) σ [.ref (q 4), .int x1] (some (.int r)) (wX g q) σ := by
  refine KK_of (plainFor_of_name (by decide)) (Nat.le_of_ble_eq_true rfl) (fun p e s m below meth c A ls C w hl => ?_)
  have hl : lv_has ls 2 [(0, .ref (q 4)), (1, .int x1)] := hl
  obtain ⟨hx, hb, hml, hown, hts, hK, hA, hZ, hlocks, hr, hN⟩ := id C
  unfold f_Reader_isWord at hf
  refine lv_aload_n hx hb d_Reader_isWord_0 rfl (lv_at hl 0 rfl) ?_
  refine xg_4_kind C w k208 d_Reader_isWord_1 ?_
  refine lv_iconst (v := 1) hx hb d_Reader_isWord_4 (by decide) ?_
  refine lv_icmp_ne (tgt := 47) hx hb d_Reader_isWord_5 (by decide) (fun cd => ?_) (fun cd => ?_)
  · have hf := if_e cd hf
    refine lv_iconst (v := 0) hx hb d_Reader_isWord_47 (by decide) ?_
    cases some_e hf
    exact k_zret C w (by decide) d_Reader_isWord_48
  · have hf := it_e cd hf
    refine lv_aload_n hx hb d_Reader_isWord_8 rfl (lv_at hl 0 rfl) ?_
    refine xg_4_size C w k212 d_Reader_isWord_9 ?_
    refine lv_bipush (v := 6) hx hb d_Reader_isWord_12 (by decide) ?_
    refine lv_icmp_gt (tgt := 47) hx hb d_Reader_isWord_14 (by decide) (fun cd => ?_) (fun cd => ?_)
    · have hf := it_e cd hf
      refine lv_iconst (v := 0) hx hb d_Reader_isWord_47 (by decide) ?_
      cases some_e hf
      exact k_zret C w (by decide) d_Reader_isWord_48
    · have hf := if_e cd hf
      refine lv_iload_n hx hb d_Reader_isWord_17 rfl (lv_at hl 1 rfl) ?_
      refine lv_if_lt (tgt := 47) hx hb d_Reader_isWord_18 (by decide) (fun cd => ?_) (fun cd => ?_)
      · have hf := it_e cd hf
        refine lv_iconst (v := 0) hx hb d_Reader_isWord_47 (by decide) ?_
        cases some_e hf
        exact k_zret C w (by decide) d_Reader_isWord_48
      · have hf := if_e cd hf
        refine lv_iload_n hx hb d_Reader_isWord_21 rfl (lv_at hl 1 rfl) ?_
        refine lv_aload_n hx hb d_Reader_isWord_22 rfl (lv_at hl 0 rfl) ?_
        refine xg_4_own C w k204 d_Reader_isWord_23 ?_
        refine xn_5 C w d_Reader_isWord_26 ?_
        refine lv_icmp_ge (tgt := 47) hx hb d_Reader_isWord_27 (by decide) (fun cd => ?_) (fun cd => ?_)
        · have hf := it_e cd hf
          refine lv_iconst (v := 0) hx hb d_Reader_isWord_47 (by decide) ?_
          cases some_e hf
          exact k_zret C w (by decide) d_Reader_isWord_48
        · have hf := if_e cd hf
          refine lv_aload_n hx hb d_Reader_isWord_30 rfl (lv_at hl 0 rfl) ?_
          refine xg_4_value C w k214 d_Reader_isWord_31 ?_
          refine lv_aload_n hx hb d_Reader_isWord_34 rfl (lv_at hl 0 rfl) ?_
          refine xg_4_own C w k204 d_Reader_isWord_35 ?_
          refine lv_iload_n hx hb d_Reader_isWord_38 rfl (lv_at hl 1 rfl) ?_
          obtain ⟨g_1, hf⟩ := gd_e hf
          refine xl_5 C w g_1 d_Reader_isWord_39 ?_
          refine lv_icmp_ne (tgt := 47) hx hb d_Reader_isWord_40 (by decide) (fun cd => ?_) (fun cd => ?_)
          · have hf := if_e cd hf
            refine lv_iconst (v := 0) hx hb d_Reader_isWord_47 (by decide) ?_
            cases some_e hf
            exact k_zret C w (by decide) d_Reader_isWord_48
          · have hf := it_e cd hf
            refine lv_iconst (v := 1) hx hb d_Reader_isWord_43 (by decide) ?_
            refine lv_goto (tgt := 48) hx hb d_Reader_isWord_44 (by decide) ?_
            cases some_e hf
            exact k_zret C w (by decide) d_Reader_isWord_48
def f_Parser_tell (x1 : Int32) (x2 : Int32) (σ : St) : Option (Int32 × St) :=
  lt (uI σ 4 x1) fun σ_1 =>
  lt (uI σ_1 5 x2) fun σ_2 =>
  some (0, σ_2)
set_option maxHeartbeats 4000000 in
set_option maxRecDepth 20000 in
theorem c_Parser_tell {l : Launch} {g : GX} {q : Nat → Nat} {x1 : Int32} {x2 : Int32}  {σ : St} {r : Int32} {σ2 : St} (hf : f_Parser_tell  x1 x2 σ = some (r, σ2)) : KK l y_Parser_tell prog_5_method_3_code 3 (some .boolean) 0 g (wX g q) σ [.ref (q 3), .int x1, .int x2] (some (.int r)) (wX g q) σ2 := by
  refine KK_of (plainFor_of_name (by decide)) (Nat.le_of_ble_eq_true rfl) (fun p e s m below meth c A ls C w hl => ?_)
  have hl : lv_has ls 3 [(0, .ref (q 3)), (1, .int x1), (2, .int x2)] := hl
  obtain ⟨hx, hb, hml, hown, hts, hK, hA, hZ, hlocks, hr, hN⟩ := id C
  unfold f_Parser_tell at hf
  refine lv_aload_n hx hb d_Parser_tell_0 rfl (lv_at hl 0 rfl) ?_
  refine lv_iload_n hx hb d_Parser_tell_1 rfl (lv_at hl 1 rfl) ?_
  refine xp_3_fault C w k316 d_Parser_tell_2 (fun σ_1 H locs eσ_1 w => ?_)
  have hf := lt_e eσ_1 hf
  refine lv_aload_n hx hb d_Parser_tell_5 rfl (lv_at hl 0 rfl) ?_
  refine lv_iload_n hx hb d_Parser_tell_6 rfl (lv_at hl 2 rfl) ?_
  refine xp_3_place C w k318 d_Parser_tell_7 (fun σ_2 H locs eσ_2 w => ?_)
  have hf := lt_e eσ_2 hf
  refine lv_iconst (v := 0) hx hb d_Parser_tell_10 (by decide) ?_
  obtain ⟨rfl, rfl⟩ := some2_e hf
  exact k_zret C w (by decide) d_Parser_tell_11
def f_Parser_tellWrong (σ : St) : Option (Int32 × St) :=
  bd (f_Parser_tell 1 (sI σ 9) σ) fun r_2 σ_3 =>
  gd (isB r_2) <|
  some (r_2, σ_3)
set_option maxHeartbeats 4000000 in
set_option maxRecDepth 20000 in
theorem c_Parser_tellWrong {l : Launch} {g : GX} {q : Nat → Nat}  {σ : St} {r : Int32} {σ2 : St} (hf : f_Parser_tellWrong   σ = some (r, σ2)) : KK l y_Parser_tellWrong prog_5_method_4_code 1 (some .boolean) 1 g (wX g q) σ [.ref (q 3)] (some (.int r)) (wX g q) σ2 := by
  refine KK_of (plainFor_of_name (by decide)) (Nat.le_of_ble_eq_true rfl) (fun p e s m below meth c A ls C w hl => ?_)
  have hl : lv_has ls 1 [(0, .ref (q 3))] := hl
  obtain ⟨hx, hb, hml, hown, hts, hK, hA, hZ, hlocks, hr, hN⟩ := id C
  unfold f_Parser_tellWrong at hf
  refine lv_aload_n hx hb d_Parser_tellWrong_0 rfl (lv_at hl 0 rfl) ?_
  refine lv_iconst (v := 1) hx hb d_Parser_tellWrong_1 (by decide) ?_
  refine lv_aload_n hx hb d_Parser_tellWrong_2 rfl (lv_at hl 0 rfl) ?_
  refine xg_3_reader C w k313 d_Parser_tellWrong_3 ?_
  refine xg_4_start C w k210 d_Parser_tellWrong_6 ?_
  obtain ⟨r_2, σ_3, h_1, hf⟩ := bd_e hf
  refine k_callV (As := [.int 1, .int (sI σ 9)]) (rest := []) C w (c_Parser_tell (q := q) h_1) cv_Parser_tell k590 (xr_3 C w) (by decide) hl.1 rfl (Nat.le_of_ble_eq_true rfl) d_Parser_tellWrong_9 (fun H locs w => ?_)
  show WK p l e s m _ below meth c 1 g (wX g q) A (some (.int r)) σ2 H locs (F0 m 12 ls [.int r_2])
  obtain ⟨g_4, hf⟩ := gd_e hf
  obtain ⟨rfl, rfl⟩ := some2_e hf
  exact k_zret C w g_4 d_Parser_tellWrong_12
def f_Parser_passNumber_64 (σ : St) : Option (Int32 × St) :=
  bd (f_Parser_tell 2 (sI σ 9) σ) fun r_2 σ_3 =>
  some ((-1), σ_3)
def f_Parser_passNumber (x1 : Int32) (x2 : Int32) (σ : St) : Option (Int32 × St) :=
  if (sI σ 8) = 2 then
    if (sI σ 10) ≤ 4 then
      lt ((sI σ 11)) fun x_1 =>
      if x_1 < x1 then
        f_Parser_passNumber_64 σ
      else
        if x_1 ≤ x2 then
          bp (f_Reader_step σ) fun σ_3 =>
          some (x_1, σ_3)
        else
          f_Parser_passNumber_64 σ
    else
      bd (f_Parser_tell 1 ((sI σ 9) + 4) σ) fun r_5 σ_6 =>
      some ((-1), σ_6)
  else
    bd (f_Parser_tellWrong σ) fun r_8 σ_9 =>
    some ((-1), σ_9)
set_option maxHeartbeats 4000000 in
set_option maxRecDepth 20000 in
theorem t_Parser_passNumber_64 {r : Int32} {σ2 : St} (C : Cx g A p s m av meth c prog_5_method_8_code 4 "BellHammer$Parser" (some .int))  {σ : St} {H : Heap} {locs : List Loc} {ls : Array Slot} (hf : f_Parser_passNumber_64    σ = some (r, σ2)) (w : Wd g (wX g (qt q)) A s σ H locs) (hl : lv_has ls 4 [(0, .ref (qt q 3))]) : WK p l e s m av below meth c 2 g (wX g (qt q)) A (some (.int r)) σ2 H locs (F0 m 64 ls []) := by
  obtain ⟨hx, hb, hml, hown, hts, hK, hA, hZ, hlocks, hr, hN⟩ := id C
  unfold f_Parser_passNumber_64 at hf
  refine lv_aload_n hx hb d_Parser_passNumber_64 rfl (lv_at hl 0 rfl) ?_
  refine lv_iconst (v := 2) hx hb d_Parser_passNumber_65 (by decide) ?_
  refine lv_aload_n hx hb d_Parser_passNumber_66 rfl (lv_at hl 0 rfl) ?_
  refine xg_3_reader C w k313 d_Parser_passNumber_67 ?_
  refine xg_4_start C w k210 d_Parser_passNumber_70 ?_
  obtain ⟨r_2, σ_3, h_1, hf⟩ := bd_e hf
  refine k_callV (As := [.int 2, .int (sI σ 9)]) (rest := []) C w (c_Parser_tell (q := qt q) h_1) cv_Parser_tell k590 (xr_3 C w) (by decide) hl.1 rfl (Nat.le_of_ble_eq_true rfl) d_Parser_passNumber_73 (fun H locs w => ?_)
  show WK p l e s m av below meth c 2 g (wX g (qt q)) A (some (.int r)) σ2 H locs (F0 m 76 ls [.int r_2])
  refine lv_pop hx hb d_Parser_passNumber_76 rfl ?_
  refine lv_iconst (v := (-1)) hx hb d_Parser_passNumber_77 (by decide) ?_
  obtain ⟨rfl, rfl⟩ := some2_e hf
  exact k_iret C w d_Parser_passNumber_78
set_option maxHeartbeats 4000000 in
set_option maxRecDepth 20000 in
theorem c_Parser_passNumber {l : Launch} {g : GX} {q : Nat → Nat} {x1 : Int32} {x2 : Int32}  {σ : St} {r : Int32} {σ2 : St} (hf : f_Parser_passNumber  x1 x2 σ = some (r, σ2)) : KK l y_Parser_passNumber prog_5_method_8_code 4 (some .int) 2 g (wX g (qt q)) σ [.ref (qt q 3), .int x1, .int x2] (some (.int r)) (wX g (qt q)) σ2 := by
  refine KK_of (plainFor_of_name (by decide)) (Nat.le_of_ble_eq_true rfl) (fun p e s m below meth c A ls C w hl => ?_)
  have hl : lv_has ls 4 [(0, .ref (qt q 3)), (1, .int x1), (2, .int x2)] := hl
  obtain ⟨hx, hb, hml, hown, hts, hK, hA, hZ, hlocks, hr, hN⟩ := id C
  unfold f_Parser_passNumber at hf
  refine lv_aload_n hx hb d_Parser_passNumber_0 rfl (lv_at hl 0 rfl) ?_
  refine xg_3_reader C w k313 d_Parser_passNumber_1 ?_
  refine xg_4_kind C w k209 d_Parser_passNumber_4 ?_
  refine lv_iconst (v := 2) hx hb d_Parser_passNumber_7 (by decide) ?_
  refine lv_icmp_eq (tgt := 18) hx hb d_Parser_passNumber_8 (by decide) (fun cd => ?_) (fun cd => ?_)
  · have hf := it_e cd hf
    refine lv_aload_n hx hb d_Parser_passNumber_18 rfl (lv_at hl 0 rfl) ?_
    refine xg_3_reader C w k313 d_Parser_passNumber_19 ?_
    refine xg_4_size C w k213 d_Parser_passNumber_22 ?_
    refine lv_iconst (v := 4) hx hb d_Parser_passNumber_25 (by decide) ?_
    refine lv_icmp_le (tgt := 46) hx hb d_Parser_passNumber_26 (by decide) (fun cd => ?_) (fun cd => ?_)
    · have hf := it_e cd hf
      refine lv_aload_n hx hb d_Parser_passNumber_46 rfl (lv_at hl 0 rfl) ?_
      refine xg_3_reader C w k313 d_Parser_passNumber_47 ?_
      refine xg_4_value C w k215 d_Parser_passNumber_50 ?_
      refine lv_topi (fun x_1 ex_1 => ?_)
      have hf := lt_e ex_1 hf
      refine lv_istore_n (lv' := [(3, .int x_1), (0, .ref (qt q 3)), (1, .int x1), (2, .int x2)]) hx hb d_Parser_passNumber_53 rfl hl (by decide) rfl (fun ls hl => ?_)
      refine lv_iload_n hx hb d_Parser_passNumber_54 rfl (lv_at hl 0 rfl) ?_
      refine lv_iload_n hx hb d_Parser_passNumber_55 rfl (lv_at hl 2 rfl) ?_
      refine lv_icmp_lt (tgt := 64) hx hb d_Parser_passNumber_56 (by decide) (fun cd => ?_) (fun cd => ?_)
      · have hf := it_e cd hf
        exact t_Parser_passNumber_64 C  hf w (lv_sub hl [1] rfl)
      · have hf := if_e cd hf
        refine lv_iload_n hx hb d_Parser_passNumber_59 rfl (lv_at hl 0 rfl) ?_
        refine lv_iload_n hx hb d_Parser_passNumber_60 rfl (lv_at hl 3 rfl) ?_
        refine lv_icmp_le (tgt := 79) hx hb d_Parser_passNumber_61 (by decide) (fun cd => ?_) (fun cd => ?_)
        · have hf := it_e cd hf
          refine lv_aload_n hx hb d_Parser_passNumber_79 rfl (lv_at hl 1 rfl) ?_
          refine xg_3_reader C w k313 d_Parser_passNumber_80 ?_
          obtain ⟨σ_3, h_2, hf⟩ := bp_e hf
          refine k_callV (As := []) (rest := []) C w (c_Reader_step (q := q) h_2) cv_Reader_step k606 (xr_4 C w) (by decide) hl.1 rfl (Nat.le_of_ble_eq_true rfl) d_Parser_passNumber_83 (fun H locs w => ?_)
          show WK p l e s m _ below meth c 2 g (wX g (qt q)) A (some (.int r)) σ2 H locs (F0 m 86 ls [])
          refine lv_iload_n hx hb d_Parser_passNumber_86 rfl (lv_at hl 0 rfl) ?_
          obtain ⟨rfl, rfl⟩ := some2_e hf
          exact k_iret C w d_Parser_passNumber_87
        · have hf := if_e cd hf
          exact t_Parser_passNumber_64 C  hf w (lv_sub hl [1] rfl)
    · have hf := if_e cd hf
      refine lv_aload_n hx hb d_Parser_passNumber_29 rfl (lv_at hl 0 rfl) ?_
      refine lv_iconst (v := 1) hx hb d_Parser_passNumber_30 (by decide) ?_
      refine lv_aload_n hx hb d_Parser_passNumber_31 rfl (lv_at hl 0 rfl) ?_
      refine xg_3_reader C w k313 d_Parser_passNumber_32 ?_
      refine xg_4_start C w k210 d_Parser_passNumber_35 ?_
      refine lv_iconst (v := 4) hx hb d_Parser_passNumber_38 (by decide) ?_
      refine lv_iadd hx hb d_Parser_passNumber_39 ?_
      obtain ⟨r_5, σ_6, h_4, hf⟩ := bd_e hf
      refine k_callV (As := [.int 1, .int ((sI σ 9) + 4)]) (rest := []) C w (c_Parser_tell (q := qt q) h_4) cv_Parser_tell k590 (xr_3 C w) (by decide) hl.1 rfl (Nat.le_of_ble_eq_true rfl) d_Parser_passNumber_40 (fun H locs w => ?_)
      show WK p l e s m _ below meth c 2 g (wX g (qt q)) A (some (.int r)) σ2 H locs (F0 m 43 ls [.int r_5])
      refine lv_pop hx hb d_Parser_passNumber_43 rfl ?_
      refine lv_iconst (v := (-1)) hx hb d_Parser_passNumber_44 (by decide) ?_
      obtain ⟨rfl, rfl⟩ := some2_e hf
      exact k_iret C w d_Parser_passNumber_45
  · have hf := if_e cd hf
    refine lv_aload_n hx hb d_Parser_passNumber_11 rfl (lv_at hl 0 rfl) ?_
    obtain ⟨r_8, σ_9, h_7, hf⟩ := bd_e hf
    refine k_callV (As := []) (rest := []) C w (c_Parser_tellWrong (q := qt q) h_7) cv_Parser_tellWrong k616 (xr_3 C w) (by decide) hl.1 rfl (Nat.le_of_ble_eq_true rfl) d_Parser_passNumber_12 (fun H locs w => ?_)
    show WK p l e s m _ below meth c 2 g (wX g (qt q)) A (some (.int r)) σ2 H locs (F0 m 15 ls [.int r_8])
    refine lv_pop hx hb d_Parser_passNumber_15 rfl ?_
    refine lv_iconst (v := (-1)) hx hb d_Parser_passNumber_16 (by decide) ?_
    obtain ⟨rfl, rfl⟩ := some2_e hf
    exact k_iret C w d_Parser_passNumber_17
def f_Parser_readSetting (x1 : Int32) (σ : St) : Option (Int32 × St) :=
  gd (inB x1 9) <|
  gd (inB x1 9) <|
  bd (f_Parser_passNumber (stV 3 x1) (stV 4 x1) σ) fun r_4 σ_5 =>
  if r_4 = (-1) then
    some (0, σ_5)
  else
    gd (inB x1 9) <|
    lt (uA σ_5 6 (upd (sA σ_5 6) x1.toNatClampNeg r_4)) fun σ_7 =>
    some (1, σ_7)
set_option maxHeartbeats 4000000 in
set_option maxRecDepth 20000 in
theorem c_Parser_readSetting {l : Launch} {g : GX} {q : Nat → Nat} {x1 : Int32}  {σ : St} {r : Int32} {σ2 : St} (hf : f_Parser_readSetting  x1 σ = some (r, σ2)) : KK l y_Parser_readSetting prog_5_method_10_code 3 (some .boolean) 3 g (wX g (qt q)) σ [.ref (qt q 3), .int x1] (some (.int r)) (wX g (qt q)) σ2 := by
  refine KK_of (plainFor_of_name (by decide)) (Nat.le_of_ble_eq_true rfl) (fun p e s m below meth c A ls C w hl => ?_)
  have hl : lv_has ls 3 [(0, .ref (qt q 3)), (1, .int x1)] := hl
  obtain ⟨hx, hb, hml, hown, hts, hK, hA, hZ, hlocks, hr, hN⟩ := id C
  unfold f_Parser_readSetting at hf
  refine lv_aload_n hx hb d_Parser_readSetting_0 rfl (lv_at hl 0 rfl) ?_
  refine r_getsN C w 3 rfl (List.mem_of_getElem? (l := nestF) (i := 4) rfl) d_Parser_readSetting_1 ?_
  refine lv_iload_n hx hb d_Parser_readSetting_4 rfl (lv_at hl 1 rfl) ?_
  obtain ⟨g_1, hf⟩ := gd_e hf
  refine r_sld C w 3 rfl g_1 d_Parser_readSetting_5 ?_
  refine r_getsN C w 4 rfl (List.mem_of_getElem? (l := nestF) (i := 5) rfl) d_Parser_readSetting_6 ?_
  refine lv_iload_n hx hb d_Parser_readSetting_9 rfl (lv_at hl 1 rfl) ?_
  obtain ⟨g_2, hf⟩ := gd_e hf
  refine r_sld C w 4 rfl g_2 d_Parser_readSetting_10 ?_
  obtain ⟨r_4, σ_5, h_3, hf⟩ := bd_e hf
  refine k_callV (As := [.int (stV 3 x1), .int (stV 4 x1)]) (rest := []) C w (c_Parser_passNumber (q := q) h_3) cv_Parser_passNumber k628 (xr_3 C w) (by decide) hl.1 rfl (Nat.le_of_ble_eq_true rfl) d_Parser_readSetting_11 (fun H locs w => ?_)
  show WK p l e s m _ below meth c 3 g (wX g (qt q)) A (some (.int r)) σ2 H locs (F0 m 14 ls [.int r_4])
  refine lv_istore_n (lv' := [(2, .int r_4), (0, .ref (qt q 3)), (1, .int x1)]) hx hb d_Parser_readSetting_14 rfl hl (by decide) rfl (fun ls hl => ?_)
  refine lv_iload_n hx hb d_Parser_readSetting_15 rfl (lv_at hl 0 rfl) ?_
  refine lv_iconst (v := (-1)) hx hb d_Parser_readSetting_16 (by decide) ?_
  refine lv_icmp_ne (tgt := 22) hx hb d_Parser_readSetting_17 (by decide) (fun cd => ?_) (fun cd => ?_)
  · have hf := if_e cd hf
    refine lv_aload_n hx hb d_Parser_readSetting_22 rfl (lv_at hl 1 rfl) ?_
    refine xg_3_draft C w k314 d_Parser_readSetting_23 ?_
    refine xg_6_settings C w k264 d_Parser_readSetting_26 ?_
    refine lv_iload_n hx hb d_Parser_readSetting_29 rfl (lv_at hl 2 rfl) ?_
    refine lv_iload_n hx hb d_Parser_readSetting_30 rfl (lv_at hl 0 rfl) ?_
    obtain ⟨g_6, hf⟩ := gd_e hf
    refine xs_11 C w g_6 d_Parser_readSetting_31 (fun σ_7 H locs eσ_7 w => ?_)
    have hf := lt_e eσ_7 hf
    refine lv_iconst (v := 1) hx hb d_Parser_readSetting_32 (by decide) ?_
    obtain ⟨rfl, rfl⟩ := some2_e hf
    exact k_zret C w (by decide) d_Parser_readSetting_33
  · have hf := it_e cd hf
    refine lv_iconst (v := 0) hx hb d_Parser_readSetting_20 (by decide) ?_
    obtain ⟨rfl, rfl⟩ := some2_e hf
    exact k_zret C w (by decide) d_Parser_readSetting_21
def f_Parser_passWord (x1 : Int32) (σ : St) : Option (Int32 × St) :=
  bp (f_Reader_isWord x1 σ) fun r_2 =>
  if r_2 = 0 then
    bd (f_Parser_tellWrong σ) fun r_6 σ_7 =>
    gd (isB r_6) <|
    some (r_6, σ_7)
  else
    bp (f_Reader_step σ) fun σ_4 =>
    some (1, σ_4)
set_option maxHeartbeats 4000000 in
set_option maxRecDepth 20000 in
theorem c_Parser_passWord {l : Launch} {g : GX} {q : Nat → Nat} {x1 : Int32}  {σ : St} {r : Int32} {σ2 : St} (hf : f_Parser_passWord  x1 σ = some (r, σ2)) : KK l y_Parser_passWord prog_5_method_6_code 2 (some .boolean) 2 g (wX g (qt q)) σ [.ref (qt q 3), .int x1] (some (.int r)) (wX g (qt q)) σ2 := by
  refine KK_of (plainFor_of_name (by decide)) (Nat.le_of_ble_eq_true rfl) (fun p e s m below meth c A ls C w hl => ?_)
  have hl : lv_has ls 2 [(0, .ref (qt q 3)), (1, .int x1)] := hl
  obtain ⟨hx, hb, hml, hown, hts, hK, hA, hZ, hlocks, hr, hN⟩ := id C
  unfold f_Parser_passWord at hf
  refine lv_aload_n hx hb d_Parser_passWord_0 rfl (lv_at hl 0 rfl) ?_
  refine xg_3_reader C w k313 d_Parser_passWord_1 ?_
  refine lv_iload_n hx hb d_Parser_passWord_4 rfl (lv_at hl 1 rfl) ?_
  obtain ⟨r_2, h_1, hf⟩ := bp_e hf
  refine k_callV (As := [.int x1]) (rest := []) C w (c_Reader_isWord (q := qt q) h_1) cv_Reader_isWord k598 (xr_4 C w) (by decide) hl.1 rfl (Nat.le_of_ble_eq_true rfl) d_Parser_passWord_5 (fun H locs w => ?_)
  show WK p l e s m _ below meth c 2 g (wX g (qt q)) A (some (.int r)) σ2 H locs (F0 m 8 ls [.int r_2])
  refine lv_if_ne (tgt := 16) hx hb d_Parser_passWord_8 (by decide) (fun cd => ?_) (fun cd => ?_)
  · have hf := if_e cd hf
    refine lv_aload_n hx hb d_Parser_passWord_16 rfl (lv_at hl 0 rfl) ?_
    refine xg_3_reader C w k313 d_Parser_passWord_17 ?_
    obtain ⟨σ_4, h_3, hf⟩ := bp_e hf
    refine k_callV (As := []) (rest := []) C w (c_Reader_step (q := q) h_3) cv_Reader_step k606 (xr_4 C w) (by decide) hl.1 rfl (Nat.le_of_ble_eq_true rfl) d_Parser_passWord_20 (fun H locs w => ?_)
    show WK p l e s m _ below meth c 2 g (wX g (qt q)) A (some (.int r)) σ2 H locs (F0 m 23 ls [])
    refine lv_iconst (v := 1) hx hb d_Parser_passWord_23 (by decide) ?_
    obtain ⟨rfl, rfl⟩ := some2_e hf
    exact k_zret C w (by decide) d_Parser_passWord_24
  · have hf := it_e cd hf
    refine lv_aload_n hx hb d_Parser_passWord_11 rfl (lv_at hl 0 rfl) ?_
    obtain ⟨r_6, σ_7, h_5, hf⟩ := bd_e hf
    refine k_callV (As := []) (rest := []) C w (c_Parser_tellWrong (q := qt q) h_5) cv_Parser_tellWrong k616 (xr_3 C w) (by decide) hl.1 rfl (Nat.le_of_ble_eq_true rfl) d_Parser_passWord_12 (fun H locs w => ?_)
    show WK p l e s m _ below meth c 2 g (wX g (qt q)) A (some (.int r)) σ2 H locs (F0 m 15 ls [.int r_6])
    obtain ⟨g_8, hf⟩ := gd_e hf
    obtain ⟨rfl, rfl⟩ := some2_e hf
    exact k_zret C w g_8 d_Parser_passWord_15
def f_Parser_beginRule (σ : St) : Option (Int32 × St) :=
  if (sI σ 15) < 6 then
    bp (f_Reader_step σ) fun σ_2 =>
    bd (f_Parser_passWord 10 σ_2) fun r_4 σ_5 =>
    gd (isB r_4) <|
    some (r_4, σ_5)
  else
    bd (f_Parser_tell 5 (sI σ 9) σ) fun r_8 σ_9 =>
    gd (isB r_8) <|
    some (r_8, σ_9)
set_option maxHeartbeats 4000000 in
set_option maxRecDepth 20000 in
theorem c_Parser_beginRule {l : Launch} {g : GX} {q : Nat → Nat}  {σ : St} {r : Int32} {σ2 : St} (hf : f_Parser_beginRule   σ = some (r, σ2)) : KK l y_Parser_beginRule prog_5_method_13_code 1 (some .boolean) 3 g (wX g (qt q)) σ [.ref (qt q 3)] (some (.int r)) (wX g (qt q)) σ2 := by
  refine KK_of (plainFor_of_name (by decide)) (Nat.le_of_ble_eq_true rfl) (fun p e s m below meth c A ls C w hl => ?_)
  have hl : lv_has ls 1 [(0, .ref (qt q 3))] := hl
  obtain ⟨hx, hb, hml, hown, hts, hK, hA, hZ, hlocks, hr, hN⟩ := id C
  unfold f_Parser_beginRule at hf
  refine lv_aload_n hx hb d_Parser_beginRule_0 rfl (lv_at hl 0 rfl) ?_
  refine xg_3_draft C w k314 d_Parser_beginRule_1 ?_
  refine xg_6_rules C w k284 d_Parser_beginRule_4 ?_
  refine lv_bipush (v := 6) hx hb d_Parser_beginRule_7 (by decide) ?_
  refine lv_icmp_lt (tgt := 25) hx hb d_Parser_beginRule_9 (by decide) (fun cd => ?_) (fun cd => ?_)
  · have hf := it_e cd hf
    refine lv_aload_n hx hb d_Parser_beginRule_25 rfl (lv_at hl 0 rfl) ?_
    refine xg_3_reader C w k313 d_Parser_beginRule_26 ?_
    obtain ⟨σ_2, h_1, hf⟩ := bp_e hf
    refine k_callV (As := []) (rest := []) C w (c_Reader_step (q := q) h_1) cv_Reader_step k606 (xr_4 C w) (by decide) hl.1 rfl (Nat.le_of_ble_eq_true rfl) d_Parser_beginRule_29 (fun H locs w => ?_)
    show WK p l e s m _ below meth c 3 g (wX g (qt q)) A (some (.int r)) σ2 H locs (F0 m 32 ls [])
    refine lv_aload_n hx hb d_Parser_beginRule_32 rfl (lv_at hl 0 rfl) ?_
    refine lv_bipush (v := 10) hx hb d_Parser_beginRule_33 (by decide) ?_
    obtain ⟨r_4, σ_5, h_3, hf⟩ := bd_e hf
    refine k_callV (As := [.int 10]) (rest := []) C w (c_Parser_passWord (q := q) h_3) cv_Parser_passWord k624 (xr_3 C w) (by decide) hl.1 rfl (Nat.le_of_ble_eq_true rfl) d_Parser_beginRule_35 (fun H locs w => ?_)
    show WK p l e s m _ below meth c 3 g (wX g (qt q)) A (some (.int r)) σ2 H locs (F0 m 38 ls [.int r_4])
    obtain ⟨g_6, hf⟩ := gd_e hf
    obtain ⟨rfl, rfl⟩ := some2_e hf
    exact k_zret C w g_6 d_Parser_beginRule_38
  · have hf := if_e cd hf
    refine lv_aload_n hx hb d_Parser_beginRule_12 rfl (lv_at hl 0 rfl) ?_
    refine lv_iconst (v := 5) hx hb d_Parser_beginRule_13 (by decide) ?_
    refine lv_aload_n hx hb d_Parser_beginRule_14 rfl (lv_at hl 0 rfl) ?_
    refine xg_3_reader C w k313 d_Parser_beginRule_15 ?_
    refine xg_4_start C w k210 d_Parser_beginRule_18 ?_
    obtain ⟨r_8, σ_9, h_7, hf⟩ := bd_e hf
    refine k_callV (As := [.int 5, .int (sI σ 9)]) (rest := []) C w (c_Parser_tell (q := qt q) h_7) cv_Parser_tell k590 (xr_3 C w) (by decide) hl.1 rfl (Nat.le_of_ble_eq_true rfl) d_Parser_beginRule_21 (fun H locs w => ?_)
    show WK p l e s m _ below meth c 3 g (wX g (qt q)) A (some (.int r)) σ2 H locs (F0 m 24 ls [.int r_8])
    obtain ⟨g_10, hf⟩ := gd_e hf
    obtain ⟨rfl, rfl⟩ := some2_e hf
    exact k_zret C w g_10 d_Parser_beginRule_24
def f_Fair_emit (x1 : Int32) (σ : St) : Option (St) :=
  if 1600 ≤ (sI σ 12) then
    some σ
  else
    gd (inB (sI σ 12) 1600) <|
    lt (uA σ 7 (upd (sA σ 7) (sI σ 12).toNatClampNeg x1)) fun σ_2 =>
    lt (uI σ_2 12 ((sI σ_2 12) + 1)) fun σ_3 =>
    some σ_3
set_option maxHeartbeats 4000000 in
set_option maxRecDepth 20000 in
theorem c_Fair_emit {l : Launch} {g : GX} {q : Nat → Nat} {x1 : Int32}  {σ : St} {σ2 : St} (hf : f_Fair_emit  x1 σ = some σ2) : KK l y_Fair_emit prog_3_method_6_code 2 none 0 g (wX g q) σ [.ref (q 6), .int x1] none (wX g q) σ2 := by
  refine KK_of (plainFor_of_name (by decide)) (Nat.le_of_ble_eq_true rfl) (fun p e s m below meth c A ls C w hl => ?_)
  have hl : lv_has ls 2 [(0, .ref (q 6)), (1, .int x1)] := hl
  obtain ⟨hx, hb, hml, hown, hts, hK, hA, hZ, hlocks, hr, hN⟩ := id C
  unfold f_Fair_emit at hf
  refine lv_aload_n hx hb d_Fair_emit_0 rfl (lv_at hl 0 rfl) ?_
  refine xg_6_codeSize C w k270 d_Fair_emit_1 ?_
  refine lv_aload_n hx hb d_Fair_emit_4 rfl (lv_at hl 0 rfl) ?_
  refine xg_6_code C w k265 d_Fair_emit_5 ?_
  refine xn_12 C w d_Fair_emit_8 ?_
  refine lv_icmp_ge (tgt := 32) hx hb d_Fair_emit_9 (by decide) (fun cd => ?_) (fun cd => ?_)
  · have hf := it_e cd hf
    cases some_e hf
    exact k_vret C w d_Fair_emit_32
  · have hf := if_e cd hf
    refine lv_aload_n hx hb d_Fair_emit_12 rfl (lv_at hl 0 rfl) ?_
    refine xg_6_code C w k265 d_Fair_emit_13 ?_
    refine lv_aload_n hx hb d_Fair_emit_16 rfl (lv_at hl 0 rfl) ?_
    refine xg_6_codeSize C w k270 d_Fair_emit_17 ?_
    refine lv_iload_n hx hb d_Fair_emit_20 rfl (lv_at hl 1 rfl) ?_
    obtain ⟨g_1, hf⟩ := gd_e hf
    refine xs_12 C w g_1 d_Fair_emit_21 (fun σ_2 H locs eσ_2 w => ?_)
    have hf := lt_e eσ_2 hf
    refine lv_aload_n hx hb d_Fair_emit_22 rfl (lv_at hl 0 rfl) ?_
    refine lv_dup hx hb d_Fair_emit_23 rfl ?_
    refine xg_6_codeSize C w k270 d_Fair_emit_24 ?_
    refine lv_iconst (v := 1) hx hb d_Fair_emit_27 (by decide) ?_
    refine lv_iadd hx hb d_Fair_emit_28 ?_
    refine xp_6_codeSize C w k270 d_Fair_emit_29 (fun σ_3 H locs eσ_3 w => ?_)
    have hf := lt_e eσ_3 hf
    cases some_e hf
    exact k_vret C w d_Fair_emit_32
def f_Parser_readBoth_12b (kT : Int32 → St → Option (Int32 × St)) (k12 : Int32 → Int32 → St → Option (Int32 × St)) (x1 : Int32) (x2 : Int32) (σ : St) : Option (Int32 × St) :=
  if 1600 ≤ x2 then
    some (1, σ)
  else
    bp (f_Reader_isWord 22 σ) fun r_2 =>
    if r_2 = 0 then
      some (1, σ)
    else
      bp (f_Reader_step σ) fun σ_4 =>
      bd (kT x1 σ_4) fun r_6 σ_7 =>
      if r_6 = 0 then
        some (0, σ_7)
      else
        bp (f_Fair_emit 10011 σ_7) fun σ_9 =>
        lt ((x2 + 1)) fun x_10 =>
        k12 x1 x_10 σ_9
def f_Parser_readBoth_12 (kT : Int32 → St → Option (Int32 × St)) : Nat → Int32 → Int32 → St → Option (Int32 × St)
  | 0 => fun _ _ _ => none
  | n + 1 => f_Parser_readBoth_12b kT  (f_Parser_readBoth_12 kT  n)
def f_Parser_readBoth (kT : Int32 → St → Option (Int32 × St)) (x1 : Int32) (σ : St) : Option (Int32 × St) :=
  bd (kT x1 σ) fun r_2 σ_3 =>
  if r_2 = 0 then
    some (0, σ_3)
  else
    f_Parser_readBoth_12 kT FU x1 0 σ_3
set_option maxHeartbeats 4000000 in
set_option maxRecDepth 20000 in
theorem t_Parser_readBoth_12b {r : Int32} {σ2 : St} (C : Cx g A p s m av meth c prog_5_method_16_code 3 "BellHammer$Parser" (some .boolean)) {nk : Nat} (hnk : 44 ≤ nk) {kT : Int32 → St → Option (Int32 × St)} (hkT : ∀ (a0 : Int32) (σ : St) (r : Int32) (σ2 : St), kT a0 σ = some (r, σ2) → KK l y_Parser_readFact prog_5_method_17_code 3 (some .boolean) nk g (wX g (qt q)) σ [.ref (qt q 3), .int a0] (some (.int r)) (wX g (qt q)) σ2) {k12 : Int32 → Int32 → St → Option (Int32 × St)} (hk12 : ∀ (x1 : Int32) (x2 : Int32) (σ : St) (H : Heap) (locs : List Loc) (ls : Array Slot), k12 x1 x2 σ = some (r, σ2) → Wd g (wX g (qt q)) A s σ H locs → lv_has ls 3 [(0, .ref (qt q 3)), (1, .int x1), (2, .int x2)] → WK p l e s m av below meth c (nk + 1) g (wX g (qt q)) A (some (.int r)) σ2 H locs (F0 m 12 ls []))  {x1 : Int32} {x2 : Int32} {σ : St} {H : Heap} {locs : List Loc} {ls : Array Slot} (hf : f_Parser_readBoth_12b kT k12 x1 x2 σ = some (r, σ2)) (w : Wd g (wX g (qt q)) A s σ H locs) (hl : lv_has ls 3 [(0, .ref (qt q 3)), (1, .int x1), (2, .int x2)]) : WK p l e s m av below meth c (nk + 1) g (wX g (qt q)) A (some (.int r)) σ2 H locs (F0 m 12 ls []) := by
  obtain ⟨hx, hb, hml, hown, hts, hK, hA, hZ, hlocks, hr, hN⟩ := id C
  unfold f_Parser_readBoth_12b at hf
  refine lv_iload_n hx hb d_Parser_readBoth_12 rfl (lv_at hl 2 rfl) ?_
  refine lv_sipush (v := 1600) hx hb d_Parser_readBoth_13 (by decide) ?_
  refine lv_icmp_ge (tgt := 64) hx hb d_Parser_readBoth_16 (by decide) (fun cd => ?_) (fun cd => ?_)
  · have hf := it_e cd hf
    refine lv_iconst (v := 1) hx hb d_Parser_readBoth_64 (by decide) ?_
    obtain ⟨rfl, rfl⟩ := some2_e hf
    exact k_zret C w (by decide) d_Parser_readBoth_65
  · have hf := if_e cd hf
    refine lv_aload_n hx hb d_Parser_readBoth_19 rfl (lv_at hl 0 rfl) ?_
    refine xg_3_reader C w k313 d_Parser_readBoth_20 ?_
    refine lv_bipush (v := 22) hx hb d_Parser_readBoth_23 (by decide) ?_
    obtain ⟨r_2, h_1, hf⟩ := bp_e hf
    refine k_callV (As := [.int 22]) (rest := []) C w (c_Reader_isWord (q := qt q) h_1) cv_Reader_isWord k598 (xr_4 C w) (by omega) hl.1 rfl (Nat.le_of_ble_eq_true rfl) d_Parser_readBoth_25 (fun H locs w => ?_)
    show WK p l e s m av below meth c (nk + 1) g (wX g (qt q)) A (some (.int r)) σ2 H locs (F0 m 28 ls [.int r_2])
    refine lv_if_eq (tgt := 64) hx hb d_Parser_readBoth_28 (by decide) (fun cd => ?_) (fun cd => ?_)
    · have hf := it_e cd hf
      refine lv_iconst (v := 1) hx hb d_Parser_readBoth_64 (by decide) ?_
      obtain ⟨rfl, rfl⟩ := some2_e hf
      exact k_zret C w (by decide) d_Parser_readBoth_65
    · have hf := if_e cd hf
      refine lv_aload_n hx hb d_Parser_readBoth_31 rfl (lv_at hl 0 rfl) ?_
      refine xg_3_reader C w k313 d_Parser_readBoth_32 ?_
      obtain ⟨σ_4, h_3, hf⟩ := bp_e hf
      refine k_callV (As := []) (rest := []) C w (c_Reader_step (q := q) h_3) cv_Reader_step k606 (xr_4 C w) (by omega) hl.1 rfl (Nat.le_of_ble_eq_true rfl) d_Parser_readBoth_35 (fun H locs w => ?_)
      show WK p l e s m av below meth c (nk + 1) g (wX g (qt q)) A (some (.int r)) σ2 H locs (F0 m 38 ls [])
      refine lv_aload_n hx hb d_Parser_readBoth_38 rfl (lv_at hl 0 rfl) ?_
      refine lv_iload_n hx hb d_Parser_readBoth_39 rfl (lv_at hl 1 rfl) ?_
      obtain ⟨r_6, σ_7, h_5, hf⟩ := bd_e hf
      refine k_callV (As := [.int x1]) (rest := []) C w (hkT _ _ _ _ h_5) cv_Parser_readFact k652 (xr_3 C w) (by omega) hl.1 rfl (Nat.le_of_ble_eq_true rfl) d_Parser_readBoth_40 (fun H locs w => ?_)
      show WK p l e s m av below meth c (nk + 1) g (wX g (qt q)) A (some (.int r)) σ2 H locs (F0 m 43 ls [.int r_6])
      refine lv_if_ne (tgt := 48) hx hb d_Parser_readBoth_43 (by decide) (fun cd => ?_) (fun cd => ?_)
      · have hf := if_e cd hf
        refine lv_aload_n hx hb d_Parser_readBoth_48 rfl (lv_at hl 0 rfl) ?_
        refine xg_3_draft C w k314 d_Parser_readBoth_49 ?_
        refine lv_sipush (v := 10011) hx hb d_Parser_readBoth_52 (by decide) ?_
        obtain ⟨σ_9, h_8, hf⟩ := bp_e hf
        refine k_callV (As := [.int 10011]) (rest := []) C w (c_Fair_emit (q := qt q) h_8) cv_Fair_emit k660 (xr_6 C w) (by omega) hl.1 rfl (Nat.le_of_ble_eq_true rfl) d_Parser_readBoth_55 (fun H locs w => ?_)
        show WK p l e s m av below meth c (nk + 1) g (wX g (qt q)) A (some (.int r)) σ2 H locs (F0 m 58 ls [])
        obtain ⟨x_10, ex_10⟩ : ∃ y : Int32, y = (x2 + 1) := ⟨_, rfl⟩
        have hf := lt_e ex_10 hf
        refine lv_iinc (v := x_10) (lv' := [(2, .int x_10), (0, .ref (qt q 3)), (1, .int x1)]) hx hb d_Parser_readBoth_58 hl (k := 2) rfl (by rw [ex_10]; rfl) (by decide) rfl (fun ls hl => ?_)
        refine lv_goto (tgt := 12) hx hb d_Parser_readBoth_61 (by decide) ?_
        exact hk12 x1 x_10 σ_9 _ _ _ hf w (lv_sub hl [1, 2, 0] rfl)
      · have hf := it_e cd hf
        refine lv_iconst (v := 0) hx hb d_Parser_readBoth_46 (by decide) ?_
        obtain ⟨rfl, rfl⟩ := some2_e hf
        exact k_zret C w (by decide) d_Parser_readBoth_47
set_option maxHeartbeats 4000000 in
set_option maxRecDepth 20000 in
theorem t_Parser_readBoth_12 {r : Int32} {σ2 : St} (C : Cx g A p s m av meth c prog_5_method_16_code 3 "BellHammer$Parser" (some .boolean)) {nk : Nat} (hnk : 44 ≤ nk) {kT : Int32 → St → Option (Int32 × St)} (hkT : ∀ (a0 : Int32) (σ : St) (r : Int32) (σ2 : St), kT a0 σ = some (r, σ2) → KK l y_Parser_readFact prog_5_method_17_code 3 (some .boolean) nk g (wX g (qt q)) σ [.ref (qt q 3), .int a0] (some (.int r)) (wX g (qt q)) σ2)  : ∀ (n : Nat) (x1 : Int32) (x2 : Int32) (σ : St) (H : Heap) (locs : List Loc) (ls : Array Slot), f_Parser_readBoth_12 kT  n x1 x2 σ = some (r, σ2) → Wd g (wX g (qt q)) A s σ H locs → lv_has ls 3 [(0, .ref (qt q 3)), (1, .int x1), (2, .int x2)] → WK p l e s m av below meth c (nk + 1) g (wX g (qt q)) A (some (.int r)) σ2 H locs (F0 m 12 ls []) := by
  intro n
  induction n with
  | zero => intro x1 x2 σ H locs ls hf; exact absurd hf (by intro z; cases z)
  | succ n ih => intro x1 x2 σ H locs ls hf w hl; exact t_Parser_readBoth_12b C hnk hkT  ih hf w hl
set_option maxHeartbeats 4000000 in
set_option maxRecDepth 20000 in
theorem c_Parser_readBoth {l : Launch} {g : GX} {q : Nat → Nat} {nk : Nat} (hnk : 44 ≤ nk) {kT : Int32 → St → Option (Int32 × St)} (hkT : ∀ (a0 : Int32) (σ : St) (r : Int32) (σ2 : St), kT a0 σ = some (r, σ2) → KK l y_Parser_readFact prog_5_method_17_code 3 (some .boolean) nk g (wX g (qt q)) σ [.ref (qt q 3), .int a0] (some (.int r)) (wX g (qt q)) σ2) {x1 : Int32}  {σ : St} {r : Int32} {σ2 : St} (hf : f_Parser_readBoth kT x1 σ = some (r, σ2)) : KK l y_Parser_readBoth prog_5_method_16_code 3 (some .boolean) (nk + 1) g (wX g (qt q)) σ [.ref (qt q 3), .int x1] (some (.int r)) (wX g (qt q)) σ2 := by
  refine KK_of (plainFor_of_name (by decide)) (Nat.le_of_ble_eq_true rfl) (fun p e s m below meth c A ls C w hl => ?_)
  have hl : lv_has ls 3 [(0, .ref (qt q 3)), (1, .int x1)] := hl
  obtain ⟨hx, hb, hml, hown, hts, hK, hA, hZ, hlocks, hr, hN⟩ := id C
  unfold f_Parser_readBoth at hf
  refine lv_aload_n hx hb d_Parser_readBoth_0 rfl (lv_at hl 0 rfl) ?_
  refine lv_iload_n hx hb d_Parser_readBoth_1 rfl (lv_at hl 1 rfl) ?_
  obtain ⟨r_2, σ_3, h_1, hf⟩ := bd_e hf
  refine k_callV (As := [.int x1]) (rest := []) C w (hkT _ _ _ _ h_1) cv_Parser_readFact k652 (xr_3 C w) (by omega) hl.1 rfl (Nat.le_of_ble_eq_true rfl) d_Parser_readBoth_2 (fun H locs w => ?_)
  show WK p l e s m _ below meth c (nk + 1) g (wX g (qt q)) A (some (.int r)) σ2 H locs (F0 m 5 ls [.int r_2])
  refine lv_if_ne (tgt := 10) hx hb d_Parser_readBoth_5 (by decide) (fun cd => ?_) (fun cd => ?_)
  · have hf := if_e cd hf
    refine lv_iconst (v := 0) hx hb d_Parser_readBoth_10 (by decide) ?_
    refine lv_istore_n (lv' := [(2, .int 0), (0, .ref (qt q 3)), (1, .int x1)]) hx hb d_Parser_readBoth_11 rfl hl (by decide) rfl (fun ls hl => ?_)
    exact t_Parser_readBoth_12 C hnk hkT  FU x1 0 σ_3 _ _ _ hf w (lv_sub hl [1, 2, 0] rfl)
  · have hf := it_e cd hf
    refine lv_iconst (v := 0) hx hb d_Parser_readBoth_8 (by decide) ?_
    obtain ⟨rfl, rfl⟩ := some2_e hf
    exact k_zret C w (by decide) d_Parser_readBoth_9
def f_Parser_readTest_12b (kT : Int32 → St → Option (Int32 × St)) (k12 : Int32 → Int32 → St → Option (Int32 × St)) (x1 : Int32) (x2 : Int32) (σ : St) : Option (Int32 × St) :=
  if 1600 ≤ x2 then
    some (1, σ)
  else
    bp (f_Reader_isWord 21 σ) fun r_2 =>
    if r_2 = 0 then
      some (1, σ)
    else
      bp (f_Reader_step σ) fun σ_4 =>
      bd (f_Parser_readBoth kT x1 σ_4) fun r_6 σ_7 =>
      if r_6 = 0 then
        some (0, σ_7)
      else
        bp (f_Fair_emit 10012 σ_7) fun σ_9 =>
        lt ((x2 + 1)) fun x_10 =>
        k12 x1 x_10 σ_9
def f_Parser_readTest_12 (kT : Int32 → St → Option (Int32 × St)) : Nat → Int32 → Int32 → St → Option (Int32 × St)
  | 0 => fun _ _ _ => none
  | n + 1 => f_Parser_readTest_12b kT  (f_Parser_readTest_12 kT  n)
def f_Parser_readTest (kT : Int32 → St → Option (Int32 × St)) (x1 : Int32) (σ : St) : Option (Int32 × St) :=
  bd (f_Parser_readBoth kT x1 σ) fun r_2 σ_3 =>
  if r_2 = 0 then
    some (0, σ_3)
  else
    f_Parser_readTest_12 kT FU x1 0 σ_3
set_option maxHeartbeats 4000000 in
set_option maxRecDepth 20000 in
theorem t_Parser_readTest_12b {r : Int32} {σ2 : St} (C : Cx g A p s m av meth c prog_5_method_15_code 3 "BellHammer$Parser" (some .boolean)) {nk : Nat} (hnk : 44 ≤ nk) {kT : Int32 → St → Option (Int32 × St)} (hkT : ∀ (a0 : Int32) (σ : St) (r : Int32) (σ2 : St), kT a0 σ = some (r, σ2) → KK l y_Parser_readFact prog_5_method_17_code 3 (some .boolean) nk g (wX g (qt q)) σ [.ref (qt q 3), .int a0] (some (.int r)) (wX g (qt q)) σ2) {k12 : Int32 → Int32 → St → Option (Int32 × St)} (hk12 : ∀ (x1 : Int32) (x2 : Int32) (σ : St) (H : Heap) (locs : List Loc) (ls : Array Slot), k12 x1 x2 σ = some (r, σ2) → Wd g (wX g (qt q)) A s σ H locs → lv_has ls 3 [(0, .ref (qt q 3)), (1, .int x1), (2, .int x2)] → WK p l e s m av below meth c (nk + 2) g (wX g (qt q)) A (some (.int r)) σ2 H locs (F0 m 12 ls []))  {x1 : Int32} {x2 : Int32} {σ : St} {H : Heap} {locs : List Loc} {ls : Array Slot} (hf : f_Parser_readTest_12b kT k12 x1 x2 σ = some (r, σ2)) (w : Wd g (wX g (qt q)) A s σ H locs) (hl : lv_has ls 3 [(0, .ref (qt q 3)), (1, .int x1), (2, .int x2)]) : WK p l e s m av below meth c (nk + 2) g (wX g (qt q)) A (some (.int r)) σ2 H locs (F0 m 12 ls []) := by
  obtain ⟨hx, hb, hml, hown, hts, hK, hA, hZ, hlocks, hr, hN⟩ := id C
  unfold f_Parser_readTest_12b at hf
  refine lv_iload_n hx hb d_Parser_readTest_12 rfl (lv_at hl 2 rfl) ?_
  refine lv_sipush (v := 1600) hx hb d_Parser_readTest_13 (by decide) ?_
  refine lv_icmp_ge (tgt := 64) hx hb d_Parser_readTest_16 (by decide) (fun cd => ?_) (fun cd => ?_)
  · have hf := it_e cd hf
    refine lv_iconst (v := 1) hx hb d_Parser_readTest_64 (by decide) ?_
    obtain ⟨rfl, rfl⟩ := some2_e hf
    exact k_zret C w (by decide) d_Parser_readTest_65
  · have hf := if_e cd hf
    refine lv_aload_n hx hb d_Parser_readTest_19 rfl (lv_at hl 0 rfl) ?_
    refine xg_3_reader C w k313 d_Parser_readTest_20 ?_
    refine lv_bipush (v := 21) hx hb d_Parser_readTest_23 (by decide) ?_
    obtain ⟨r_2, h_1, hf⟩ := bp_e hf
    refine k_callV (As := [.int 21]) (rest := []) C w (c_Reader_isWord (q := qt q) h_1) cv_Reader_isWord k598 (xr_4 C w) (by omega) hl.1 rfl (Nat.le_of_ble_eq_true rfl) d_Parser_readTest_25 (fun H locs w => ?_)
    show WK p l e s m av below meth c (nk + 2) g (wX g (qt q)) A (some (.int r)) σ2 H locs (F0 m 28 ls [.int r_2])
    refine lv_if_eq (tgt := 64) hx hb d_Parser_readTest_28 (by decide) (fun cd => ?_) (fun cd => ?_)
    · have hf := it_e cd hf
      refine lv_iconst (v := 1) hx hb d_Parser_readTest_64 (by decide) ?_
      obtain ⟨rfl, rfl⟩ := some2_e hf
      exact k_zret C w (by decide) d_Parser_readTest_65
    · have hf := if_e cd hf
      refine lv_aload_n hx hb d_Parser_readTest_31 rfl (lv_at hl 0 rfl) ?_
      refine xg_3_reader C w k313 d_Parser_readTest_32 ?_
      obtain ⟨σ_4, h_3, hf⟩ := bp_e hf
      refine k_callV (As := []) (rest := []) C w (c_Reader_step (q := q) h_3) cv_Reader_step k606 (xr_4 C w) (by omega) hl.1 rfl (Nat.le_of_ble_eq_true rfl) d_Parser_readTest_35 (fun H locs w => ?_)
      show WK p l e s m av below meth c (nk + 2) g (wX g (qt q)) A (some (.int r)) σ2 H locs (F0 m 38 ls [])
      refine lv_aload_n hx hb d_Parser_readTest_38 rfl (lv_at hl 0 rfl) ?_
      refine lv_iload_n hx hb d_Parser_readTest_39 rfl (lv_at hl 1 rfl) ?_
      obtain ⟨r_6, σ_7, h_5, hf⟩ := bd_e hf
      refine k_callV (As := [.int x1]) (rest := []) C w (c_Parser_readBoth (q := q) hnk hkT h_5) cv_Parser_readBoth k648 (xr_3 C w) (by omega) hl.1 rfl (Nat.le_of_ble_eq_true rfl) d_Parser_readTest_40 (fun H locs w => ?_)
      show WK p l e s m av below meth c (nk + 2) g (wX g (qt q)) A (some (.int r)) σ2 H locs (F0 m 43 ls [.int r_6])
      refine lv_if_ne (tgt := 48) hx hb d_Parser_readTest_43 (by decide) (fun cd => ?_) (fun cd => ?_)
      · have hf := if_e cd hf
        refine lv_aload_n hx hb d_Parser_readTest_48 rfl (lv_at hl 0 rfl) ?_
        refine xg_3_draft C w k314 d_Parser_readTest_49 ?_
        refine lv_sipush (v := 10012) hx hb d_Parser_readTest_52 (by decide) ?_
        obtain ⟨σ_9, h_8, hf⟩ := bp_e hf
        refine k_callV (As := [.int 10012]) (rest := []) C w (c_Fair_emit (q := qt q) h_8) cv_Fair_emit k660 (xr_6 C w) (by omega) hl.1 rfl (Nat.le_of_ble_eq_true rfl) d_Parser_readTest_55 (fun H locs w => ?_)
        show WK p l e s m av below meth c (nk + 2) g (wX g (qt q)) A (some (.int r)) σ2 H locs (F0 m 58 ls [])
        obtain ⟨x_10, ex_10⟩ : ∃ y : Int32, y = (x2 + 1) := ⟨_, rfl⟩
        have hf := lt_e ex_10 hf
        refine lv_iinc (v := x_10) (lv' := [(2, .int x_10), (0, .ref (qt q 3)), (1, .int x1)]) hx hb d_Parser_readTest_58 hl (k := 2) rfl (by rw [ex_10]; rfl) (by decide) rfl (fun ls hl => ?_)
        refine lv_goto (tgt := 12) hx hb d_Parser_readTest_61 (by decide) ?_
        exact hk12 x1 x_10 σ_9 _ _ _ hf w (lv_sub hl [1, 2, 0] rfl)
      · have hf := it_e cd hf
        refine lv_iconst (v := 0) hx hb d_Parser_readTest_46 (by decide) ?_
        obtain ⟨rfl, rfl⟩ := some2_e hf
        exact k_zret C w (by decide) d_Parser_readTest_47
set_option maxHeartbeats 4000000 in
set_option maxRecDepth 20000 in
theorem t_Parser_readTest_12 {r : Int32} {σ2 : St} (C : Cx g A p s m av meth c prog_5_method_15_code 3 "BellHammer$Parser" (some .boolean)) {nk : Nat} (hnk : 44 ≤ nk) {kT : Int32 → St → Option (Int32 × St)} (hkT : ∀ (a0 : Int32) (σ : St) (r : Int32) (σ2 : St), kT a0 σ = some (r, σ2) → KK l y_Parser_readFact prog_5_method_17_code 3 (some .boolean) nk g (wX g (qt q)) σ [.ref (qt q 3), .int a0] (some (.int r)) (wX g (qt q)) σ2)  : ∀ (n : Nat) (x1 : Int32) (x2 : Int32) (σ : St) (H : Heap) (locs : List Loc) (ls : Array Slot), f_Parser_readTest_12 kT  n x1 x2 σ = some (r, σ2) → Wd g (wX g (qt q)) A s σ H locs → lv_has ls 3 [(0, .ref (qt q 3)), (1, .int x1), (2, .int x2)] → WK p l e s m av below meth c (nk + 2) g (wX g (qt q)) A (some (.int r)) σ2 H locs (F0 m 12 ls []) := by
  intro n
  induction n with
  | zero => intro x1 x2 σ H locs ls hf; exact absurd hf (by intro z; cases z)
  | succ n ih => intro x1 x2 σ H locs ls hf w hl; exact t_Parser_readTest_12b C hnk hkT  ih hf w hl
set_option maxHeartbeats 4000000 in
set_option maxRecDepth 20000 in
theorem c_Parser_readTest {l : Launch} {g : GX} {q : Nat → Nat} {nk : Nat} (hnk : 44 ≤ nk) {kT : Int32 → St → Option (Int32 × St)} (hkT : ∀ (a0 : Int32) (σ : St) (r : Int32) (σ2 : St), kT a0 σ = some (r, σ2) → KK l y_Parser_readFact prog_5_method_17_code 3 (some .boolean) nk g (wX g (qt q)) σ [.ref (qt q 3), .int a0] (some (.int r)) (wX g (qt q)) σ2) {x1 : Int32}  {σ : St} {r : Int32} {σ2 : St} (hf : f_Parser_readTest kT x1 σ = some (r, σ2)) : KK l y_Parser_readTest prog_5_method_15_code 3 (some .boolean) (nk + 2) g (wX g (qt q)) σ [.ref (qt q 3), .int x1] (some (.int r)) (wX g (qt q)) σ2 := by
  refine KK_of (plainFor_of_name (by decide)) (Nat.le_of_ble_eq_true rfl) (fun p e s m below meth c A ls C w hl => ?_)
  have hl : lv_has ls 3 [(0, .ref (qt q 3)), (1, .int x1)] := hl
  obtain ⟨hx, hb, hml, hown, hts, hK, hA, hZ, hlocks, hr, hN⟩ := id C
  unfold f_Parser_readTest at hf
  refine lv_aload_n hx hb d_Parser_readTest_0 rfl (lv_at hl 0 rfl) ?_
  refine lv_iload_n hx hb d_Parser_readTest_1 rfl (lv_at hl 1 rfl) ?_
  obtain ⟨r_2, σ_3, h_1, hf⟩ := bd_e hf
  refine k_callV (As := [.int x1]) (rest := []) C w (c_Parser_readBoth (q := q) hnk hkT h_1) cv_Parser_readBoth k648 (xr_3 C w) (by omega) hl.1 rfl (Nat.le_of_ble_eq_true rfl) d_Parser_readTest_2 (fun H locs w => ?_)
  show WK p l e s m _ below meth c (nk + 2) g (wX g (qt q)) A (some (.int r)) σ2 H locs (F0 m 5 ls [.int r_2])
  refine lv_if_ne (tgt := 10) hx hb d_Parser_readTest_5 (by decide) (fun cd => ?_) (fun cd => ?_)
  · have hf := if_e cd hf
    refine lv_iconst (v := 0) hx hb d_Parser_readTest_10 (by decide) ?_
    refine lv_istore_n (lv' := [(2, .int 0), (0, .ref (qt q 3)), (1, .int x1)]) hx hb d_Parser_readTest_11 rfl hl (by decide) rfl (fun ls hl => ?_)
    exact t_Parser_readTest_12 C hnk hkT  FU x1 0 σ_3 _ _ _ hf w (lv_sub hl [1, 2, 0] rfl)
  · have hf := it_e cd hf
    refine lv_iconst (v := 0) hx hb d_Parser_readTest_8 (by decide) ?_
    obtain ⟨rfl, rfl⟩ := some2_e hf
    exact k_zret C w (by decide) d_Parser_readTest_9
def f_Reader_isSign (x1 : Int32) (σ : St) : Option (Int32) :=
  if (sI σ 8) = 3 then
    if (sI σ 11) = x1 then
      some 1
    else
      some 0
  else
    some 0
set_option maxHeartbeats 4000000 in
set_option maxRecDepth 20000 in
theorem c_Reader_isSign {l : Launch} {g : GX} {q : Nat → Nat} {x1 : Int32}  {σ : St} {r : Int32} (hf : f_Reader_isSign  x1 σ = some r) : KK l y_Reader_isSign prog_6_method_8_code 2 (some .boolean) 0 g (wX g q) σ [.ref (q 4), .int x1] (some (.int r)) (wX g q) σ := by
  refine KK_of (plainFor_of_name (by decide)) (Nat.le_of_ble_eq_true rfl) (fun p e s m below meth c A ls C w hl => ?_)
  have hl : lv_has ls 2 [(0, .ref (q 4)), (1, .int x1)] := hl
  obtain ⟨hx, hb, hml, hown, hts, hK, hA, hZ, hlocks, hr, hN⟩ := id C
  unfold f_Reader_isSign at hf
  refine lv_aload_n hx hb d_Reader_isSign_0 rfl (lv_at hl 0 rfl) ?_
  refine xg_4_kind C w k208 d_Reader_isSign_1 ?_
  refine lv_iconst (v := 3) hx hb d_Reader_isSign_4 (by decide) ?_
  refine lv_icmp_ne (tgt := 20) hx hb d_Reader_isSign_5 (by decide) (fun cd => ?_) (fun cd => ?_)
  · have hf := if_e cd hf
    refine lv_iconst (v := 0) hx hb d_Reader_isSign_20 (by decide) ?_
    cases some_e hf
    exact k_zret C w (by decide) d_Reader_isSign_21
  · have hf := it_e cd hf
    refine lv_aload_n hx hb d_Reader_isSign_8 rfl (lv_at hl 0 rfl) ?_
    refine xg_4_value C w k214 d_Reader_isSign_9 ?_
    refine lv_iload_n hx hb d_Reader_isSign_12 rfl (lv_at hl 1 rfl) ?_
    refine lv_icmp_ne (tgt := 20) hx hb d_Reader_isSign_13 (by decide) (fun cd => ?_) (fun cd => ?_)
    · have hf := if_e cd hf
      refine lv_iconst (v := 0) hx hb d_Reader_isSign_20 (by decide) ?_
      cases some_e hf
      exact k_zret C w (by decide) d_Reader_isSign_21
    · have hf := it_e cd hf
      refine lv_iconst (v := 1) hx hb d_Reader_isSign_16 (by decide) ?_
      refine lv_goto (tgt := 21) hx hb d_Reader_isSign_17 (by decide) ?_
      cases some_e hf
      exact k_zret C w (by decide) d_Reader_isSign_21
def f_Parser_passOpener (x1 : Int32) (σ : St) : Option (Int32 × St) :=
  if x1 < 6 then
    bp (f_Reader_step σ) fun σ_2 =>
    some (1, σ_2)
  else
    bd (f_Parser_tell 4 (sI σ 9) σ) fun r_4 σ_5 =>
    gd (isB r_4) <|
    some (r_4, σ_5)
set_option maxHeartbeats 4000000 in
set_option maxRecDepth 20000 in
theorem c_Parser_passOpener {l : Launch} {g : GX} {q : Nat → Nat} {x1 : Int32}  {σ : St} {r : Int32} {σ2 : St} (hf : f_Parser_passOpener  x1 σ = some (r, σ2)) : KK l y_Parser_passOpener prog_5_method_18_code 2 (some .boolean) 2 g (wX g (qt q)) σ [.ref (qt q 3), .int x1] (some (.int r)) (wX g (qt q)) σ2 := by
  refine KK_of (plainFor_of_name (by decide)) (Nat.le_of_ble_eq_true rfl) (fun p e s m below meth c A ls C w hl => ?_)
  have hl : lv_has ls 2 [(0, .ref (qt q 3)), (1, .int x1)] := hl
  obtain ⟨hx, hb, hml, hown, hts, hK, hA, hZ, hlocks, hr, hN⟩ := id C
  unfold f_Parser_passOpener at hf
  refine lv_iload_n hx hb d_Parser_passOpener_0 rfl (lv_at hl 1 rfl) ?_
  refine lv_bipush (v := 6) hx hb d_Parser_passOpener_1 (by decide) ?_
  refine lv_icmp_lt (tgt := 19) hx hb d_Parser_passOpener_3 (by decide) (fun cd => ?_) (fun cd => ?_)
  · have hf := it_e cd hf
    refine lv_aload_n hx hb d_Parser_passOpener_19 rfl (lv_at hl 0 rfl) ?_
    refine xg_3_reader C w k313 d_Parser_passOpener_20 ?_
    obtain ⟨σ_2, h_1, hf⟩ := bp_e hf
    refine k_callV (As := []) (rest := []) C w (c_Reader_step (q := q) h_1) cv_Reader_step k606 (xr_4 C w) (by decide) hl.1 rfl (Nat.le_of_ble_eq_true rfl) d_Parser_passOpener_23 (fun H locs w => ?_)
    show WK p l e s m _ below meth c 2 g (wX g (qt q)) A (some (.int r)) σ2 H locs (F0 m 26 ls [])
    refine lv_iconst (v := 1) hx hb d_Parser_passOpener_26 (by decide) ?_
    obtain ⟨rfl, rfl⟩ := some2_e hf
    exact k_zret C w (by decide) d_Parser_passOpener_27
  · have hf := if_e cd hf
    refine lv_aload_n hx hb d_Parser_passOpener_6 rfl (lv_at hl 0 rfl) ?_
    refine lv_iconst (v := 4) hx hb d_Parser_passOpener_7 (by decide) ?_
    refine lv_aload_n hx hb d_Parser_passOpener_8 rfl (lv_at hl 0 rfl) ?_
    refine xg_3_reader C w k313 d_Parser_passOpener_9 ?_
    refine xg_4_start C w k210 d_Parser_passOpener_12 ?_
    obtain ⟨r_4, σ_5, h_3, hf⟩ := bd_e hf
    refine k_callV (As := [.int 4, .int (sI σ 9)]) (rest := []) C w (c_Parser_tell (q := qt q) h_3) cv_Parser_tell k590 (xr_3 C w) (by decide) hl.1 rfl (Nat.le_of_ble_eq_true rfl) d_Parser_passOpener_15 (fun H locs w => ?_)
    show WK p l e s m _ below meth c 2 g (wX g (qt q)) A (some (.int r)) σ2 H locs (F0 m 18 ls [.int r_4])
    obtain ⟨g_6, hf⟩ := gd_e hf
    obtain ⟨rfl, rfl⟩ := some2_e hf
    exact k_zret C w g_6 d_Parser_passOpener_18
def f_Parser_passSign (x1 : Int32) (σ : St) : Option (Int32 × St) :=
  bp (f_Reader_isSign x1 σ) fun r_2 =>
  if r_2 = 0 then
    bd (f_Parser_tellWrong σ) fun r_6 σ_7 =>
    gd (isB r_6) <|
    some (r_6, σ_7)
  else
    bp (f_Reader_step σ) fun σ_4 =>
    some (1, σ_4)
set_option maxHeartbeats 4000000 in
set_option maxRecDepth 20000 in
theorem c_Parser_passSign {l : Launch} {g : GX} {q : Nat → Nat} {x1 : Int32}  {σ : St} {r : Int32} {σ2 : St} (hf : f_Parser_passSign  x1 σ = some (r, σ2)) : KK l y_Parser_passSign prog_5_method_5_code 2 (some .boolean) 2 g (wX g (qt q)) σ [.ref (qt q 3), .int x1] (some (.int r)) (wX g (qt q)) σ2 := by
  refine KK_of (plainFor_of_name (by decide)) (Nat.le_of_ble_eq_true rfl) (fun p e s m below meth c A ls C w hl => ?_)
  have hl : lv_has ls 2 [(0, .ref (qt q 3)), (1, .int x1)] := hl
  obtain ⟨hx, hb, hml, hown, hts, hK, hA, hZ, hlocks, hr, hN⟩ := id C
  unfold f_Parser_passSign at hf
  refine lv_aload_n hx hb d_Parser_passSign_0 rfl (lv_at hl 0 rfl) ?_
  refine xg_3_reader C w k313 d_Parser_passSign_1 ?_
  refine lv_iload_n hx hb d_Parser_passSign_4 rfl (lv_at hl 1 rfl) ?_
  obtain ⟨r_2, h_1, hf⟩ := bp_e hf
  refine k_callV (As := [.int x1]) (rest := []) C w (c_Reader_isSign (q := qt q) h_1) cv_Reader_isSign k664 (xr_4 C w) (by decide) hl.1 rfl (Nat.le_of_ble_eq_true rfl) d_Parser_passSign_5 (fun H locs w => ?_)
  show WK p l e s m _ below meth c 2 g (wX g (qt q)) A (some (.int r)) σ2 H locs (F0 m 8 ls [.int r_2])
  refine lv_if_ne (tgt := 16) hx hb d_Parser_passSign_8 (by decide) (fun cd => ?_) (fun cd => ?_)
  · have hf := if_e cd hf
    refine lv_aload_n hx hb d_Parser_passSign_16 rfl (lv_at hl 0 rfl) ?_
    refine xg_3_reader C w k313 d_Parser_passSign_17 ?_
    obtain ⟨σ_4, h_3, hf⟩ := bp_e hf
    refine k_callV (As := []) (rest := []) C w (c_Reader_step (q := q) h_3) cv_Reader_step k606 (xr_4 C w) (by decide) hl.1 rfl (Nat.le_of_ble_eq_true rfl) d_Parser_passSign_20 (fun H locs w => ?_)
    show WK p l e s m _ below meth c 2 g (wX g (qt q)) A (some (.int r)) σ2 H locs (F0 m 23 ls [])
    refine lv_iconst (v := 1) hx hb d_Parser_passSign_23 (by decide) ?_
    obtain ⟨rfl, rfl⟩ := some2_e hf
    exact k_zret C w (by decide) d_Parser_passSign_24
  · have hf := it_e cd hf
    refine lv_aload_n hx hb d_Parser_passSign_11 rfl (lv_at hl 0 rfl) ?_
    obtain ⟨r_6, σ_7, h_5, hf⟩ := bd_e hf
    refine k_callV (As := []) (rest := []) C w (c_Parser_tellWrong (q := qt q) h_5) cv_Parser_tellWrong k616 (xr_3 C w) (by decide) hl.1 rfl (Nat.le_of_ble_eq_true rfl) d_Parser_passSign_12 (fun H locs w => ?_)
    show WK p l e s m _ below meth c 2 g (wX g (qt q)) A (some (.int r)) σ2 H locs (F0 m 15 ls [.int r_6])
    obtain ⟨g_8, hf⟩ := gd_e hf
    obtain ⟨rfl, rfl⟩ := some2_e hf
    exact k_zret C w g_8 d_Parser_passSign_15
def f_Parser_readPair_75 (kS : Int32 → St → Option (Int32 × St)) (x2 : Int32) (t0 : Int32) (σ : St) : Option (Int32 × St) :=
  if t0 = 0 then
    gd (isB t0) <|
    some (t0, σ)
  else
    bp (f_Fair_emit x2 σ) fun σ_3 =>
    gd (isB t0) <|
    some (t0, σ_3)
def f_Parser_readPair_74 (kS : Int32 → St → Option (Int32 × St)) (x2 : Int32) (σ : St) : Option (Int32 × St) :=
  f_Parser_readPair_75 kS x2 0 σ
def f_Parser_readPair (kS : Int32 → St → Option (Int32 × St)) (x1 : Int32) (x2 : Int32) (σ : St) : Option (Int32 × St) :=
  bp (f_Reader_step σ) fun σ_2 =>
  bp (f_Reader_isSign 40 σ_2) fun r_4 =>
  if r_4 = 0 then
    bd (f_Parser_tellWrong σ_2) fun r_21 σ_22 =>
    gd (isB r_21) <|
    some (r_21, σ_22)
  else
    bd (f_Parser_passOpener x1 σ_2) fun r_6 σ_7 =>
    if r_6 = 0 then
      f_Parser_readPair_74 kS x2 σ_7
    else
      bd (kS (x1 + 1) σ_7) fun r_9 σ_10 =>
      if r_9 = 0 then
        f_Parser_readPair_74 kS x2 σ_10
      else
        bd (f_Parser_passSign 44 σ_10) fun r_12 σ_13 =>
        if r_12 = 0 then
          f_Parser_readPair_74 kS x2 σ_13
        else
          bd (kS (x1 + 1) σ_13) fun r_15 σ_16 =>
          if r_15 = 0 then
            f_Parser_readPair_74 kS x2 σ_16
          else
            bd (f_Parser_passSign 41 σ_16) fun r_18 σ_19 =>
            if r_18 = 0 then
              f_Parser_readPair_74 kS x2 σ_19
            else
              f_Parser_readPair_75 kS x2 1 σ_19
set_option maxHeartbeats 4000000 in
set_option maxRecDepth 20000 in
theorem t_Parser_readPair_75 {r : Int32} {σ2 : St} (C : Cx g A p s m av meth c prog_5_method_23_code 4 "BellHammer$Parser" (some .boolean)) {nk : Nat} (hnk : 3 ≤ nk) {kS : Int32 → St → Option (Int32 × St)} (hkS : ∀ (a0 : Int32) (σ : St) (r : Int32) (σ2 : St), kS a0 σ = some (r, σ2) → KK l y_Parser_readSum prog_5_method_20_code 4 (some .boolean) nk g (wX g (qt q)) σ [.ref (qt q 3), .int a0] (some (.int r)) (wX g (qt q)) σ2)  {x2 : Int32} {t0 : Int32} {σ : St} {H : Heap} {locs : List Loc} {ls : Array Slot} (hf : f_Parser_readPair_75 kS  x2 t0 σ = some (r, σ2)) (w : Wd g (wX g (qt q)) A s σ H locs) (hl : lv_has ls 4 [(0, .ref (qt q 3)), (2, .int x2)]) : WK p l e s m av below meth c (nk + 1) g (wX g (qt q)) A (some (.int r)) σ2 H locs (F0 m 75 ls [.int t0]) := by
  obtain ⟨hx, hb, hml, hown, hts, hK, hA, hZ, hlocks, hr, hN⟩ := id C
  unfold f_Parser_readPair_75 at hf
  refine lv_istore_n (lv' := [(3, .int t0), (0, .ref (qt q 3)), (2, .int x2)]) hx hb d_Parser_readPair_75 rfl hl (by decide) rfl (fun ls hl => ?_)
  refine lv_iload_n hx hb d_Parser_readPair_76 rfl (lv_at hl 0 rfl) ?_
  refine lv_if_eq (tgt := 88) hx hb d_Parser_readPair_77 (by decide) (fun cd => ?_) (fun cd => ?_)
  · have hf := it_e cd hf
    refine lv_iload_n hx hb d_Parser_readPair_88 rfl (lv_at hl 0 rfl) ?_
    obtain ⟨g_1, hf⟩ := gd_e hf
    obtain ⟨rfl, rfl⟩ := some2_e hf
    exact k_zret C w g_1 d_Parser_readPair_89
  · have hf := if_e cd hf
    refine lv_aload_n hx hb d_Parser_readPair_80 rfl (lv_at hl 1 rfl) ?_
    refine xg_3_draft C w k314 d_Parser_readPair_81 ?_
    refine lv_iload_n hx hb d_Parser_readPair_84 rfl (lv_at hl 2 rfl) ?_
    obtain ⟨σ_3, h_2, hf⟩ := bp_e hf
    refine k_callV (As := [.int x2]) (rest := []) C w (c_Fair_emit (q := qt q) h_2) cv_Fair_emit k660 (xr_6 C w) (by omega) hl.1 rfl (Nat.le_of_ble_eq_true rfl) d_Parser_readPair_85 (fun H locs w => ?_)
    show WK p l e s m av below meth c (nk + 1) g (wX g (qt q)) A (some (.int r)) σ2 H locs (F0 m 88 ls [])
    refine lv_iload_n hx hb d_Parser_readPair_88 rfl (lv_at hl 0 rfl) ?_
    obtain ⟨g_4, hf⟩ := gd_e hf
    obtain ⟨rfl, rfl⟩ := some2_e hf
    exact k_zret C w g_4 d_Parser_readPair_89
set_option maxHeartbeats 4000000 in
set_option maxRecDepth 20000 in
theorem t_Parser_readPair_74 {r : Int32} {σ2 : St} (C : Cx g A p s m av meth c prog_5_method_23_code 4 "BellHammer$Parser" (some .boolean)) {nk : Nat} (hnk : 3 ≤ nk) {kS : Int32 → St → Option (Int32 × St)} (hkS : ∀ (a0 : Int32) (σ : St) (r : Int32) (σ2 : St), kS a0 σ = some (r, σ2) → KK l y_Parser_readSum prog_5_method_20_code 4 (some .boolean) nk g (wX g (qt q)) σ [.ref (qt q 3), .int a0] (some (.int r)) (wX g (qt q)) σ2)  {x2 : Int32} {σ : St} {H : Heap} {locs : List Loc} {ls : Array Slot} (hf : f_Parser_readPair_74 kS  x2 σ = some (r, σ2)) (w : Wd g (wX g (qt q)) A s σ H locs) (hl : lv_has ls 4 [(0, .ref (qt q 3)), (2, .int x2)]) : WK p l e s m av below meth c (nk + 1) g (wX g (qt q)) A (some (.int r)) σ2 H locs (F0 m 74 ls []) := by
  obtain ⟨hx, hb, hml, hown, hts, hK, hA, hZ, hlocks, hr, hN⟩ := id C
  unfold f_Parser_readPair_74 at hf
  refine lv_iconst (v := 0) hx hb d_Parser_readPair_74 (by decide) ?_
  exact t_Parser_readPair_75 C hnk hkS  hf w (lv_sub hl [0, 1] rfl)
set_option maxHeartbeats 4000000 in
set_option maxRecDepth 20000 in
theorem c_Parser_readPair {l : Launch} {g : GX} {q : Nat → Nat} {nk : Nat} (hnk : 3 ≤ nk) {kS : Int32 → St → Option (Int32 × St)} (hkS : ∀ (a0 : Int32) (σ : St) (r : Int32) (σ2 : St), kS a0 σ = some (r, σ2) → KK l y_Parser_readSum prog_5_method_20_code 4 (some .boolean) nk g (wX g (qt q)) σ [.ref (qt q 3), .int a0] (some (.int r)) (wX g (qt q)) σ2) {x1 : Int32} {x2 : Int32}  {σ : St} {r : Int32} {σ2 : St} (hf : f_Parser_readPair kS x1 x2 σ = some (r, σ2)) : KK l y_Parser_readPair prog_5_method_23_code 4 (some .boolean) (nk + 1) g (wX g (qt q)) σ [.ref (qt q 3), .int x1, .int x2] (some (.int r)) (wX g (qt q)) σ2 := by
  refine KK_of (plainFor_of_name (by decide)) (Nat.le_of_ble_eq_true rfl) (fun p e s m below meth c A ls C w hl => ?_)
  have hl : lv_has ls 4 [(0, .ref (qt q 3)), (1, .int x1), (2, .int x2)] := hl
  obtain ⟨hx, hb, hml, hown, hts, hK, hA, hZ, hlocks, hr, hN⟩ := id C
  unfold f_Parser_readPair at hf
  refine lv_aload_n hx hb d_Parser_readPair_0 rfl (lv_at hl 0 rfl) ?_
  refine xg_3_reader C w k313 d_Parser_readPair_1 ?_
  obtain ⟨σ_2, h_1, hf⟩ := bp_e hf
  refine k_callV (As := []) (rest := []) C w (c_Reader_step (q := q) h_1) cv_Reader_step k606 (xr_4 C w) (by omega) hl.1 rfl (Nat.le_of_ble_eq_true rfl) d_Parser_readPair_4 (fun H locs w => ?_)
  show WK p l e s m _ below meth c (nk + 1) g (wX g (qt q)) A (some (.int r)) σ2 H locs (F0 m 7 ls [])
  refine lv_aload_n hx hb d_Parser_readPair_7 rfl (lv_at hl 0 rfl) ?_
  refine xg_3_reader C w k313 d_Parser_readPair_8 ?_
  refine lv_bipush (v := 40) hx hb d_Parser_readPair_11 (by decide) ?_
  obtain ⟨r_4, h_3, hf⟩ := bp_e hf
  refine k_callV (As := [.int 40]) (rest := []) C w (c_Reader_isSign (q := qt q) h_3) cv_Reader_isSign k664 (xr_4 C w) (by omega) hl.1 rfl (Nat.le_of_ble_eq_true rfl) d_Parser_readPair_13 (fun H locs w => ?_)
  show WK p l e s m _ below meth c (nk + 1) g (wX g (qt q)) A (some (.int r)) σ2 H locs (F0 m 16 ls [.int r_4])
  refine lv_if_ne (tgt := 24) hx hb d_Parser_readPair_16 (by decide) (fun cd => ?_) (fun cd => ?_)
  · have hf := if_e cd hf
    refine lv_aload_n hx hb d_Parser_readPair_24 rfl (lv_at hl 0 rfl) ?_
    refine lv_iload_n hx hb d_Parser_readPair_25 rfl (lv_at hl 1 rfl) ?_
    obtain ⟨r_6, σ_7, h_5, hf⟩ := bd_e hf
    refine k_callV (As := [.int x1]) (rest := []) C w (c_Parser_passOpener (q := q) h_5) cv_Parser_passOpener k656 (xr_3 C w) (by omega) hl.1 rfl (Nat.le_of_ble_eq_true rfl) d_Parser_readPair_26 (fun H locs w => ?_)
    show WK p l e s m _ below meth c (nk + 1) g (wX g (qt q)) A (some (.int r)) σ2 H locs (F0 m 29 ls [.int r_6])
    refine lv_if_eq (tgt := 74) hx hb d_Parser_readPair_29 (by decide) (fun cd => ?_) (fun cd => ?_)
    · have hf := it_e cd hf
      exact t_Parser_readPair_74 C hnk hkS  hf w (lv_sub hl [0, 2] rfl)
    · have hf := if_e cd hf
      refine lv_aload_n hx hb d_Parser_readPair_32 rfl (lv_at hl 0 rfl) ?_
      refine lv_iload_n hx hb d_Parser_readPair_33 rfl (lv_at hl 1 rfl) ?_
      refine lv_iconst (v := 1) hx hb d_Parser_readPair_34 (by decide) ?_
      refine lv_iadd hx hb d_Parser_readPair_35 ?_
      obtain ⟨r_9, σ_10, h_8, hf⟩ := bd_e hf
      refine k_callV (As := [.int (x1 + 1)]) (rest := []) C w (hkS _ _ _ _ h_8) cv_Parser_readSum k672 (xr_3 C w) (by omega) hl.1 rfl (Nat.le_of_ble_eq_true rfl) d_Parser_readPair_36 (fun H locs w => ?_)
      show WK p l e s m _ below meth c (nk + 1) g (wX g (qt q)) A (some (.int r)) σ2 H locs (F0 m 39 ls [.int r_9])
      refine lv_if_eq (tgt := 74) hx hb d_Parser_readPair_39 (by decide) (fun cd => ?_) (fun cd => ?_)
      · have hf := it_e cd hf
        exact t_Parser_readPair_74 C hnk hkS  hf w (lv_sub hl [0, 2] rfl)
      · have hf := if_e cd hf
        refine lv_aload_n hx hb d_Parser_readPair_42 rfl (lv_at hl 0 rfl) ?_
        refine lv_bipush (v := 44) hx hb d_Parser_readPair_43 (by decide) ?_
        obtain ⟨r_12, σ_13, h_11, hf⟩ := bd_e hf
        refine k_callV (As := [.int 44]) (rest := []) C w (c_Parser_passSign (q := q) h_11) cv_Parser_passSign k668 (xr_3 C w) (by omega) hl.1 rfl (Nat.le_of_ble_eq_true rfl) d_Parser_readPair_45 (fun H locs w => ?_)
        show WK p l e s m _ below meth c (nk + 1) g (wX g (qt q)) A (some (.int r)) σ2 H locs (F0 m 48 ls [.int r_12])
        refine lv_if_eq (tgt := 74) hx hb d_Parser_readPair_48 (by decide) (fun cd => ?_) (fun cd => ?_)
        · have hf := it_e cd hf
          exact t_Parser_readPair_74 C hnk hkS  hf w (lv_sub hl [0, 2] rfl)
        · have hf := if_e cd hf
          refine lv_aload_n hx hb d_Parser_readPair_51 rfl (lv_at hl 0 rfl) ?_
          refine lv_iload_n hx hb d_Parser_readPair_52 rfl (lv_at hl 1 rfl) ?_
          refine lv_iconst (v := 1) hx hb d_Parser_readPair_53 (by decide) ?_
          refine lv_iadd hx hb d_Parser_readPair_54 ?_
          obtain ⟨r_15, σ_16, h_14, hf⟩ := bd_e hf
          refine k_callV (As := [.int (x1 + 1)]) (rest := []) C w (hkS _ _ _ _ h_14) cv_Parser_readSum k672 (xr_3 C w) (by omega) hl.1 rfl (Nat.le_of_ble_eq_true rfl) d_Parser_readPair_55 (fun H locs w => ?_)
          show WK p l e s m _ below meth c (nk + 1) g (wX g (qt q)) A (some (.int r)) σ2 H locs (F0 m 58 ls [.int r_15])
          refine lv_if_eq (tgt := 74) hx hb d_Parser_readPair_58 (by decide) (fun cd => ?_) (fun cd => ?_)
          · have hf := it_e cd hf
            exact t_Parser_readPair_74 C hnk hkS  hf w (lv_sub hl [0, 2] rfl)
          · have hf := if_e cd hf
            refine lv_aload_n hx hb d_Parser_readPair_61 rfl (lv_at hl 0 rfl) ?_
            refine lv_bipush (v := 41) hx hb d_Parser_readPair_62 (by decide) ?_
            obtain ⟨r_18, σ_19, h_17, hf⟩ := bd_e hf
            refine k_callV (As := [.int 41]) (rest := []) C w (c_Parser_passSign (q := q) h_17) cv_Parser_passSign k668 (xr_3 C w) (by omega) hl.1 rfl (Nat.le_of_ble_eq_true rfl) d_Parser_readPair_64 (fun H locs w => ?_)
            show WK p l e s m _ below meth c (nk + 1) g (wX g (qt q)) A (some (.int r)) σ2 H locs (F0 m 67 ls [.int r_18])
            refine lv_if_eq (tgt := 74) hx hb d_Parser_readPair_67 (by decide) (fun cd => ?_) (fun cd => ?_)
            · have hf := it_e cd hf
              exact t_Parser_readPair_74 C hnk hkS  hf w (lv_sub hl [0, 2] rfl)
            · have hf := if_e cd hf
              refine lv_iconst (v := 1) hx hb d_Parser_readPair_70 (by decide) ?_
              refine lv_goto (tgt := 75) hx hb d_Parser_readPair_71 (by decide) ?_
              exact t_Parser_readPair_75 C hnk hkS  hf w (lv_sub hl [0, 2] rfl)
  · have hf := it_e cd hf
    refine lv_aload_n hx hb d_Parser_readPair_19 rfl (lv_at hl 0 rfl) ?_
    obtain ⟨r_21, σ_22, h_20, hf⟩ := bd_e hf
    refine k_callV (As := []) (rest := []) C w (c_Parser_tellWrong (q := qt q) h_20) cv_Parser_tellWrong k616 (xr_3 C w) (by omega) hl.1 rfl (Nat.le_of_ble_eq_true rfl) d_Parser_readPair_20 (fun H locs w => ?_)
    show WK p l e s m _ below meth c (nk + 1) g (wX g (qt q)) A (some (.int r)) σ2 H locs (F0 m 23 ls [.int r_21])
    obtain ⟨g_23, hf⟩ := gd_e hf
    obtain ⟨rfl, rfl⟩ := some2_e hf
    exact k_zret C w g_23 d_Parser_readPair_23
