variable {p : Program} {l : Launch} {e : Env} {s : State} {m : MethodId} {av : Array Value} {below : List Frame} {meth : Method} {c : Code} {g : GX} {q : Nat → Nat} {A : Nat → Prop}
abbrev y_Tape_add : MethodName := ⟨"BellHammer$Tape", "add", "(I)V"⟩
abbrev y_BH_feed : MethodName := ⟨"BellHammer", "feed", "(IIIII)I"⟩
abbrev y_BH_end : MethodName := ⟨"BellHammer", "end", "(I)Z"⟩
abbrev y_BH_isWithin : MethodName := ⟨"BellHammer", "isWithin", "(II)Z"⟩
abbrev y_BH_isOff : MethodName := ⟨"BellHammer", "isOff", "(I)Z"⟩
abbrev y_BH_rise : MethodName := ⟨"BellHammer", "rise", "(III)I"⟩
abbrev y_BH_wouldRing : MethodName := ⟨"BellHammer", "wouldRing", "(IIZ)Z"⟩
abbrev y_BH_hard : MethodName := ⟨"BellHammer", "hard", "(IZ)I"⟩
abbrev y_BH_wide : MethodName := ⟨"BellHammer", "wide", "(IZ)I"⟩
theorem d_Tape_add_0 : decode prog_8_method_2_code 0 = .ok (.bipush 24, 2) := by decide +kernel
theorem d_Tape_add_2 : decode prog_8_method_2_code 2 = .ok (.istore_n 2, 1) := by decide +kernel
theorem d_Tape_add_3 : decode prog_8_method_2_code 3 = .ok (.iload_n 2, 1) := by decide +kernel
theorem d_Tape_add_4 : decode prog_8_method_2_code 4 = .ok (.ifCond .lt 47, 3) := by decide +kernel
theorem d_Tape_add_7 : decode prog_8_method_2_code 7 = .ok (.aload_n 0, 1) := by decide +kernel
theorem d_Tape_add_8 : decode prog_8_method_2_code 8 = .ok (.getfield 15, 3) := by decide +kernel
theorem d_Tape_add_11 : decode prog_8_method_2_code 11 = .ok (.aload_n 0, 1) := by decide +kernel
theorem d_Tape_add_12 : decode prog_8_method_2_code 12 = .ok (.getfield 9, 3) := by decide +kernel
theorem d_Tape_add_15 : decode prog_8_method_2_code 15 = .ok (.arraylength, 1) := by decide +kernel
theorem d_Tape_add_16 : decode prog_8_method_2_code 16 = .ok (.if_icmp .ge 35, 3) := by decide +kernel
theorem d_Tape_add_19 : decode prog_8_method_2_code 19 = .ok (.aload_n 0, 1) := by decide +kernel
theorem d_Tape_add_20 : decode prog_8_method_2_code 20 = .ok (.getfield 9, 3) := by decide +kernel
theorem d_Tape_add_23 : decode prog_8_method_2_code 23 = .ok (.aload_n 0, 1) := by decide +kernel
theorem d_Tape_add_24 : decode prog_8_method_2_code 24 = .ok (.getfield 15, 3) := by decide +kernel
theorem d_Tape_add_27 : decode prog_8_method_2_code 27 = .ok (.iload_n 1, 1) := by decide +kernel
theorem d_Tape_add_28 : decode prog_8_method_2_code 28 = .ok (.iload_n 2, 1) := by decide +kernel
theorem d_Tape_add_29 : decode prog_8_method_2_code 29 = .ok (.ishr, 1) := by decide +kernel
theorem d_Tape_add_30 : decode prog_8_method_2_code 30 = .ok (.sipush 255, 3) := by decide +kernel
theorem d_Tape_add_33 : decode prog_8_method_2_code 33 = .ok (.iand, 1) := by decide +kernel
theorem d_Tape_add_34 : decode prog_8_method_2_code 34 = .ok (.iastore, 1) := by decide +kernel
theorem d_Tape_add_35 : decode prog_8_method_2_code 35 = .ok (.aload_n 0, 1) := by decide +kernel
theorem d_Tape_add_36 : decode prog_8_method_2_code 36 = .ok (.dup, 1) := by decide +kernel
theorem d_Tape_add_37 : decode prog_8_method_2_code 37 = .ok (.getfield 15, 3) := by decide +kernel
theorem d_Tape_add_40 : decode prog_8_method_2_code 40 = .ok (.iconst 1, 1) := by decide +kernel
theorem d_Tape_add_41 : decode prog_8_method_2_code 41 = .ok (.iadd, 1) := by decide +kernel
theorem d_Tape_add_42 : decode prog_8_method_2_code 42 = .ok (.putfield 15, 3) := by decide +kernel
theorem d_Tape_add_45 : decode prog_8_method_2_code 45 = .ok (.iinc 2 (-8), 3) := by decide +kernel
theorem d_Tape_add_48 : decode prog_8_method_2_code 48 = .ok (.goto (-45), 3) := by decide +kernel
theorem d_Tape_add_51 : decode prog_8_method_2_code 51 = .ok (.return_, 1) := by decide +kernel
theorem d_BH_feed_0 : decode prog_1_method_2_code 0 = .ok (.aload_n 0, 1) := by decide +kernel
theorem d_BH_feed_1 : decode prog_1_method_2_code 1 = .ok (.getfield 10, 3) := by decide +kernel
theorem d_BH_feed_4 : decode prog_1_method_2_code 4 = .ok (.getfield 68, 3) := by decide +kernel
theorem d_BH_feed_7 : decode prog_1_method_2_code 7 = .ok (.bipush 20, 2) := by decide +kernel
theorem d_BH_feed_9 : decode prog_1_method_2_code 9 = .ok (.iadd, 1) := by decide +kernel
theorem d_BH_feed_10 : decode prog_1_method_2_code 10 = .ok (.sipush 1600, 3) := by decide +kernel
theorem d_BH_feed_13 : decode prog_1_method_2_code 13 = .ok (.if_icmp .le 15, 3) := by decide +kernel
theorem d_BH_feed_16 : decode prog_1_method_2_code 16 = .ok (.aload_n 0, 1) := by decide +kernel
theorem d_BH_feed_17 : decode prog_1_method_2_code 17 = .ok (.getfield 65, 3) := by decide +kernel
theorem d_BH_feed_20 : decode prog_1_method_2_code 20 = .ok (.iconst 0, 1) := by decide +kernel
theorem d_BH_feed_21 : decode prog_1_method_2_code 21 = .ok (.dup2, 1) := by decide +kernel
theorem d_BH_feed_22 : decode prog_1_method_2_code 22 = .ok (.iaload, 1) := by decide +kernel
theorem d_BH_feed_23 : decode prog_1_method_2_code 23 = .ok (.iconst 1, 1) := by decide +kernel
theorem d_BH_feed_24 : decode prog_1_method_2_code 24 = .ok (.iadd, 1) := by decide +kernel
theorem d_BH_feed_25 : decode prog_1_method_2_code 25 = .ok (.iastore, 1) := by decide +kernel
theorem d_BH_feed_26 : decode prog_1_method_2_code 26 = .ok (.iconst (-1), 1) := by decide +kernel
theorem d_BH_feed_27 : decode prog_1_method_2_code 27 = .ok (.ireturn, 1) := by decide +kernel
theorem d_BH_feed_28 : decode prog_1_method_2_code 28 = .ok (.aload_n 0, 1) := by decide +kernel
theorem d_BH_feed_29 : decode prog_1_method_2_code 29 = .ok (.getfield 10, 3) := by decide +kernel
theorem d_BH_feed_32 : decode prog_1_method_2_code 32 = .ok (.iload_n 1, 1) := by decide +kernel
theorem d_BH_feed_33 : decode prog_1_method_2_code 33 = .ok (.invokevirtual 72, 3) := by decide +kernel
theorem d_BH_feed_36 : decode prog_1_method_2_code 36 = .ok (.aload_n 0, 1) := by decide +kernel
theorem d_BH_feed_37 : decode prog_1_method_2_code 37 = .ok (.getfield 10, 3) := by decide +kernel
theorem d_BH_feed_40 : decode prog_1_method_2_code 40 = .ok (.iload_n 2, 1) := by decide +kernel
theorem d_BH_feed_41 : decode prog_1_method_2_code 41 = .ok (.invokevirtual 72, 3) := by decide +kernel
theorem d_BH_feed_44 : decode prog_1_method_2_code 44 = .ok (.aload_n 0, 1) := by decide +kernel
theorem d_BH_feed_45 : decode prog_1_method_2_code 45 = .ok (.getfield 10, 3) := by decide +kernel
theorem d_BH_feed_48 : decode prog_1_method_2_code 48 = .ok (.iload_n 3, 1) := by decide +kernel
theorem d_BH_feed_49 : decode prog_1_method_2_code 49 = .ok (.invokevirtual 72, 3) := by decide +kernel
theorem d_BH_feed_52 : decode prog_1_method_2_code 52 = .ok (.aload_n 0, 1) := by decide +kernel
theorem d_BH_feed_53 : decode prog_1_method_2_code 53 = .ok (.getfield 10, 3) := by decide +kernel
theorem d_BH_feed_56 : decode prog_1_method_2_code 56 = .ok (.iload 4, 2) := by decide +kernel
theorem d_BH_feed_58 : decode prog_1_method_2_code 58 = .ok (.invokevirtual 72, 3) := by decide +kernel
theorem d_BH_feed_61 : decode prog_1_method_2_code 61 = .ok (.aload_n 0, 1) := by decide +kernel
theorem d_BH_feed_62 : decode prog_1_method_2_code 62 = .ok (.getfield 10, 3) := by decide +kernel
theorem d_BH_feed_65 : decode prog_1_method_2_code 65 = .ok (.iload 5, 2) := by decide +kernel
theorem d_BH_feed_67 : decode prog_1_method_2_code 67 = .ok (.invokevirtual 72, 3) := by decide +kernel
theorem d_BH_feed_70 : decode prog_1_method_2_code 70 = .ok (.aload_n 0, 1) := by decide +kernel
theorem d_BH_feed_71 : decode prog_1_method_2_code 71 = .ok (.getfield 10, 3) := by decide +kernel
theorem d_BH_feed_74 : decode prog_1_method_2_code 74 = .ok (.getfield 68, 3) := by decide +kernel
theorem d_BH_feed_77 : decode prog_1_method_2_code 77 = .ok (.ireturn, 1) := by decide +kernel
theorem d_BH_end_0 : decode prog_1_method_3_code 0 = .ok (.iload_n 1, 1) := by decide +kernel
theorem d_BH_end_1 : decode prog_1_method_3_code 1 = .ok (.ifCond .lt 14, 3) := by decide +kernel
theorem d_BH_end_4 : decode prog_1_method_3_code 4 = .ok (.iload_n 1, 1) := by decide +kernel
theorem d_BH_end_5 : decode prog_1_method_3_code 5 = .ok (.aload_n 0, 1) := by decide +kernel
theorem d_BH_end_6 : decode prog_1_method_3_code 6 = .ok (.getfield 10, 3) := by decide +kernel
theorem d_BH_end_9 : decode prog_1_method_3_code 9 = .ok (.getfield 68, 3) := by decide +kernel
theorem d_BH_end_12 : decode prog_1_method_3_code 12 = .ok (.if_icmp .le 15, 3) := by decide +kernel
theorem d_BH_end_15 : decode prog_1_method_3_code 15 = .ok (.aload_n 0, 1) := by decide +kernel
theorem d_BH_end_16 : decode prog_1_method_3_code 16 = .ok (.getfield 65, 3) := by decide +kernel
theorem d_BH_end_19 : decode prog_1_method_3_code 19 = .ok (.iconst 0, 1) := by decide +kernel
theorem d_BH_end_20 : decode prog_1_method_3_code 20 = .ok (.dup2, 1) := by decide +kernel
theorem d_BH_end_21 : decode prog_1_method_3_code 21 = .ok (.iaload, 1) := by decide +kernel
theorem d_BH_end_22 : decode prog_1_method_3_code 22 = .ok (.iconst 1, 1) := by decide +kernel
theorem d_BH_end_23 : decode prog_1_method_3_code 23 = .ok (.iadd, 1) := by decide +kernel
theorem d_BH_end_24 : decode prog_1_method_3_code 24 = .ok (.iastore, 1) := by decide +kernel
theorem d_BH_end_25 : decode prog_1_method_3_code 25 = .ok (.iconst 0, 1) := by decide +kernel
theorem d_BH_end_26 : decode prog_1_method_3_code 26 = .ok (.ireturn, 1) := by decide +kernel
theorem d_BH_end_27 : decode prog_1_method_3_code 27 = .ok (.aload_n 0, 1) := by decide +kernel
theorem d_BH_end_28 : decode prog_1_method_3_code 28 = .ok (.getfield 10, 3) := by decide +kernel
theorem d_BH_end_31 : decode prog_1_method_3_code 31 = .ok (.iload_n 1, 1) := by decide +kernel
theorem d_BH_end_32 : decode prog_1_method_3_code 32 = .ok (.putfield 68, 3) := by decide +kernel
theorem d_BH_end_35 : decode prog_1_method_3_code 35 = .ok (.iconst 1, 1) := by decide +kernel
theorem d_BH_end_36 : decode prog_1_method_3_code 36 = .ok (.ireturn, 1) := by decide +kernel
theorem d_BH_isWithin_0 : decode prog_1_method_38_code 0 = .ok (.iload_n 0, 1) := by decide +kernel
theorem d_BH_isWithin_1 : decode prog_1_method_38_code 1 = .ok (.ifCond .lt 12, 3) := by decide +kernel
theorem d_BH_isWithin_4 : decode prog_1_method_38_code 4 = .ok (.iload_n 0, 1) := by decide +kernel
theorem d_BH_isWithin_5 : decode prog_1_method_38_code 5 = .ok (.iload_n 1, 1) := by decide +kernel
theorem d_BH_isWithin_6 : decode prog_1_method_38_code 6 = .ok (.if_icmp .gt 7, 3) := by decide +kernel
theorem d_BH_isWithin_9 : decode prog_1_method_38_code 9 = .ok (.iconst 1, 1) := by decide +kernel
theorem d_BH_isWithin_10 : decode prog_1_method_38_code 10 = .ok (.goto 4, 3) := by decide +kernel
theorem d_BH_isWithin_13 : decode prog_1_method_38_code 13 = .ok (.iconst 0, 1) := by decide +kernel
theorem d_BH_isWithin_14 : decode prog_1_method_38_code 14 = .ok (.ireturn, 1) := by decide +kernel
theorem d_BH_isOff_0 : decode prog_1_method_37_code 0 = .ok (.iload_n 0, 1) := by decide +kernel
theorem d_BH_isOff_1 : decode prog_1_method_37_code 1 = .ok (.bipush 9, 2) := by decide +kernel
theorem d_BH_isOff_3 : decode prog_1_method_37_code 3 = .ok (.invokestatic 175, 3) := by decide +kernel
theorem d_BH_isOff_6 : decode prog_1_method_37_code 6 = .ok (.ireturn, 1) := by decide +kernel
theorem d_BH_rise_0 : decode prog_1_method_39_code 0 = .ok (.iload_n 0, 1) := by decide +kernel
theorem d_BH_rise_1 : decode prog_1_method_39_code 1 = .ok (.bipush 100, 2) := by decide +kernel
theorem d_BH_rise_3 : decode prog_1_method_39_code 3 = .ok (.bipush 10, 2) := by decide +kernel
theorem d_BH_rise_5 : decode prog_1_method_39_code 5 = .ok (.iload_n 1, 1) := by decide +kernel
theorem d_BH_rise_6 : decode prog_1_method_39_code 6 = .ok (.imul, 1) := by decide +kernel
theorem d_BH_rise_7 : decode prog_1_method_39_code 7 = .ok (.isub, 1) := by decide +kernel
theorem d_BH_rise_8 : decode prog_1_method_39_code 8 = .ok (.imul, 1) := by decide +kernel
theorem d_BH_rise_9 : decode prog_1_method_39_code 9 = .ok (.bipush 100, 2) := by decide +kernel
theorem d_BH_rise_11 : decode prog_1_method_39_code 11 = .ok (.idiv, 1) := by decide +kernel
theorem d_BH_rise_12 : decode prog_1_method_39_code 12 = .ok (.istore_n 3, 1) := by decide +kernel
theorem d_BH_rise_13 : decode prog_1_method_39_code 13 = .ok (.iload_n 3, 1) := by decide +kernel
theorem d_BH_rise_14 : decode prog_1_method_39_code 14 = .ok (.bipush 100, 2) := by decide +kernel
theorem d_BH_rise_16 : decode prog_1_method_39_code 16 = .ok (.iload_n 2, 1) := by decide +kernel
theorem d_BH_rise_17 : decode prog_1_method_39_code 17 = .ok (.isub, 1) := by decide +kernel
theorem d_BH_rise_18 : decode prog_1_method_39_code 18 = .ok (.imul, 1) := by decide +kernel
theorem d_BH_rise_19 : decode prog_1_method_39_code 19 = .ok (.bipush 100, 2) := by decide +kernel
theorem d_BH_rise_21 : decode prog_1_method_39_code 21 = .ok (.idiv, 1) := by decide +kernel
theorem d_BH_rise_22 : decode prog_1_method_39_code 22 = .ok (.ireturn, 1) := by decide +kernel
theorem d_BH_wouldRing_0 : decode prog_1_method_40_code 0 = .ok (.iload_n 1, 1) := by decide +kernel
theorem d_BH_wouldRing_1 : decode prog_1_method_40_code 1 = .ok (.iload_n 2, 1) := by decide +kernel
theorem d_BH_wouldRing_2 : decode prog_1_method_40_code 2 = .ok (.iload_n 3, 1) := by decide +kernel
theorem d_BH_wouldRing_3 : decode prog_1_method_40_code 3 = .ok (.ifCond .eq 15, 3) := by decide +kernel
theorem d_BH_wouldRing_6 : decode prog_1_method_40_code 6 = .ok (.aload_n 0, 1) := by decide +kernel
theorem d_BH_wouldRing_7 : decode prog_1_method_40_code 7 = .ok (.getfield 26, 3) := by decide +kernel
theorem d_BH_wouldRing_10 : decode prog_1_method_40_code 10 = .ok (.getfield 114, 3) := by decide +kernel
theorem d_BH_wouldRing_13 : decode prog_1_method_40_code 13 = .ok (.iconst 1, 1) := by decide +kernel
theorem d_BH_wouldRing_14 : decode prog_1_method_40_code 14 = .ok (.iaload, 1) := by decide +kernel
theorem d_BH_wouldRing_15 : decode prog_1_method_40_code 15 = .ok (.goto 4, 3) := by decide +kernel
theorem d_BH_wouldRing_18 : decode prog_1_method_40_code 18 = .ok (.iconst 0, 1) := by decide +kernel
theorem d_BH_wouldRing_19 : decode prog_1_method_40_code 19 = .ok (.invokestatic 284, 3) := by decide +kernel
theorem d_BH_wouldRing_22 : decode prog_1_method_40_code 22 = .ok (.aload_n 0, 1) := by decide +kernel
theorem d_BH_wouldRing_23 : decode prog_1_method_40_code 23 = .ok (.getfield 26, 3) := by decide +kernel
theorem d_BH_wouldRing_26 : decode prog_1_method_40_code 26 = .ok (.getfield 114, 3) := by decide +kernel
theorem d_BH_wouldRing_29 : decode prog_1_method_40_code 29 = .ok (.iconst 0, 1) := by decide +kernel
theorem d_BH_wouldRing_30 : decode prog_1_method_40_code 30 = .ok (.iaload, 1) := by decide +kernel
theorem d_BH_wouldRing_31 : decode prog_1_method_40_code 31 = .ok (.if_icmp .lt 7, 3) := by decide +kernel
theorem d_BH_wouldRing_34 : decode prog_1_method_40_code 34 = .ok (.iconst 1, 1) := by decide +kernel
theorem d_BH_wouldRing_35 : decode prog_1_method_40_code 35 = .ok (.goto 4, 3) := by decide +kernel
theorem d_BH_wouldRing_38 : decode prog_1_method_40_code 38 = .ok (.iconst 0, 1) := by decide +kernel
theorem d_BH_wouldRing_39 : decode prog_1_method_40_code 39 = .ok (.ireturn, 1) := by decide +kernel
theorem d_BH_hard_0 : decode prog_1_method_12_code 0 = .ok (.iload_n 1, 1) := by decide +kernel
theorem d_BH_hard_1 : decode prog_1_method_12_code 1 = .ok (.invokestatic 160, 3) := by decide +kernel
theorem d_BH_hard_4 : decode prog_1_method_12_code 4 = .ok (.ifCond .ne 5, 3) := by decide +kernel
theorem d_BH_hard_7 : decode prog_1_method_12_code 7 = .ok (.iconst (-1), 1) := by decide +kernel
theorem d_BH_hard_8 : decode prog_1_method_12_code 8 = .ok (.ireturn, 1) := by decide +kernel
theorem d_BH_hard_9 : decode prog_1_method_12_code 9 = .ok (.iconst 1, 1) := by decide +kernel
theorem d_BH_hard_10 : decode prog_1_method_12_code 10 = .ok (.istore_n 3, 1) := by decide +kernel
theorem d_BH_hard_11 : decode prog_1_method_12_code 11 = .ok (.iload_n 3, 1) := by decide +kernel
theorem d_BH_hard_12 : decode prog_1_method_12_code 12 = .ok (.bipush 99, 2) := by decide +kernel
theorem d_BH_hard_14 : decode prog_1_method_12_code 14 = .ok (.if_icmp .gt 21, 3) := by decide +kernel
theorem d_BH_hard_17 : decode prog_1_method_12_code 17 = .ok (.aload_n 0, 1) := by decide +kernel
theorem d_BH_hard_18 : decode prog_1_method_12_code 18 = .ok (.iload_n 3, 1) := by decide +kernel
theorem d_BH_hard_19 : decode prog_1_method_12_code 19 = .ok (.iload_n 1, 1) := by decide +kernel
theorem d_BH_hard_20 : decode prog_1_method_12_code 20 = .ok (.iload_n 2, 1) := by decide +kernel
theorem d_BH_hard_21 : decode prog_1_method_12_code 21 = .ok (.invokevirtual 171, 3) := by decide +kernel
theorem d_BH_hard_24 : decode prog_1_method_12_code 24 = .ok (.ifCond .eq 5, 3) := by decide +kernel
theorem d_BH_hard_27 : decode prog_1_method_12_code 27 = .ok (.iload_n 3, 1) := by decide +kernel
theorem d_BH_hard_28 : decode prog_1_method_12_code 28 = .ok (.ireturn, 1) := by decide +kernel
theorem d_BH_hard_29 : decode prog_1_method_12_code 29 = .ok (.iinc 3 1, 3) := by decide +kernel
theorem d_BH_hard_32 : decode prog_1_method_12_code 32 = .ok (.goto (-21), 3) := by decide +kernel
theorem d_BH_hard_35 : decode prog_1_method_12_code 35 = .ok (.iconst (-1), 1) := by decide +kernel
theorem d_BH_hard_36 : decode prog_1_method_12_code 36 = .ok (.ireturn, 1) := by decide +kernel
theorem d_BH_wide_0 : decode prog_1_method_13_code 0 = .ok (.iload_n 1, 1) := by decide +kernel
theorem d_BH_wide_1 : decode prog_1_method_13_code 1 = .ok (.iconst 1, 1) := by decide +kernel
theorem d_BH_wide_2 : decode prog_1_method_13_code 2 = .ok (.if_icmp .lt 9, 3) := by decide +kernel
theorem d_BH_wide_5 : decode prog_1_method_13_code 5 = .ok (.iload_n 1, 1) := by decide +kernel
theorem d_BH_wide_6 : decode prog_1_method_13_code 6 = .ok (.bipush 99, 2) := by decide +kernel
theorem d_BH_wide_8 : decode prog_1_method_13_code 8 = .ok (.if_icmp .le 5, 3) := by decide +kernel
theorem d_BH_wide_11 : decode prog_1_method_13_code 11 = .ok (.iconst (-1), 1) := by decide +kernel
theorem d_BH_wide_12 : decode prog_1_method_13_code 12 = .ok (.ireturn, 1) := by decide +kernel
theorem d_BH_wide_13 : decode prog_1_method_13_code 13 = .ok (.bipush 9, 2) := by decide +kernel
theorem d_BH_wide_15 : decode prog_1_method_13_code 15 = .ok (.istore_n 3, 1) := by decide +kernel
theorem d_BH_wide_16 : decode prog_1_method_13_code 16 = .ok (.iload_n 3, 1) := by decide +kernel
theorem d_BH_wide_17 : decode prog_1_method_13_code 17 = .ok (.ifCond .lt 21, 3) := by decide +kernel
theorem d_BH_wide_20 : decode prog_1_method_13_code 20 = .ok (.aload_n 0, 1) := by decide +kernel
theorem d_BH_wide_21 : decode prog_1_method_13_code 21 = .ok (.iload_n 1, 1) := by decide +kernel
theorem d_BH_wide_22 : decode prog_1_method_13_code 22 = .ok (.iload_n 3, 1) := by decide +kernel
theorem d_BH_wide_23 : decode prog_1_method_13_code 23 = .ok (.iload_n 2, 1) := by decide +kernel
theorem d_BH_wide_24 : decode prog_1_method_13_code 24 = .ok (.invokevirtual 171, 3) := by decide +kernel
theorem d_BH_wide_27 : decode prog_1_method_13_code 27 = .ok (.ifCond .eq 5, 3) := by decide +kernel
theorem d_BH_wide_30 : decode prog_1_method_13_code 30 = .ok (.iload_n 3, 1) := by decide +kernel
theorem d_BH_wide_31 : decode prog_1_method_13_code 31 = .ok (.ireturn, 1) := by decide +kernel
theorem d_BH_wide_32 : decode prog_1_method_13_code 32 = .ok (.iinc 3 (-1), 3) := by decide +kernel
theorem d_BH_wide_35 : decode prog_1_method_13_code 35 = .ok (.goto (-19), 3) := by decide +kernel
theorem d_BH_wide_38 : decode prog_1_method_13_code 38 = .ok (.iconst (-1), 1) := by decide +kernel
theorem d_BH_wide_39 : decode prog_1_method_13_code 39 = .ok (.ireturn, 1) := by decide +kernel
theorem cv_Tape_add : CalV y_Tape_add prog_8_method_2_code 3 none 1 := ⟨⟨k552, k100, (by decide +kernel), (by decide)⟩, k550, k551⟩
theorem cv_BH_feed : CalV y_BH_feed prog_1_method_2_code 6 (some .int) 5 := ⟨⟨k548, k99, (by decide +kernel), (by decide)⟩, k546, k547⟩
theorem cv_BH_end : CalV y_BH_end prog_1_method_3_code 2 (some .boolean) 1 := ⟨⟨k556, k99, (by decide +kernel), (by decide)⟩, k554, k555⟩
theorem cv_BH_isWithin : CalS y_BH_isWithin prog_1_method_38_code 2 (some .boolean) 2 := ⟨⟨k759, k99, (by decide +kernel), (by decide)⟩, k758⟩
theorem cv_BH_isOff : CalS y_BH_isOff prog_1_method_37_code 1 (some .boolean) 1 := ⟨⟨k756, k99, (by decide +kernel), (by decide)⟩, k755⟩
theorem cv_BH_rise : CalS y_BH_rise prog_1_method_39_code 4 (some .int) 3 := ⟨⟨k775, k99, (by decide +kernel), (by decide)⟩, k774⟩
theorem cv_BH_wouldRing : CalV y_BH_wouldRing prog_1_method_40_code 4 (some .boolean) 3 := ⟨⟨k784, k99, (by decide +kernel), (by decide)⟩, k783, k23⟩
theorem cv_BH_hard : CalV y_BH_hard prog_1_method_12_code 4 (some .int) 2 := ⟨⟨k780, k99, (by decide +kernel), (by decide)⟩, k778, k779⟩
theorem cv_BH_wide : CalV y_BH_wide prog_1_method_13_code 4 (some .int) 2 := ⟨⟨k789, k99, (by decide +kernel), (by decide)⟩, k787, k788⟩
def f_Tape_add_3b (k3 : Int32 → Int32 → St → Option (St)) (x1 : Int32) (x2 : Int32) (σ : St) : Option (St) :=
  if x2 < 0 then
    some σ
  else
    if 1600 ≤ (sI σ 3) then
      some σ
    else
      gd (inB (sI σ 3) 1600) <|
      lt (uA σ 0 (upd (sA σ 0) (sI σ 3).toNatClampNeg ((x1 >>> (x2 &&& 31)) &&& 255))) fun σ_2 =>
      lt (uI σ_2 3 ((sI σ_2 3) + 1)) fun σ_3 =>
      lt ((x2 + (-8))) fun x_4 =>
      k3 x1 x_4 σ_3
def f_Tape_add_3 : Nat → Int32 → Int32 → St → Option (St)
  | 0 => fun _ _ _ => none
  | n + 1 => f_Tape_add_3b   (f_Tape_add_3   n)
def f_Tape_add (x1 : Int32) (σ : St) : Option (St) :=
  f_Tape_add_3 FU x1 24 σ
set_option maxHeartbeats 4000000 in
set_option maxRecDepth 20000 in
theorem t_Tape_add_3b {σ2 : St} (C : Cx g A p s m av meth c prog_8_method_2_code 3 "BellHammer$Tape" none) {k3 : Int32 → Int32 → St → Option (St)} (hk3 : ∀ (x1 : Int32) (x2 : Int32) (σ : St) (H : Heap) (locs : List Loc) (ls : Array Slot), k3 x1 x2 σ = some σ2 → Wd g (wX g q) A s σ H locs → lv_has ls 3 [(0, .ref (q 1)), (1, .int x1), (2, .int x2)] → WK p l e s m av below meth c 0 g (wX g q) A none σ2 H locs (F0 m 3 ls []))  {x1 : Int32} {x2 : Int32} {σ : St} {H : Heap} {locs : List Loc} {ls : Array Slot} (hf : f_Tape_add_3b  k3 x1 x2 σ = some σ2) (w : Wd g (wX g q) A s σ H locs) (hl : lv_has ls 3 [(0, .ref (q 1)), (1, .int x1), (2, .int x2)]) : WK p l e s m av below meth c 0 g (wX g q) A none σ2 H locs (F0 m 3 ls []) := by
  obtain ⟨hx, hb, hml, hown, hts, hK, hA, hZ, hlocks, hr, hN⟩ := id C
  unfold f_Tape_add_3b at hf
  refine lv_iload_n hx hb d_Tape_add_3 rfl (lv_at hl 2 rfl) ?_
  refine lv_if_lt (tgt := 51) hx hb d_Tape_add_4 (by decide) (fun cd => ?_) (fun cd => ?_)
  · have hf := it_e cd hf
    cases some_e hf
    exact k_vret C w d_Tape_add_51
  · have hf := if_e cd hf
    refine lv_aload_n hx hb d_Tape_add_7 rfl (lv_at hl 0 rfl) ?_
    refine xg_1_size C w k134 d_Tape_add_8 ?_
    refine lv_aload_n hx hb d_Tape_add_11 rfl (lv_at hl 0 rfl) ?_
    refine xg_1_bytes C w k131 d_Tape_add_12 ?_
    refine xn_2 C w d_Tape_add_15 ?_
    refine lv_icmp_ge (tgt := 51) hx hb d_Tape_add_16 (by decide) (fun cd => ?_) (fun cd => ?_)
    · have hf := it_e cd hf
      cases some_e hf
      exact k_vret C w d_Tape_add_51
    · have hf := if_e cd hf
      refine lv_aload_n hx hb d_Tape_add_19 rfl (lv_at hl 0 rfl) ?_
      refine xg_1_bytes C w k131 d_Tape_add_20 ?_
      refine lv_aload_n hx hb d_Tape_add_23 rfl (lv_at hl 0 rfl) ?_
      refine xg_1_size C w k134 d_Tape_add_24 ?_
      refine lv_iload_n hx hb d_Tape_add_27 rfl (lv_at hl 1 rfl) ?_
      refine lv_iload_n hx hb d_Tape_add_28 rfl (lv_at hl 2 rfl) ?_
      refine lv_ishr hx hb d_Tape_add_29 ?_
      refine lv_sipush (v := 255) hx hb d_Tape_add_30 (by decide) ?_
      refine lv_iand hx hb d_Tape_add_33 ?_
      obtain ⟨g_1, hf⟩ := gd_e hf
      refine xs_2 C w g_1 d_Tape_add_34 (fun σ_2 H locs eσ_2 w => ?_)
      have hf := lt_e eσ_2 hf
      refine lv_aload_n hx hb d_Tape_add_35 rfl (lv_at hl 0 rfl) ?_
      refine lv_dup hx hb d_Tape_add_36 rfl ?_
      refine xg_1_size C w k134 d_Tape_add_37 ?_
      refine lv_iconst (v := 1) hx hb d_Tape_add_40 (by decide) ?_
      refine lv_iadd hx hb d_Tape_add_41 ?_
      refine xp_1_size C w k134 d_Tape_add_42 (fun σ_3 H locs eσ_3 w => ?_)
      have hf := lt_e eσ_3 hf
      obtain ⟨x_4, ex_4⟩ : ∃ y : Int32, y = (x2 + (-8)) := ⟨_, rfl⟩
      have hf := lt_e ex_4 hf
      refine lv_iinc (v := x_4) (lv' := [(2, .int x_4), (0, .ref (q 1)), (1, .int x1)]) hx hb d_Tape_add_45 hl (k := 2) rfl (by rw [ex_4]; rfl) (by decide) rfl (fun ls hl => ?_)
      refine lv_goto (tgt := 3) hx hb d_Tape_add_48 (by decide) ?_
      exact hk3 x1 x_4 σ_3 _ _ _ hf w (lv_sub hl [1, 2, 0] rfl)
set_option maxHeartbeats 4000000 in
set_option maxRecDepth 20000 in
theorem t_Tape_add_3 {σ2 : St} (C : Cx g A p s m av meth c prog_8_method_2_code 3 "BellHammer$Tape" none)  : ∀ (n : Nat) (x1 : Int32) (x2 : Int32) (σ : St) (H : Heap) (locs : List Loc) (ls : Array Slot), f_Tape_add_3   n x1 x2 σ = some σ2 → Wd g (wX g q) A s σ H locs → lv_has ls 3 [(0, .ref (q 1)), (1, .int x1), (2, .int x2)] → WK p l e s m av below meth c 0 g (wX g q) A none σ2 H locs (F0 m 3 ls []) := by
  intro n
  induction n with
  | zero => intro x1 x2 σ H locs ls hf; exact absurd hf (by intro z; cases z)
  | succ n ih => intro x1 x2 σ H locs ls hf w hl; exact t_Tape_add_3b C  ih hf w hl
set_option maxHeartbeats 4000000 in
set_option maxRecDepth 20000 in
theorem c_Tape_add {l : Launch} {g : GX} {q : Nat → Nat} {x1 : Int32}  {σ : St} {σ2 : St} (hf : f_Tape_add  x1 σ = some σ2) : KK l y_Tape_add prog_8_method_2_code 3 none 0 g (wX g q) σ [.ref (q 1), .int x1] none (wX g q) σ2 := by
  refine KK_of (by decide) (Nat.le_of_ble_eq_true rfl) (fun p e s m below meth c A ls C w hl => ?_)
  have hl : lv_has ls 3 [(0, .ref (q 1)), (1, .int x1)] := hl
  obtain ⟨hx, hb, hml, hown, hts, hK, hA, hZ, hlocks, hr, hN⟩ := id C
  unfold f_Tape_add at hf
  refine lv_bipush (v := 24) hx hb d_Tape_add_0 (by decide) ?_
  refine lv_istore_n (lv' := [(2, .int 24), (0, .ref (q 1)), (1, .int x1)]) hx hb d_Tape_add_2 rfl hl (by decide) rfl (fun ls hl => ?_)
  exact t_Tape_add_3 C  FU x1 24 σ _ _ _ hf w (lv_sub hl [1, 2, 0] rfl)
def f_BH_feed (x1 : Int32) (x2 : Int32) (x3 : Int32) (x4 : Int32) (x5 : Int32) (σ : St) : Option (Int32 × St) :=
  if ((sI σ 3) + 20) ≤ 1600 then
    bp (f_Tape_add x1 σ) fun σ_2 =>
    bp (f_Tape_add x2 σ_2) fun σ_4 =>
    bp (f_Tape_add x3 σ_4) fun σ_6 =>
    bp (f_Tape_add x4 σ_6) fun σ_8 =>
    bp (f_Tape_add x5 σ_8) fun σ_10 =>
    some ((sI σ_10 3), σ_10)
  else
    lt (uA σ 30 (upd (sA σ 30) (0 : Int32).toNatClampNeg ((sA σ 30 (0 : Int32).toNatClampNeg) + 1))) fun σ_11 =>
    some ((-1), σ_11)
set_option maxHeartbeats 4000000 in
set_option maxRecDepth 20000 in
theorem c_BH_feed {l : Launch} {g : GX} {q : Nat → Nat} {x1 : Int32} {x2 : Int32} {x3 : Int32} {x4 : Int32} {x5 : Int32}  {σ : St} {r : Int32} {σ2 : St} (hf : f_BH_feed  x1 x2 x3 x4 x5 σ = some (r, σ2)) : KK l y_BH_feed prog_1_method_2_code 6 (some .int) 1 g (wX g q) σ [.ref (q 0), .int x1, .int x2, .int x3, .int x4, .int x5] (some (.int r)) (wX g q) σ2 := by
  refine KK_of (by decide) (Nat.le_of_ble_eq_true rfl) (fun p e s m below meth c A ls C w hl => ?_)
  have hl : lv_has ls 6 [(0, .ref (q 0)), (1, .int x1), (2, .int x2), (3, .int x3), (4, .int x4), (5, .int x5)] := hl
  obtain ⟨hx, hb, hml, hown, hts, hK, hA, hZ, hlocks, hr, hN⟩ := id C
  unfold f_BH_feed at hf
  refine lv_aload_n hx hb d_BH_feed_0 rfl (lv_at hl 0 rfl) ?_
  refine xg_0_tape C w k505 d_BH_feed_1 ?_
  refine xg_1_size C w k133 d_BH_feed_4 ?_
  refine lv_bipush (v := 20) hx hb d_BH_feed_7 (by decide) ?_
  refine lv_iadd hx hb d_BH_feed_9 ?_
  refine lv_sipush (v := 1600) hx hb d_BH_feed_10 (by decide) ?_
  refine lv_icmp_le (tgt := 28) hx hb d_BH_feed_13 (by decide) (fun cd => ?_) (fun cd => ?_)
  · have hf := it_e cd hf
    refine lv_aload_n hx hb d_BH_feed_28 rfl (lv_at hl 0 rfl) ?_
    refine xg_0_tape C w k505 d_BH_feed_29 ?_
    refine lv_iload_n hx hb d_BH_feed_32 rfl (lv_at hl 1 rfl) ?_
    obtain ⟨σ_2, h_1, hf⟩ := bp_e hf
    refine k_callV (As := [.int x1]) (rest := []) C w (c_Tape_add (q := q) h_1) cv_Tape_add k549 (xr_1 C w) (by decide) hl.1 rfl (by decide) d_BH_feed_33 (fun H locs w => ?_)
    show WK p l e s m _ below meth c 1 g (wX g q) A (some (.int r)) σ2 H locs (F0 m 36 ls [])
    refine lv_aload_n hx hb d_BH_feed_36 rfl (lv_at hl 0 rfl) ?_
    refine xg_0_tape C w k505 d_BH_feed_37 ?_
    refine lv_iload_n hx hb d_BH_feed_40 rfl (lv_at hl 2 rfl) ?_
    obtain ⟨σ_4, h_3, hf⟩ := bp_e hf
    refine k_callV (As := [.int x2]) (rest := []) C w (c_Tape_add (q := q) h_3) cv_Tape_add k549 (xr_1 C w) (by decide) hl.1 rfl (by decide) d_BH_feed_41 (fun H locs w => ?_)
    show WK p l e s m _ below meth c 1 g (wX g q) A (some (.int r)) σ2 H locs (F0 m 44 ls [])
    refine lv_aload_n hx hb d_BH_feed_44 rfl (lv_at hl 0 rfl) ?_
    refine xg_0_tape C w k505 d_BH_feed_45 ?_
    refine lv_iload_n hx hb d_BH_feed_48 rfl (lv_at hl 3 rfl) ?_
    obtain ⟨σ_6, h_5, hf⟩ := bp_e hf
    refine k_callV (As := [.int x3]) (rest := []) C w (c_Tape_add (q := q) h_5) cv_Tape_add k549 (xr_1 C w) (by decide) hl.1 rfl (by decide) d_BH_feed_49 (fun H locs w => ?_)
    show WK p l e s m _ below meth c 1 g (wX g q) A (some (.int r)) σ2 H locs (F0 m 52 ls [])
    refine lv_aload_n hx hb d_BH_feed_52 rfl (lv_at hl 0 rfl) ?_
    refine xg_0_tape C w k505 d_BH_feed_53 ?_
    refine lv_iload hx hb d_BH_feed_56 (lv_at hl 4 rfl) ?_
    obtain ⟨σ_8, h_7, hf⟩ := bp_e hf
    refine k_callV (As := [.int x4]) (rest := []) C w (c_Tape_add (q := q) h_7) cv_Tape_add k549 (xr_1 C w) (by decide) hl.1 rfl (by decide) d_BH_feed_58 (fun H locs w => ?_)
    show WK p l e s m _ below meth c 1 g (wX g q) A (some (.int r)) σ2 H locs (F0 m 61 ls [])
    refine lv_aload_n hx hb d_BH_feed_61 rfl (lv_at hl 0 rfl) ?_
    refine xg_0_tape C w k505 d_BH_feed_62 ?_
    refine lv_iload hx hb d_BH_feed_65 (lv_at hl 5 rfl) ?_
    obtain ⟨σ_10, h_9, hf⟩ := bp_e hf
    refine k_callV (As := [.int x5]) (rest := []) C w (c_Tape_add (q := q) h_9) cv_Tape_add k549 (xr_1 C w) (by decide) hl.1 rfl (by decide) d_BH_feed_67 (fun H locs w => ?_)
    show WK p l e s m _ below meth c 1 g (wX g q) A (some (.int r)) σ2 H locs (F0 m 70 ls [])
    refine lv_aload_n hx hb d_BH_feed_70 rfl (lv_at hl 0 rfl) ?_
    refine xg_0_tape C w k505 d_BH_feed_71 ?_
    refine xg_1_size C w k133 d_BH_feed_74 ?_
    obtain ⟨rfl, rfl⟩ := some2_e hf
    exact k_iret C w d_BH_feed_77
  · have hf := if_e cd hf
    refine lv_aload_n hx hb d_BH_feed_16 rfl (lv_at hl 0 rfl) ?_
    refine xg_0_refused C w k517 d_BH_feed_17 ?_
    refine lv_iconst (v := 0) hx hb d_BH_feed_20 (by decide) ?_
    refine lv_dup2_11 hx hb d_BH_feed_21 rfl rfl ?_
    refine xl_44 C w (by decide) d_BH_feed_22 ?_
    refine lv_iconst (v := 1) hx hb d_BH_feed_23 (by decide) ?_
    refine lv_iadd hx hb d_BH_feed_24 ?_
    refine xs_44 C w (by decide) d_BH_feed_25 (fun σ_11 H locs eσ_11 w => ?_)
    have hf := lt_e eσ_11 hf
    refine lv_iconst (v := (-1)) hx hb d_BH_feed_26 (by decide) ?_
    obtain ⟨rfl, rfl⟩ := some2_e hf
    exact k_iret C w d_BH_feed_27
def f_BH_end_15 (σ : St) : Option (Int32 × St) :=
  lt (uA σ 30 (upd (sA σ 30) (0 : Int32).toNatClampNeg ((sA σ 30 (0 : Int32).toNatClampNeg) + 1))) fun σ_1 =>
  some (0, σ_1)
def f_BH_end (x1 : Int32) (σ : St) : Option (Int32 × St) :=
  if x1 < 0 then
    f_BH_end_15 σ
  else
    if x1 ≤ (sI σ 3) then
      lt (uI σ 3 x1) fun σ_1 =>
      some (1, σ_1)
    else
      f_BH_end_15 σ
set_option maxHeartbeats 4000000 in
set_option maxRecDepth 20000 in
theorem t_BH_end_15 {r : Int32} {σ2 : St} (C : Cx g A p s m av meth c prog_1_method_3_code 2 "BellHammer" (some .boolean))  {σ : St} {H : Heap} {locs : List Loc} {ls : Array Slot} (hf : f_BH_end_15    σ = some (r, σ2)) (w : Wd g (wX g q) A s σ H locs) (hl : lv_has ls 2 [(0, .ref (q 0))]) : WK p l e s m av below meth c 0 g (wX g q) A (some (.int r)) σ2 H locs (F0 m 15 ls []) := by
  obtain ⟨hx, hb, hml, hown, hts, hK, hA, hZ, hlocks, hr, hN⟩ := id C
  unfold f_BH_end_15 at hf
  refine lv_aload_n hx hb d_BH_end_15 rfl (lv_at hl 0 rfl) ?_
  refine xg_0_refused C w k517 d_BH_end_16 ?_
  refine lv_iconst (v := 0) hx hb d_BH_end_19 (by decide) ?_
  refine lv_dup2_11 hx hb d_BH_end_20 rfl rfl ?_
  refine xl_44 C w (by decide) d_BH_end_21 ?_
  refine lv_iconst (v := 1) hx hb d_BH_end_22 (by decide) ?_
  refine lv_iadd hx hb d_BH_end_23 ?_
  refine xs_44 C w (by decide) d_BH_end_24 (fun σ_1 H locs eσ_1 w => ?_)
  have hf := lt_e eσ_1 hf
  refine lv_iconst (v := 0) hx hb d_BH_end_25 (by decide) ?_
  obtain ⟨rfl, rfl⟩ := some2_e hf
  exact k_zret C w (by decide) d_BH_end_26
set_option maxHeartbeats 4000000 in
set_option maxRecDepth 20000 in
theorem c_BH_end {l : Launch} {g : GX} {q : Nat → Nat} {x1 : Int32}  {σ : St} {r : Int32} {σ2 : St} (hf : f_BH_end  x1 σ = some (r, σ2)) : KK l y_BH_end prog_1_method_3_code 2 (some .boolean) 0 g (wX g q) σ [.ref (q 0), .int x1] (some (.int r)) (wX g q) σ2 := by
  refine KK_of (by decide) (Nat.le_of_ble_eq_true rfl) (fun p e s m below meth c A ls C w hl => ?_)
  have hl : lv_has ls 2 [(0, .ref (q 0)), (1, .int x1)] := hl
  obtain ⟨hx, hb, hml, hown, hts, hK, hA, hZ, hlocks, hr, hN⟩ := id C
  unfold f_BH_end at hf
  refine lv_iload_n hx hb d_BH_end_0 rfl (lv_at hl 1 rfl) ?_
  refine lv_if_lt (tgt := 15) hx hb d_BH_end_1 (by decide) (fun cd => ?_) (fun cd => ?_)
  · have hf := it_e cd hf
    exact t_BH_end_15 C  hf w (lv_sub hl [0] rfl)
  · have hf := if_e cd hf
    refine lv_iload_n hx hb d_BH_end_4 rfl (lv_at hl 1 rfl) ?_
    refine lv_aload_n hx hb d_BH_end_5 rfl (lv_at hl 0 rfl) ?_
    refine xg_0_tape C w k505 d_BH_end_6 ?_
    refine xg_1_size C w k133 d_BH_end_9 ?_
    refine lv_icmp_le (tgt := 27) hx hb d_BH_end_12 (by decide) (fun cd => ?_) (fun cd => ?_)
    · have hf := it_e cd hf
      refine lv_aload_n hx hb d_BH_end_27 rfl (lv_at hl 0 rfl) ?_
      refine xg_0_tape C w k505 d_BH_end_28 ?_
      refine lv_iload_n hx hb d_BH_end_31 rfl (lv_at hl 1 rfl) ?_
      refine xp_1_size C w k133 d_BH_end_32 (fun σ_1 H locs eσ_1 w => ?_)
      have hf := lt_e eσ_1 hf
      refine lv_iconst (v := 1) hx hb d_BH_end_35 (by decide) ?_
      obtain ⟨rfl, rfl⟩ := some2_e hf
      exact k_zret C w (by decide) d_BH_end_36
    · have hf := if_e cd hf
      exact t_BH_end_15 C  hf w (lv_sub hl [0] rfl)
def f_BH_isWithin (x0 : Int32) (x1 : Int32) (σ : St) : Option (Int32) :=
  if x0 < 0 then
    some 0
  else
    if x1 < x0 then
      some 0
    else
      some 1
set_option maxHeartbeats 4000000 in
set_option maxRecDepth 20000 in
theorem c_BH_isWithin {l : Launch} {g : GX} {q : Nat → Nat} {x0 : Int32} {x1 : Int32}  {σ : St} {r : Int32} (hf : f_BH_isWithin  x0 x1 σ = some r) : KK l y_BH_isWithin prog_1_method_38_code 2 (some .boolean) 0 g (wX g q) σ [.int x0, .int x1] (some (.int r)) (wX g q) σ := by
  refine KK_of (by decide) (Nat.le_of_ble_eq_true rfl) (fun p e s m below meth c A ls C w hl => ?_)
  have hl : lv_has ls 2 [(0, .int x0), (1, .int x1)] := hl
  obtain ⟨hx, hb, hml, hown, hts, hK, hA, hZ, hlocks, hr, hN⟩ := id C
  unfold f_BH_isWithin at hf
  refine lv_iload_n hx hb d_BH_isWithin_0 rfl (lv_at hl 0 rfl) ?_
  refine lv_if_lt (tgt := 13) hx hb d_BH_isWithin_1 (by decide) (fun cd => ?_) (fun cd => ?_)
  · have hf := it_e cd hf
    refine lv_iconst (v := 0) hx hb d_BH_isWithin_13 (by decide) ?_
    cases some_e hf
    exact k_zret C w (by decide) d_BH_isWithin_14
  · have hf := if_e cd hf
    refine lv_iload_n hx hb d_BH_isWithin_4 rfl (lv_at hl 0 rfl) ?_
    refine lv_iload_n hx hb d_BH_isWithin_5 rfl (lv_at hl 1 rfl) ?_
    refine lv_icmp_gt (tgt := 13) hx hb d_BH_isWithin_6 (by decide) (fun cd => ?_) (fun cd => ?_)
    · have hf := it_e cd hf
      refine lv_iconst (v := 0) hx hb d_BH_isWithin_13 (by decide) ?_
      cases some_e hf
      exact k_zret C w (by decide) d_BH_isWithin_14
    · have hf := if_e cd hf
      refine lv_iconst (v := 1) hx hb d_BH_isWithin_9 (by decide) ?_
      refine lv_goto (tgt := 14) hx hb d_BH_isWithin_10 (by decide) ?_
      cases some_e hf
      exact k_zret C w (by decide) d_BH_isWithin_14
def f_BH_isOff (x0 : Int32) (σ : St) : Option (Int32) :=
  bp (f_BH_isWithin x0 9 σ) fun r_2 =>
  gd (isB r_2) <|
  some r_2
set_option maxHeartbeats 4000000 in
set_option maxRecDepth 20000 in
theorem c_BH_isOff {l : Launch} {g : GX} {q : Nat → Nat} {x0 : Int32}  {σ : St} {r : Int32} (hf : f_BH_isOff  x0 σ = some r) : KK l y_BH_isOff prog_1_method_37_code 1 (some .boolean) 1 g (wX g q) σ [.int x0] (some (.int r)) (wX g q) σ := by
  refine KK_of (by decide) (Nat.le_of_ble_eq_true rfl) (fun p e s m below meth c A ls C w hl => ?_)
  have hl : lv_has ls 1 [(0, .int x0)] := hl
  obtain ⟨hx, hb, hml, hown, hts, hK, hA, hZ, hlocks, hr, hN⟩ := id C
  unfold f_BH_isOff at hf
  refine lv_iload_n hx hb d_BH_isOff_0 rfl (lv_at hl 0 rfl) ?_
  refine lv_bipush (v := 9) hx hb d_BH_isOff_1 (by decide) ?_
  obtain ⟨r_2, h_1, hf⟩ := bp_e hf
  refine k_callS (As := [.int x0, .int 9]) (rest := []) C w (c_BH_isWithin (q := q) h_1) cv_BH_isWithin k757 (by decide) hl.1 rfl (by decide) d_BH_isOff_3 (fun H locs w => ?_)
  show WK p l e s m _ below meth c 1 g (wX g q) A (some (.int r)) σ H locs (F0 m 6 ls [.int r_2])
  obtain ⟨g_3, hf⟩ := gd_e hf
  cases some_e hf
  exact k_zret C w g_3 d_BH_isOff_6
def f_BH_rise (x0 : Int32) (x1 : Int32) (x2 : Int32) (σ : St) : Option (Int32) :=
  lt (((x0 * (100 - (10 * x1))) / 100)) fun x_1 =>
  some ((x_1 * (100 - x2)) / 100)
set_option maxHeartbeats 4000000 in
set_option maxRecDepth 20000 in
theorem c_BH_rise {l : Launch} {g : GX} {q : Nat → Nat} {x0 : Int32} {x1 : Int32} {x2 : Int32}  {σ : St} {r : Int32} (hf : f_BH_rise  x0 x1 x2 σ = some r) : KK l y_BH_rise prog_1_method_39_code 4 (some .int) 0 g (wX g q) σ [.int x0, .int x1, .int x2] (some (.int r)) (wX g q) σ := by
  refine KK_of (by decide) (Nat.le_of_ble_eq_true rfl) (fun p e s m below meth c A ls C w hl => ?_)
  have hl : lv_has ls 4 [(0, .int x0), (1, .int x1), (2, .int x2)] := hl
  obtain ⟨hx, hb, hml, hown, hts, hK, hA, hZ, hlocks, hr, hN⟩ := id C
  unfold f_BH_rise at hf
  refine lv_iload_n hx hb d_BH_rise_0 rfl (lv_at hl 0 rfl) ?_
  refine lv_bipush (v := 100) hx hb d_BH_rise_1 (by decide) ?_
  refine lv_bipush (v := 10) hx hb d_BH_rise_3 (by decide) ?_
  refine lv_iload_n hx hb d_BH_rise_5 rfl (lv_at hl 1 rfl) ?_
  refine lv_imul hx hb d_BH_rise_6 ?_
  refine lv_isub hx hb d_BH_rise_7 ?_
  refine lv_imul hx hb d_BH_rise_8 ?_
  refine lv_bipush (v := 100) hx hb d_BH_rise_9 (by decide) ?_
  refine lv_idiv hx hb d_BH_rise_11 (by decide) ?_
  refine lv_topi (fun x_1 ex_1 => ?_)
  have hf := lt_e ex_1 hf
  refine lv_istore_n (lv' := [(3, .int x_1), (0, .int x0), (1, .int x1), (2, .int x2)]) hx hb d_BH_rise_12 rfl hl (by decide) rfl (fun ls hl => ?_)
  refine lv_iload_n hx hb d_BH_rise_13 rfl (lv_at hl 0 rfl) ?_
  refine lv_bipush (v := 100) hx hb d_BH_rise_14 (by decide) ?_
  refine lv_iload_n hx hb d_BH_rise_16 rfl (lv_at hl 3 rfl) ?_
  refine lv_isub hx hb d_BH_rise_17 ?_
  refine lv_imul hx hb d_BH_rise_18 ?_
  refine lv_bipush (v := 100) hx hb d_BH_rise_19 (by decide) ?_
  refine lv_idiv hx hb d_BH_rise_21 (by decide) ?_
  cases some_e hf
  exact k_iret C w d_BH_rise_22
def f_BH_wouldRing_19 (t0 : Int32) (t1 : Int32) (t2 : Int32) (σ : St) : Option (Int32) :=
  bp (f_BH_rise t2 t1 t0 σ) fun r_2 =>
  if r_2 < (sA σ 9 (0 : Int32).toNatClampNeg) then
    some 0
  else
    some 1
def f_BH_wouldRing (x1 : Int32) (x2 : Int32) (x3 : Int32) (σ : St) : Option (Int32) :=
  if x3 = 0 then
    f_BH_wouldRing_19 0 x2 x1 σ
  else
    f_BH_wouldRing_19 (sA σ 9 (1 : Int32).toNatClampNeg) x2 x1 σ
set_option maxHeartbeats 4000000 in
set_option maxRecDepth 20000 in
theorem t_BH_wouldRing_19 {r : Int32} {σ : St} (C : Cx g A p s m av meth c prog_1_method_40_code 4 "BellHammer" (some .boolean))  {t0 : Int32} {t1 : Int32} {t2 : Int32} {H : Heap} {locs : List Loc} {ls : Array Slot} (hf : f_BH_wouldRing_19   t0 t1 t2 σ = some r) (w : Wd g (wX g q) A s σ H locs) (hl : lv_has ls 4 [(0, .ref (q 0))]) : WK p l e s m av below meth c 1 g (wX g q) A (some (.int r)) σ H locs (F0 m 19 ls [.int t0, .int t1, .int t2]) := by
  obtain ⟨hx, hb, hml, hown, hts, hK, hA, hZ, hlocks, hr, hN⟩ := id C
  unfold f_BH_wouldRing_19 at hf
  obtain ⟨r_2, h_1, hf⟩ := bp_e hf
  refine k_callS (As := [.int t2, .int t1, .int t0]) (rest := []) C w (c_BH_rise (q := q) h_1) cv_BH_rise k785 (by decide) hl.1 rfl (by decide) d_BH_wouldRing_19 (fun H locs w => ?_)
  show WK p l e s m av below meth c 1 g (wX g q) A (some (.int r)) σ H locs (F0 m 22 ls [.int r_2])
  refine lv_aload_n hx hb d_BH_wouldRing_22 rfl (lv_at hl 0 rfl) ?_
  refine xg_0_book C w k507 d_BH_wouldRing_23 ?_
  refine xg_14_now C w k342 d_BH_wouldRing_26 ?_
  refine lv_iconst (v := 0) hx hb d_BH_wouldRing_29 (by decide) ?_
  refine xl_15 C w (by decide) d_BH_wouldRing_30 ?_
  refine lv_icmp_lt (tgt := 38) hx hb d_BH_wouldRing_31 (by decide) (fun cd => ?_) (fun cd => ?_)
  · have hf := it_e cd hf
    refine lv_iconst (v := 0) hx hb d_BH_wouldRing_38 (by decide) ?_
    cases some_e hf
    exact k_zret C w (by decide) d_BH_wouldRing_39
  · have hf := if_e cd hf
    refine lv_iconst (v := 1) hx hb d_BH_wouldRing_34 (by decide) ?_
    refine lv_goto (tgt := 39) hx hb d_BH_wouldRing_35 (by decide) ?_
    cases some_e hf
    exact k_zret C w (by decide) d_BH_wouldRing_39
set_option maxHeartbeats 4000000 in
set_option maxRecDepth 20000 in
theorem c_BH_wouldRing {l : Launch} {g : GX} {q : Nat → Nat} {x1 : Int32} {x2 : Int32} {x3 : Int32}  {σ : St} {r : Int32} (hf : f_BH_wouldRing  x1 x2 x3 σ = some r) : KK l y_BH_wouldRing prog_1_method_40_code 4 (some .boolean) 1 g (wX g q) σ [.ref (q 0), .int x1, .int x2, .int x3] (some (.int r)) (wX g q) σ := by
  refine KK_of (by decide) (Nat.le_of_ble_eq_true rfl) (fun p e s m below meth c A ls C w hl => ?_)
  have hl : lv_has ls 4 [(0, .ref (q 0)), (1, .int x1), (2, .int x2), (3, .int x3)] := hl
  obtain ⟨hx, hb, hml, hown, hts, hK, hA, hZ, hlocks, hr, hN⟩ := id C
  unfold f_BH_wouldRing at hf
  refine lv_iload_n hx hb d_BH_wouldRing_0 rfl (lv_at hl 1 rfl) ?_
  refine lv_iload_n hx hb d_BH_wouldRing_1 rfl (lv_at hl 2 rfl) ?_
  refine lv_iload_n hx hb d_BH_wouldRing_2 rfl (lv_at hl 3 rfl) ?_
  refine lv_if_eq (tgt := 18) hx hb d_BH_wouldRing_3 (by decide) (fun cd => ?_) (fun cd => ?_)
  · have hf := it_e cd hf
    refine lv_iconst (v := 0) hx hb d_BH_wouldRing_18 (by decide) ?_
    exact t_BH_wouldRing_19 C  hf w (lv_sub hl [0] rfl)
  · have hf := if_e cd hf
    refine lv_aload_n hx hb d_BH_wouldRing_6 rfl (lv_at hl 0 rfl) ?_
    refine xg_0_book C w k507 d_BH_wouldRing_7 ?_
    refine xg_14_now C w k342 d_BH_wouldRing_10 ?_
    refine lv_iconst (v := 1) hx hb d_BH_wouldRing_13 (by decide) ?_
    refine xl_15 C w (by decide) d_BH_wouldRing_14 ?_
    refine lv_goto (tgt := 19) hx hb d_BH_wouldRing_15 (by decide) ?_
    exact t_BH_wouldRing_19 C  hf w (lv_sub hl [0] rfl)
def f_BH_hard_11b (k11 : Int32 → Int32 → Int32 → St → Option (Int32)) (x1 : Int32) (x2 : Int32) (x3 : Int32) (σ : St) : Option (Int32) :=
  if 99 < x3 then
    some (-1)
  else
    bp (f_BH_wouldRing x3 x1 x2 σ) fun r_2 =>
    if r_2 = 0 then
      lt ((x3 + 1)) fun x_3 =>
      k11 x1 x2 x_3 σ
    else
      some x3
def f_BH_hard_11 : Nat → Int32 → Int32 → Int32 → St → Option (Int32)
  | 0 => fun _ _ _ _ => none
  | n + 1 => f_BH_hard_11b   (f_BH_hard_11   n)
def f_BH_hard (x1 : Int32) (x2 : Int32) (σ : St) : Option (Int32) :=
  bp (f_BH_isOff x1 σ) fun r_2 =>
  if r_2 = 0 then
    some (-1)
  else
    f_BH_hard_11 FU x1 x2 1 σ
set_option maxHeartbeats 4000000 in
set_option maxRecDepth 20000 in
theorem t_BH_hard_11b {r : Int32} {σ : St} (C : Cx g A p s m av meth c prog_1_method_12_code 4 "BellHammer" (some .int)) {k11 : Int32 → Int32 → Int32 → St → Option (Int32)} (hk11 : ∀ (x1 : Int32) (x2 : Int32) (x3 : Int32) (H : Heap) (locs : List Loc) (ls : Array Slot), k11 x1 x2 x3 σ = some r → Wd g (wX g q) A s σ H locs → lv_has ls 4 [(0, .ref (q 0)), (1, .int x1), (2, .int x2), (3, .int x3)] → WK p l e s m av below meth c 2 g (wX g q) A (some (.int r)) σ H locs (F0 m 11 ls []))  {x1 : Int32} {x2 : Int32} {x3 : Int32} {H : Heap} {locs : List Loc} {ls : Array Slot} (hf : f_BH_hard_11b  k11 x1 x2 x3 σ = some r) (w : Wd g (wX g q) A s σ H locs) (hl : lv_has ls 4 [(0, .ref (q 0)), (1, .int x1), (2, .int x2), (3, .int x3)]) : WK p l e s m av below meth c 2 g (wX g q) A (some (.int r)) σ H locs (F0 m 11 ls []) := by
  obtain ⟨hx, hb, hml, hown, hts, hK, hA, hZ, hlocks, hr, hN⟩ := id C
  unfold f_BH_hard_11b at hf
  refine lv_iload_n hx hb d_BH_hard_11 rfl (lv_at hl 3 rfl) ?_
  refine lv_bipush (v := 99) hx hb d_BH_hard_12 (by decide) ?_
  refine lv_icmp_gt (tgt := 35) hx hb d_BH_hard_14 (by decide) (fun cd => ?_) (fun cd => ?_)
  · have hf := it_e cd hf
    refine lv_iconst (v := (-1)) hx hb d_BH_hard_35 (by decide) ?_
    cases some_e hf
    exact k_iret C w d_BH_hard_36
  · have hf := if_e cd hf
    refine lv_aload_n hx hb d_BH_hard_17 rfl (lv_at hl 0 rfl) ?_
    refine lv_iload_n hx hb d_BH_hard_18 rfl (lv_at hl 3 rfl) ?_
    refine lv_iload_n hx hb d_BH_hard_19 rfl (lv_at hl 1 rfl) ?_
    refine lv_iload_n hx hb d_BH_hard_20 rfl (lv_at hl 2 rfl) ?_
    obtain ⟨r_2, h_1, hf⟩ := bp_e hf
    refine k_callV (As := [.int x3, .int x1, .int x2]) (rest := []) C w (c_BH_wouldRing (q := q) h_1) cv_BH_wouldRing k781 (xr_0 C w) (by decide) hl.1 rfl (by decide) d_BH_hard_21 (fun H locs w => ?_)
    show WK p l e s m av below meth c 2 g (wX g q) A (some (.int r)) σ H locs (F0 m 24 ls [.int r_2])
    refine lv_if_eq (tgt := 29) hx hb d_BH_hard_24 (by decide) (fun cd => ?_) (fun cd => ?_)
    · have hf := it_e cd hf
      obtain ⟨x_3, ex_3⟩ : ∃ y : Int32, y = (x3 + 1) := ⟨_, rfl⟩
      have hf := lt_e ex_3 hf
      refine lv_iinc (v := x_3) (lv' := [(3, .int x_3), (0, .ref (q 0)), (1, .int x1), (2, .int x2)]) hx hb d_BH_hard_29 hl (k := 3) rfl (by rw [ex_3]; rfl) (by decide) rfl (fun ls hl => ?_)
      refine lv_goto (tgt := 11) hx hb d_BH_hard_32 (by decide) ?_
      exact hk11 x1 x2 x_3  _ _ _ hf w (lv_sub hl [1, 2, 3, 0] rfl)
    · have hf := if_e cd hf
      refine lv_iload_n hx hb d_BH_hard_27 rfl (lv_at hl 3 rfl) ?_
      cases some_e hf
      exact k_iret C w d_BH_hard_28
set_option maxHeartbeats 4000000 in
set_option maxRecDepth 20000 in
theorem t_BH_hard_11 {r : Int32} {σ : St} (C : Cx g A p s m av meth c prog_1_method_12_code 4 "BellHammer" (some .int))  : ∀ (n : Nat) (x1 : Int32) (x2 : Int32) (x3 : Int32) (H : Heap) (locs : List Loc) (ls : Array Slot), f_BH_hard_11   n x1 x2 x3 σ = some r → Wd g (wX g q) A s σ H locs → lv_has ls 4 [(0, .ref (q 0)), (1, .int x1), (2, .int x2), (3, .int x3)] → WK p l e s m av below meth c 2 g (wX g q) A (some (.int r)) σ H locs (F0 m 11 ls []) := by
  intro n
  induction n with
  | zero => intro x1 x2 x3 H locs ls hf; exact absurd hf (by intro z; cases z)
  | succ n ih => intro x1 x2 x3 H locs ls hf w hl; exact t_BH_hard_11b C  ih hf w hl
set_option maxHeartbeats 4000000 in
set_option maxRecDepth 20000 in
theorem c_BH_hard {l : Launch} {g : GX} {q : Nat → Nat} {x1 : Int32} {x2 : Int32}  {σ : St} {r : Int32} (hf : f_BH_hard  x1 x2 σ = some r) : KK l y_BH_hard prog_1_method_12_code 4 (some .int) 2 g (wX g q) σ [.ref (q 0), .int x1, .int x2] (some (.int r)) (wX g q) σ := by
  refine KK_of (by decide) (Nat.le_of_ble_eq_true rfl) (fun p e s m below meth c A ls C w hl => ?_)
  have hl : lv_has ls 4 [(0, .ref (q 0)), (1, .int x1), (2, .int x2)] := hl
  obtain ⟨hx, hb, hml, hown, hts, hK, hA, hZ, hlocks, hr, hN⟩ := id C
  unfold f_BH_hard at hf
  refine lv_iload_n hx hb d_BH_hard_0 rfl (lv_at hl 1 rfl) ?_
  obtain ⟨r_2, h_1, hf⟩ := bp_e hf
  refine k_callS (As := [.int x1]) (rest := []) C w (c_BH_isOff (q := q) h_1) cv_BH_isOff k754 (by decide) hl.1 rfl (by decide) d_BH_hard_1 (fun H locs w => ?_)
  show WK p l e s m _ below meth c 2 g (wX g q) A (some (.int r)) σ H locs (F0 m 4 ls [.int r_2])
  refine lv_if_ne (tgt := 9) hx hb d_BH_hard_4 (by decide) (fun cd => ?_) (fun cd => ?_)
  · have hf := if_e cd hf
    refine lv_iconst (v := 1) hx hb d_BH_hard_9 (by decide) ?_
    refine lv_istore_n (lv' := [(3, .int 1), (0, .ref (q 0)), (1, .int x1), (2, .int x2)]) hx hb d_BH_hard_10 rfl hl (by decide) rfl (fun ls hl => ?_)
    exact t_BH_hard_11 C  FU x1 x2 1  _ _ _ hf w (lv_sub hl [1, 2, 3, 0] rfl)
  · have hf := it_e cd hf
    refine lv_iconst (v := (-1)) hx hb d_BH_hard_7 (by decide) ?_
    cases some_e hf
    exact k_iret C w d_BH_hard_8
def f_BH_wide_16b (k16 : Int32 → Int32 → Int32 → St → Option (Int32)) (x1 : Int32) (x2 : Int32) (x3 : Int32) (σ : St) : Option (Int32) :=
  if x3 < 0 then
    some (-1)
  else
    bp (f_BH_wouldRing x1 x3 x2 σ) fun r_2 =>
    if r_2 = 0 then
      lt ((x3 + (-1))) fun x_3 =>
      k16 x1 x2 x_3 σ
    else
      some x3
def f_BH_wide_16 : Nat → Int32 → Int32 → Int32 → St → Option (Int32)
  | 0 => fun _ _ _ _ => none
  | n + 1 => f_BH_wide_16b   (f_BH_wide_16   n)
def f_BH_wide (x1 : Int32) (x2 : Int32) (σ : St) : Option (Int32) :=
  if x1 < 1 then
    some (-1)
  else
    if x1 ≤ 99 then
      f_BH_wide_16 FU x1 x2 9 σ
    else
      some (-1)
set_option maxHeartbeats 4000000 in
set_option maxRecDepth 20000 in
theorem t_BH_wide_16b {r : Int32} {σ : St} (C : Cx g A p s m av meth c prog_1_method_13_code 4 "BellHammer" (some .int)) {k16 : Int32 → Int32 → Int32 → St → Option (Int32)} (hk16 : ∀ (x1 : Int32) (x2 : Int32) (x3 : Int32) (H : Heap) (locs : List Loc) (ls : Array Slot), k16 x1 x2 x3 σ = some r → Wd g (wX g q) A s σ H locs → lv_has ls 4 [(0, .ref (q 0)), (1, .int x1), (2, .int x2), (3, .int x3)] → WK p l e s m av below meth c 2 g (wX g q) A (some (.int r)) σ H locs (F0 m 16 ls []))  {x1 : Int32} {x2 : Int32} {x3 : Int32} {H : Heap} {locs : List Loc} {ls : Array Slot} (hf : f_BH_wide_16b  k16 x1 x2 x3 σ = some r) (w : Wd g (wX g q) A s σ H locs) (hl : lv_has ls 4 [(0, .ref (q 0)), (1, .int x1), (2, .int x2), (3, .int x3)]) : WK p l e s m av below meth c 2 g (wX g q) A (some (.int r)) σ H locs (F0 m 16 ls []) := by
  obtain ⟨hx, hb, hml, hown, hts, hK, hA, hZ, hlocks, hr, hN⟩ := id C
  unfold f_BH_wide_16b at hf
  refine lv_iload_n hx hb d_BH_wide_16 rfl (lv_at hl 3 rfl) ?_
  refine lv_if_lt (tgt := 38) hx hb d_BH_wide_17 (by decide) (fun cd => ?_) (fun cd => ?_)
  · have hf := it_e cd hf
    refine lv_iconst (v := (-1)) hx hb d_BH_wide_38 (by decide) ?_
    cases some_e hf
    exact k_iret C w d_BH_wide_39
  · have hf := if_e cd hf
    refine lv_aload_n hx hb d_BH_wide_20 rfl (lv_at hl 0 rfl) ?_
    refine lv_iload_n hx hb d_BH_wide_21 rfl (lv_at hl 1 rfl) ?_
    refine lv_iload_n hx hb d_BH_wide_22 rfl (lv_at hl 3 rfl) ?_
    refine lv_iload_n hx hb d_BH_wide_23 rfl (lv_at hl 2 rfl) ?_
    obtain ⟨r_2, h_1, hf⟩ := bp_e hf
    refine k_callV (As := [.int x1, .int x3, .int x2]) (rest := []) C w (c_BH_wouldRing (q := q) h_1) cv_BH_wouldRing k781 (xr_0 C w) (by decide) hl.1 rfl (by decide) d_BH_wide_24 (fun H locs w => ?_)
    show WK p l e s m av below meth c 2 g (wX g q) A (some (.int r)) σ H locs (F0 m 27 ls [.int r_2])
    refine lv_if_eq (tgt := 32) hx hb d_BH_wide_27 (by decide) (fun cd => ?_) (fun cd => ?_)
    · have hf := it_e cd hf
      obtain ⟨x_3, ex_3⟩ : ∃ y : Int32, y = (x3 + (-1)) := ⟨_, rfl⟩
      have hf := lt_e ex_3 hf
      refine lv_iinc (v := x_3) (lv' := [(3, .int x_3), (0, .ref (q 0)), (1, .int x1), (2, .int x2)]) hx hb d_BH_wide_32 hl (k := 3) rfl (by rw [ex_3]; rfl) (by decide) rfl (fun ls hl => ?_)
      refine lv_goto (tgt := 16) hx hb d_BH_wide_35 (by decide) ?_
      exact hk16 x1 x2 x_3  _ _ _ hf w (lv_sub hl [1, 2, 3, 0] rfl)
    · have hf := if_e cd hf
      refine lv_iload_n hx hb d_BH_wide_30 rfl (lv_at hl 3 rfl) ?_
      cases some_e hf
      exact k_iret C w d_BH_wide_31
set_option maxHeartbeats 4000000 in
set_option maxRecDepth 20000 in
theorem t_BH_wide_16 {r : Int32} {σ : St} (C : Cx g A p s m av meth c prog_1_method_13_code 4 "BellHammer" (some .int))  : ∀ (n : Nat) (x1 : Int32) (x2 : Int32) (x3 : Int32) (H : Heap) (locs : List Loc) (ls : Array Slot), f_BH_wide_16   n x1 x2 x3 σ = some r → Wd g (wX g q) A s σ H locs → lv_has ls 4 [(0, .ref (q 0)), (1, .int x1), (2, .int x2), (3, .int x3)] → WK p l e s m av below meth c 2 g (wX g q) A (some (.int r)) σ H locs (F0 m 16 ls []) := by
  intro n
  induction n with
  | zero => intro x1 x2 x3 H locs ls hf; exact absurd hf (by intro z; cases z)
  | succ n ih => intro x1 x2 x3 H locs ls hf w hl; exact t_BH_wide_16b C  ih hf w hl
set_option maxHeartbeats 4000000 in
set_option maxRecDepth 20000 in
theorem c_BH_wide {l : Launch} {g : GX} {q : Nat → Nat} {x1 : Int32} {x2 : Int32}  {σ : St} {r : Int32} (hf : f_BH_wide  x1 x2 σ = some r) : KK l y_BH_wide prog_1_method_13_code 4 (some .int) 2 g (wX g q) σ [.ref (q 0), .int x1, .int x2] (some (.int r)) (wX g q) σ := by
  refine KK_of (by decide) (Nat.le_of_ble_eq_true rfl) (fun p e s m below meth c A ls C w hl => ?_)
  have hl : lv_has ls 4 [(0, .ref (q 0)), (1, .int x1), (2, .int x2)] := hl
  obtain ⟨hx, hb, hml, hown, hts, hK, hA, hZ, hlocks, hr, hN⟩ := id C
  unfold f_BH_wide at hf
  refine lv_iload_n hx hb d_BH_wide_0 rfl (lv_at hl 1 rfl) ?_
  refine lv_iconst (v := 1) hx hb d_BH_wide_1 (by decide) ?_
  refine lv_icmp_lt (tgt := 11) hx hb d_BH_wide_2 (by decide) (fun cd => ?_) (fun cd => ?_)
  · have hf := it_e cd hf
    refine lv_iconst (v := (-1)) hx hb d_BH_wide_11 (by decide) ?_
    cases some_e hf
    exact k_iret C w d_BH_wide_12
  · have hf := if_e cd hf
    refine lv_iload_n hx hb d_BH_wide_5 rfl (lv_at hl 1 rfl) ?_
    refine lv_bipush (v := 99) hx hb d_BH_wide_6 (by decide) ?_
    refine lv_icmp_le (tgt := 13) hx hb d_BH_wide_8 (by decide) (fun cd => ?_) (fun cd => ?_)
    · have hf := it_e cd hf
      refine lv_bipush (v := 9) hx hb d_BH_wide_13 (by decide) ?_
      refine lv_istore_n (lv' := [(3, .int 9), (0, .ref (q 0)), (1, .int x1), (2, .int x2)]) hx hb d_BH_wide_15 rfl hl (by decide) rfl (fun ls hl => ?_)
      exact t_BH_wide_16 C  FU x1 x2 9  _ _ _ hf w (lv_sub hl [1, 2, 3, 0] rfl)
    · have hf := if_e cd hf
      refine lv_iconst (v := (-1)) hx hb d_BH_wide_11 (by decide) ?_
      cases some_e hf
      exact k_iret C w d_BH_wide_12
