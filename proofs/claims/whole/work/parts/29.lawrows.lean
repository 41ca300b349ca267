theorem six {i L k : Nat} (h : i + 6 ≤ L) (hL : L ≤ 3072) (hk : k < 6) : vp_in (nI i + nI k) L := by
  rw [nI_add]
  exact vp_in_nI (by omega) (by omega)
theorem c_BH_fair {l : Launch} {g : GX} {q : Nat → Nat} {σ : St} {r : Int32} {σ2 : St} (hf : f_BH_fair σ = some (r, σ2)) : ∃ q2 : Nat → Nat, q2 0 = q 0 ∧ KK l y_BH_fair prog_1_method_4_code 3 (some .int) 81 g (wX g q) σ [.ref (q 0)] (some (.int r)) (wX g q2) σ2 := by
  have h := hf
  unfold f_BH_fair at h
  obtain ⟨r1, σ1, h1, -⟩ := bd_e h
  by_cases hr : r1 = 0
  · exact ⟨qt q, rfl, c_BH_fairA (fun a b hab => by rw [h1] at hab; cases hab; exact hr) hf⟩
  · exact ⟨qs (qt q), rfl, c_BH_fairB (fun a b hab => by rw [h1] at hab; cases hab; exact hr) hf⟩
theorem k547 : Jvm.Cond.methodLink "BellHammerLaw" (13 : Nat) ({ cls := "BellHammer", name := "feed", desc := "(IIIII)I" } : Jvm.MethodName) ∈ tb := sub2 (List.mem_of_getElem? (l := tables_1_2) (i := 207) rfl) rfl
theorem k555 : Jvm.Cond.methodLink "BellHammerLaw" (18 : Nat) ({ cls := "BellHammer", name := "end", desc := "(I)Z" } : Jvm.MethodName) ∈ tb := sub2 (List.mem_of_getElem? (l := tables_1_2) (i := 215) rfl) rfl
theorem k559 : Jvm.Cond.methodLink "BellHammerLaw" (23 : Nat) ({ cls := "BellHammer", name := "fair", desc := "()I" } : Jvm.MethodName) ∈ tb := sub2 (List.mem_of_getElem? (l := tables_1_2) (i := 219) rfl) rfl
theorem k712 : Jvm.Cond.methodLink "BellHammerLaw" (28 : Nat) ({ cls := "BellHammer", name := "fault", desc := "(I)I" } : Jvm.MethodName) ∈ tb := sub3 (List.mem_of_getElem? (l := tables_1_3) (i := 132) rfl) rfl
theorem k716 : Jvm.Cond.methodLink "BellHammerLaw" (33 : Nat) ({ cls := "BellHammer", name := "has", desc := "(I)I" } : Jvm.MethodName) ∈ tb := sub3 (List.mem_of_getElem? (l := tables_1_3) (i := 136) rfl) rfl
theorem k725 : Jvm.Cond.methodLink "BellHammerLaw" (37 : Nat) ({ cls := "BellHammer", name := "letter", desc := "(III)I" } : Jvm.MethodName) ∈ tb := sub3 (List.mem_of_getElem? (l := tables_1_3) (i := 145) rfl) rfl
theorem k740 : Jvm.Cond.methodLink "BellHammerLaw" (42 : Nat) ({ cls := "BellHammer", name := "trier", desc := "(II)I" } : Jvm.MethodName) ∈ tb := sub3 (List.mem_of_getElem? (l := tables_1_3) (i := 160) rfl) rfl
theorem k748 : Jvm.Cond.methodLink "BellHammerLaw" (47 : Nat) ({ cls := "BellHammer", name := "mark", desc := "(I)I" } : Jvm.MethodName) ∈ tb := sub3 (List.mem_of_getElem? (l := tables_1_3) (i := 168) rfl) rfl
theorem k752 : Jvm.Cond.methodLink "BellHammerLaw" (51 : Nat) ({ cls := "BellHammer", name := "past", desc := "(I)I" } : Jvm.MethodName) ∈ tb := sub3 (List.mem_of_getElem? (l := tables_1_3) (i := 172) rfl) rfl
theorem k760 : Jvm.Cond.methodLink "BellHammerLaw" (55 : Nat) ({ cls := "BellHammer", name := "high", desc := "(IIIZ)I" } : Jvm.MethodName) ∈ tb := sub3 (List.mem_of_getElem? (l := tables_1_3) (i := 180) rfl) rfl
theorem k787 : Jvm.Cond.methodLink "BellHammerLaw" (60 : Nat) ({ cls := "BellHammer", name := "hard", desc := "(IZ)I" } : Jvm.MethodName) ∈ tb := sub3 (List.mem_of_getElem? (l := tables_1_3) (i := 207) rfl) rfl
theorem k796 : Jvm.Cond.methodLink "BellHammerLaw" (65 : Nat) ({ cls := "BellHammer", name := "wide", desc := "(IZ)I" } : Jvm.MethodName) ∈ tb := sub3 (List.mem_of_getElem? (l := tables_1_3) (i := 216) rfl) rfl
theorem k800 : Jvm.Cond.methodLink "BellHammerLaw" (69 : Nat) ({ cls := "BellHammer", name := "leans", desc := "(IIIII)I" } : Jvm.MethodName) ∈ tb := sub3 (List.mem_of_getElem? (l := tables_1_3) (i := 220) rfl) rfl
theorem k837 : Jvm.Cond.methodLink "BellHammerLaw" (73 : Nat) ({ cls := "BellHammer", name := "tree", desc := "(II)I" } : Jvm.MethodName) ∈ tb := sub4 (List.mem_of_getElem? (l := tables_1_4) (i := 17) rfl) rfl
theorem k890 : Jvm.Cond.methodLink "BellHammerLaw" (77 : Nat) ({ cls := "BellHammer", name := "best", desc := "(I)I" } : Jvm.MethodName) ∈ tb := sub4 (List.mem_of_getElem? (l := tables_1_4) (i := 70) rfl) rfl
theorem k924 : Jvm.Cond.methodLink "BellHammerLaw" (81 : Nat) ({ cls := "BellHammer", name := "honest", desc := "(I)I" } : Jvm.MethodName) ∈ tb := sub4 (List.mem_of_getElem? (l := tables_1_4) (i := 104) rfl) rfl
theorem k932 : Jvm.Cond.methodLink "BellHammerLaw" (85 : Nat) ({ cls := "BellHammer", name := "bet", desc := "(III)I" } : Jvm.MethodName) ∈ tb := sub4 (List.mem_of_getElem? (l := tables_1_4) (i := 112) rfl) rfl
theorem k940 : Jvm.Cond.methodLink "BellHammerLaw" (89 : Nat) ({ cls := "BellHammer", name := "night", desc := "()I" } : Jvm.MethodName) ∈ tb := sub4 (List.mem_of_getElem? (l := tables_1_4) (i := 120) rfl) rfl
theorem k972 : Jvm.Cond.methodLink "BellHammerLaw" (93 : Nat) ({ cls := "BellHammer", name := "rule", desc := "(IZ)Z" } : Jvm.MethodName) ∈ tb := sub4 (List.mem_of_getElem? (l := tables_1_4) (i := 152) rfl) rfl
theorem k984 : Jvm.Cond.methodLink "BellHammerLaw" (98 : Nat) ({ cls := "BellHammer", name := "set", desc := "(II)I" } : Jvm.MethodName) ∈ tb := sub4 (List.mem_of_getElem? (l := tables_1_4) (i := 164) rfl) rfl
theorem k994 : Jvm.Cond.methodLink "BellHammerLaw" (102 : Nat) ({ cls := "BellHammer", name := "undo", desc := "()Z" } : Jvm.MethodName) ∈ tb := sub4 (List.mem_of_getElem? (l := tables_1_4) (i := 174) rfl) rfl
theorem k1002 : Jvm.Cond.methodLink "BellHammerLaw" (107 : Nat) ({ cls := "BellHammer", name := "seed", desc := "(I)Z" } : Jvm.MethodName) ∈ tb := sub4 (List.mem_of_getElem? (l := tables_1_4) (i := 182) rfl) rfl
theorem k1006 : Jvm.Cond.methodLink "BellHammerLaw" (111 : Nat) ({ cls := "BellHammer", name := "kept", desc := "(II)I" } : Jvm.MethodName) ∈ tb := sub4 (List.mem_of_getElem? (l := tables_1_4) (i := 186) rfl) rfl
theorem k1015 : Jvm.Cond.methodLink "BellHammerLaw" (115 : Nat) ({ cls := "BellHammer", name := "see", desc := "(I)Z" } : Jvm.MethodName) ∈ tb := sub4 (List.mem_of_getElem? (l := tables_1_4) (i := 195) rfl) rfl
theorem k1023 : Jvm.Cond.methodLink "BellHammerLaw" (119 : Nat) ({ cls := "BellHammer", name := "was", desc := "(I)I" } : Jvm.MethodName) ∈ tb := sub4 (List.mem_of_getElem? (l := tables_1_4) (i := 203) rfl) rfl
theorem k1035 : Jvm.Cond.methodLink "BellHammerLaw" (123 : Nat) ({ cls := "BellHammer", name := "strong", desc := "(I)I" } : Jvm.MethodName) ∈ tb := sub4 (List.mem_of_getElem? (l := tables_1_4) (i := 215) rfl) rfl
theorem k1039 : Jvm.Cond.methodLink "BellHammerLaw" (127 : Nat) ({ cls := "BellHammer", name := "next", desc := "(Z)I" } : Jvm.MethodName) ∈ tb := sub4 (List.mem_of_getElem? (l := tables_1_4) (i := 219) rfl) rfl
theorem k1043 : Jvm.Cond.methodLink "BellHammerLaw" (132 : Nat) ({ cls := "BellHammer", name := "clear", desc := "(I)I" } : Jvm.MethodName) ∈ tb := sub4 (List.mem_of_getElem? (l := tables_1_4) (i := 223) rfl) rfl
theorem k1051 : Jvm.Cond.methodLink "BellHammerLaw" (136 : Nat) ({ cls := "BellHammer", name := "reach", desc := "(II)I" } : Jvm.MethodName) ∈ tb := sub4 (List.mem_of_getElem? (l := tables_1_4) (i := 231) rfl) rfl
theorem k1059 : Jvm.Cond.methodLink "BellHammerLaw" (140 : Nat) ({ cls := "BellHammer", name := "image", desc := "()I" } : Jvm.MethodName) ∈ tb := sub4 (List.mem_of_getElem? (l := tables_1_4) (i := 239) rfl) rfl
theorem k1070 : Jvm.Cond.methodLink "BellHammerLaw" (144 : Nat) ({ cls := "BellHammer", name := "octet", desc := "(I)I" } : Jvm.MethodName) ∈ tb := sub5 (List.mem_of_getElem? (l := tables_1_5) (i := 10) rfl) rfl
theorem k1074 : Jvm.Cond.methodLink "BellHammerLaw" (148 : Nat) ({ cls := "BellHammer", name := "on", desc := "()Z" } : Jvm.MethodName) ∈ tb := sub5 (List.mem_of_getElem? (l := tables_1_5) (i := 14) rfl) rfl
theorem k1084 : Jvm.Cond.methodLink "BellHammerLaw" (152 : Nat) ({ cls := "BellHammer", name := "status", desc := "(I)I" } : Jvm.MethodName) ∈ tb := sub5 (List.mem_of_getElem? (l := tables_1_5) (i := 24) rfl) rfl
theorem k1342 : Jvm.Cond.methodLink "BellHammerLaw" (17 : Nat) ({ cls := "BellHammerModel", name := "feed", desc := "(IIIII)I" } : Jvm.MethodName) ∈ tb := sub6 (List.mem_of_getElem? (l := tables_1_6) (i := 42) rfl) rfl
theorem k1346 : Jvm.Cond.methodLink "BellHammerLaw" (22 : Nat) ({ cls := "BellHammerModel", name := "end", desc := "(I)Z" } : Jvm.MethodName) ∈ tb := sub6 (List.mem_of_getElem? (l := tables_1_6) (i := 46) rfl) rfl
theorem k1350 : Jvm.Cond.methodLink "BellHammerLaw" (27 : Nat) ({ cls := "BellHammerModel", name := "fair", desc := "()I" } : Jvm.MethodName) ∈ tb := sub6 (List.mem_of_getElem? (l := tables_1_6) (i := 50) rfl) rfl
theorem k1501 : Jvm.Cond.methodLink "BellHammerLaw" (32 : Nat) ({ cls := "BellHammerModel", name := "fault", desc := "(I)I" } : Jvm.MethodName) ∈ tb := sub6 (List.mem_of_getElem? (l := tables_1_6) (i := 201) rfl) rfl
theorem k1505 : Jvm.Cond.methodLink "BellHammerLaw" (36 : Nat) ({ cls := "BellHammerModel", name := "has", desc := "(I)I" } : Jvm.MethodName) ∈ tb := sub6 (List.mem_of_getElem? (l := tables_1_6) (i := 205) rfl) rfl
theorem k1521 : Jvm.Cond.methodLink "BellHammerLaw" (41 : Nat) ({ cls := "BellHammerModel", name := "letter", desc := "(III)I" } : Jvm.MethodName) ∈ tb := sub6 (List.mem_of_getElem? (l := tables_1_6) (i := 221) rfl) rfl
theorem k1526 : Jvm.Cond.methodLink "BellHammerLaw" (46 : Nat) ({ cls := "BellHammerModel", name := "trier", desc := "(II)I" } : Jvm.MethodName) ∈ tb := sub6 (List.mem_of_getElem? (l := tables_1_6) (i := 226) rfl) rfl
theorem k1538 : Jvm.Cond.methodLink "BellHammerLaw" (50 : Nat) ({ cls := "BellHammerModel", name := "mark", desc := "(I)I" } : Jvm.MethodName) ∈ tb := sub6 (List.mem_of_getElem? (l := tables_1_6) (i := 238) rfl) rfl
theorem k1542 : Jvm.Cond.methodLink "BellHammerLaw" (54 : Nat) ({ cls := "BellHammerModel", name := "past", desc := "(I)I" } : Jvm.MethodName) ∈ tb := sub7 (List.mem_of_getElem? (l := tables_1_7) (i := 2) rfl) rfl
theorem k1547 : Jvm.Cond.methodLink "BellHammerLaw" (59 : Nat) ({ cls := "BellHammerModel", name := "high", desc := "(IIIZ)I" } : Jvm.MethodName) ∈ tb := sub7 (List.mem_of_getElem? (l := tables_1_7) (i := 7) rfl) rfl
theorem k1567 : Jvm.Cond.methodLink "BellHammerLaw" (64 : Nat) ({ cls := "BellHammerModel", name := "hard", desc := "(IZ)I" } : Jvm.MethodName) ∈ tb := sub7 (List.mem_of_getElem? (l := tables_1_7) (i := 27) rfl) rfl
theorem k1571 : Jvm.Cond.methodLink "BellHammerLaw" (68 : Nat) ({ cls := "BellHammerModel", name := "wide", desc := "(IZ)I" } : Jvm.MethodName) ∈ tb := sub7 (List.mem_of_getElem? (l := tables_1_7) (i := 31) rfl) rfl
theorem k1575 : Jvm.Cond.methodLink "BellHammerLaw" (72 : Nat) ({ cls := "BellHammerModel", name := "leans", desc := "(IIIII)I" } : Jvm.MethodName) ∈ tb := sub7 (List.mem_of_getElem? (l := tables_1_7) (i := 35) rfl) rfl
theorem k1606 : Jvm.Cond.methodLink "BellHammerLaw" (76 : Nat) ({ cls := "BellHammerModel", name := "tree", desc := "(II)I" } : Jvm.MethodName) ∈ tb := sub7 (List.mem_of_getElem? (l := tables_1_7) (i := 66) rfl) rfl
theorem k1631 : Jvm.Cond.methodLink "BellHammerLaw" (80 : Nat) ({ cls := "BellHammerModel", name := "best", desc := "(I)I" } : Jvm.MethodName) ∈ tb := sub7 (List.mem_of_getElem? (l := tables_1_7) (i := 91) rfl) rfl
theorem k1645 : Jvm.Cond.methodLink "BellHammerLaw" (84 : Nat) ({ cls := "BellHammerModel", name := "honest", desc := "(I)I" } : Jvm.MethodName) ∈ tb := sub7 (List.mem_of_getElem? (l := tables_1_7) (i := 105) rfl) rfl
theorem k1649 : Jvm.Cond.methodLink "BellHammerLaw" (88 : Nat) ({ cls := "BellHammerModel", name := "bet", desc := "(III)I" } : Jvm.MethodName) ∈ tb := sub7 (List.mem_of_getElem? (l := tables_1_7) (i := 109) rfl) rfl
theorem k1653 : Jvm.Cond.methodLink "BellHammerLaw" (106 : Nat) ({ cls := "BellHammerModel", name := "undo", desc := "()Z" } : Jvm.MethodName) ∈ tb := sub7 (List.mem_of_getElem? (l := tables_1_7) (i := 113) rfl) rfl
theorem k1657 : Jvm.Cond.methodLink "BellHammerLaw" (110 : Nat) ({ cls := "BellHammerModel", name := "seed", desc := "(I)Z" } : Jvm.MethodName) ∈ tb := sub7 (List.mem_of_getElem? (l := tables_1_7) (i := 117) rfl) rfl
theorem k1661 : Jvm.Cond.methodLink "BellHammerLaw" (92 : Nat) ({ cls := "BellHammerModel", name := "night", desc := "()I" } : Jvm.MethodName) ∈ tb := sub7 (List.mem_of_getElem? (l := tables_1_7) (i := 121) rfl) rfl
theorem k1681 : Jvm.Cond.methodLink "BellHammerLaw" (97 : Nat) ({ cls := "BellHammerModel", name := "rule", desc := "(IZ)Z" } : Jvm.MethodName) ∈ tb := sub7 (List.mem_of_getElem? (l := tables_1_7) (i := 141) rfl) rfl
theorem k1685 : Jvm.Cond.methodLink "BellHammerLaw" (101 : Nat) ({ cls := "BellHammerModel", name := "set", desc := "(II)I" } : Jvm.MethodName) ∈ tb := sub7 (List.mem_of_getElem? (l := tables_1_7) (i := 145) rfl) rfl
theorem k1690 : Jvm.Cond.methodLink "BellHammerLaw" (114 : Nat) ({ cls := "BellHammerModel", name := "kept", desc := "(II)I" } : Jvm.MethodName) ∈ tb := sub7 (List.mem_of_getElem? (l := tables_1_7) (i := 150) rfl) rfl
theorem k1695 : Jvm.Cond.methodLink "BellHammerLaw" (118 : Nat) ({ cls := "BellHammerModel", name := "see", desc := "(I)Z" } : Jvm.MethodName) ∈ tb := sub7 (List.mem_of_getElem? (l := tables_1_7) (i := 155) rfl) rfl
theorem k1699 : Jvm.Cond.methodLink "BellHammerLaw" (122 : Nat) ({ cls := "BellHammerModel", name := "was", desc := "(I)I" } : Jvm.MethodName) ∈ tb := sub7 (List.mem_of_getElem? (l := tables_1_7) (i := 159) rfl) rfl
theorem k1711 : Jvm.Cond.methodLink "BellHammerLaw" (126 : Nat) ({ cls := "BellHammerModel", name := "strong", desc := "(I)I" } : Jvm.MethodName) ∈ tb := sub7 (List.mem_of_getElem? (l := tables_1_7) (i := 171) rfl) rfl
theorem k1716 : Jvm.Cond.methodLink "BellHammerLaw" (131 : Nat) ({ cls := "BellHammerModel", name := "next", desc := "(Z)I" } : Jvm.MethodName) ∈ tb := sub7 (List.mem_of_getElem? (l := tables_1_7) (i := 176) rfl) rfl
theorem k1720 : Jvm.Cond.methodLink "BellHammerLaw" (135 : Nat) ({ cls := "BellHammerModel", name := "clear", desc := "(I)I" } : Jvm.MethodName) ∈ tb := sub7 (List.mem_of_getElem? (l := tables_1_7) (i := 180) rfl) rfl
theorem k1729 : Jvm.Cond.methodLink "BellHammerLaw" (139 : Nat) ({ cls := "BellHammerModel", name := "reach", desc := "(II)I" } : Jvm.MethodName) ∈ tb := sub7 (List.mem_of_getElem? (l := tables_1_7) (i := 189) rfl) rfl
theorem k1738 : Jvm.Cond.methodLink "BellHammerLaw" (143 : Nat) ({ cls := "BellHammerModel", name := "image", desc := "()I" } : Jvm.MethodName) ∈ tb := sub7 (List.mem_of_getElem? (l := tables_1_7) (i := 198) rfl) rfl
theorem k1746 : Jvm.Cond.methodLink "BellHammerLaw" (147 : Nat) ({ cls := "BellHammerModel", name := "octet", desc := "(I)I" } : Jvm.MethodName) ∈ tb := sub7 (List.mem_of_getElem? (l := tables_1_7) (i := 206) rfl) rfl
theorem k1750 : Jvm.Cond.methodLink "BellHammerLaw" (151 : Nat) ({ cls := "BellHammerModel", name := "on", desc := "()Z" } : Jvm.MethodName) ∈ tb := sub7 (List.mem_of_getElem? (l := tables_1_7) (i := 210) rfl) rfl
theorem k1758 : Jvm.Cond.methodLink "BellHammerLaw" (155 : Nat) ({ cls := "BellHammerModel", name := "status", desc := "(I)I" } : Jvm.MethodName) ∈ tb := sub7 (List.mem_of_getElem? (l := tables_1_7) (i := 218) rfl) rfl

theorem d_law_0 : decode code 0 = .ok (.new 7, 3) := by decide +kernel
theorem d_law_3 : decode code 3 = .ok (.dup, 1) := by decide +kernel
theorem d_law_4 : decode code 4 = .ok (.invokespecial 9, 3) := by decide +kernel
theorem d_law_7 : decode code 7 = .ok (.astore_n 1, 1) := by decide +kernel
theorem d_law_8 : decode code 8 = .ok (.new 10, 3) := by decide +kernel
theorem d_law_11 : decode code 11 = .ok (.dup, 1) := by decide +kernel
theorem d_law_12 : decode code 12 = .ok (.invokespecial 12, 3) := by decide +kernel
theorem d_law_15 : decode code 15 = .ok (.astore_n 2, 1) := by decide +kernel
theorem d_law_16 : decode code 16 = .ok (.iconst 0, 1) := by decide +kernel
theorem d_law_17 : decode code 17 = .ok (.istore_n 3, 1) := by decide +kernel
theorem d_law_18 : decode code 18 = .ok (.iload_n 3, 1) := by decide +kernel
theorem d_law_19 : decode code 19 = .ok (.aload_n 0, 1) := by decide +kernel
theorem d_law_20 : decode code 20 = .ok (.arraylength, 1) := by decide +kernel
theorem d_law_21 : decode code 21 = .ok (.bipush 6, 2) := by decide +kernel
theorem d_law_23 : decode code 23 = .ok (.isub, 1) := by decide +kernel
theorem d_law_24 : decode code 24 = .ok (.if_icmp .gt 1181, 3) := by decide +kernel
theorem d_law_27 : decode code 27 = .ok (.aload_n 0, 1) := by decide +kernel
theorem d_law_28 : decode code 28 = .ok (.iload_n 3, 1) := by decide +kernel
theorem d_law_29 : decode code 29 = .ok (.iaload, 1) := by decide +kernel
theorem d_law_30 : decode code 30 = .ok (.bipush 63, 2) := by decide +kernel
theorem d_law_32 : decode code 32 = .ok (.iand, 1) := by decide +kernel
theorem d_law_33 : decode code 33 = .ok (.tableswitch 1166 0 32 #[147, 210, 233, 246, 269, 292, 335, 368, 391, 414, 483, 532, 581, 644, 677, 700, 723, 766, 779, 828, 861, 874, 897, 930, 953, 976, 999, 1038, 1061, 1094, 1107, 1130, 1143], 147) := by decide +kernel
theorem d_law_180 : decode code 180 = .ok (.aload_n 1, 1) := by decide +kernel
theorem d_law_181 : decode code 181 = .ok (.aload_n 0, 1) := by decide +kernel
theorem d_law_182 : decode code 182 = .ok (.iload_n 3, 1) := by decide +kernel
theorem d_law_183 : decode code 183 = .ok (.iconst 1, 1) := by decide +kernel
theorem d_law_184 : decode code 184 = .ok (.iadd, 1) := by decide +kernel
theorem d_law_185 : decode code 185 = .ok (.iaload, 1) := by decide +kernel
theorem d_law_186 : decode code 186 = .ok (.aload_n 0, 1) := by decide +kernel
theorem d_law_187 : decode code 187 = .ok (.iload_n 3, 1) := by decide +kernel
theorem d_law_188 : decode code 188 = .ok (.iconst 2, 1) := by decide +kernel
theorem d_law_189 : decode code 189 = .ok (.iadd, 1) := by decide +kernel
theorem d_law_190 : decode code 190 = .ok (.iaload, 1) := by decide +kernel
theorem d_law_191 : decode code 191 = .ok (.aload_n 0, 1) := by decide +kernel
theorem d_law_192 : decode code 192 = .ok (.iload_n 3, 1) := by decide +kernel
theorem d_law_193 : decode code 193 = .ok (.iconst 3, 1) := by decide +kernel
theorem d_law_194 : decode code 194 = .ok (.iadd, 1) := by decide +kernel
theorem d_law_195 : decode code 195 = .ok (.iaload, 1) := by decide +kernel
theorem d_law_196 : decode code 196 = .ok (.aload_n 0, 1) := by decide +kernel
theorem d_law_197 : decode code 197 = .ok (.iload_n 3, 1) := by decide +kernel
theorem d_law_198 : decode code 198 = .ok (.iconst 4, 1) := by decide +kernel
theorem d_law_199 : decode code 199 = .ok (.iadd, 1) := by decide +kernel
theorem d_law_200 : decode code 200 = .ok (.iaload, 1) := by decide +kernel
theorem d_law_201 : decode code 201 = .ok (.aload_n 0, 1) := by decide +kernel
theorem d_law_202 : decode code 202 = .ok (.iload_n 3, 1) := by decide +kernel
theorem d_law_203 : decode code 203 = .ok (.iconst 5, 1) := by decide +kernel
theorem d_law_204 : decode code 204 = .ok (.iadd, 1) := by decide +kernel
theorem d_law_205 : decode code 205 = .ok (.iaload, 1) := by decide +kernel
theorem d_law_206 : decode code 206 = .ok (.invokevirtual 13, 3) := by decide +kernel
theorem d_law_209 : decode code 209 = .ok (.aload_n 2, 1) := by decide +kernel
theorem d_law_210 : decode code 210 = .ok (.aload_n 0, 1) := by decide +kernel
theorem d_law_211 : decode code 211 = .ok (.iload_n 3, 1) := by decide +kernel
theorem d_law_212 : decode code 212 = .ok (.iconst 1, 1) := by decide +kernel
theorem d_law_213 : decode code 213 = .ok (.iadd, 1) := by decide +kernel
theorem d_law_214 : decode code 214 = .ok (.iaload, 1) := by decide +kernel
theorem d_law_215 : decode code 215 = .ok (.aload_n 0, 1) := by decide +kernel
theorem d_law_216 : decode code 216 = .ok (.iload_n 3, 1) := by decide +kernel
theorem d_law_217 : decode code 217 = .ok (.iconst 2, 1) := by decide +kernel
theorem d_law_218 : decode code 218 = .ok (.iadd, 1) := by decide +kernel
theorem d_law_219 : decode code 219 = .ok (.iaload, 1) := by decide +kernel
theorem d_law_220 : decode code 220 = .ok (.aload_n 0, 1) := by decide +kernel
theorem d_law_221 : decode code 221 = .ok (.iload_n 3, 1) := by decide +kernel
theorem d_law_222 : decode code 222 = .ok (.iconst 3, 1) := by decide +kernel
theorem d_law_223 : decode code 223 = .ok (.iadd, 1) := by decide +kernel
theorem d_law_224 : decode code 224 = .ok (.iaload, 1) := by decide +kernel
theorem d_law_225 : decode code 225 = .ok (.aload_n 0, 1) := by decide +kernel
theorem d_law_226 : decode code 226 = .ok (.iload_n 3, 1) := by decide +kernel
theorem d_law_227 : decode code 227 = .ok (.iconst 4, 1) := by decide +kernel
theorem d_law_228 : decode code 228 = .ok (.iadd, 1) := by decide +kernel
theorem d_law_229 : decode code 229 = .ok (.iaload, 1) := by decide +kernel
theorem d_law_230 : decode code 230 = .ok (.aload_n 0, 1) := by decide +kernel
theorem d_law_231 : decode code 231 = .ok (.iload_n 3, 1) := by decide +kernel
theorem d_law_232 : decode code 232 = .ok (.iconst 5, 1) := by decide +kernel
theorem d_law_233 : decode code 233 = .ok (.iadd, 1) := by decide +kernel
theorem d_law_234 : decode code 234 = .ok (.iaload, 1) := by decide +kernel
theorem d_law_235 : decode code 235 = .ok (.invokevirtual 17, 3) := by decide +kernel
theorem d_law_238 : decode code 238 = .ok (.if_icmp .eq 961, 3) := by decide +kernel
theorem d_law_241 : decode code 241 = .ok (.iconst 0, 1) := by decide +kernel
theorem d_law_242 : decode code 242 = .ok (.ireturn, 1) := by decide +kernel
theorem d_law_243 : decode code 243 = .ok (.aload_n 1, 1) := by decide +kernel
theorem d_law_244 : decode code 244 = .ok (.aload_n 0, 1) := by decide +kernel
theorem d_law_245 : decode code 245 = .ok (.iload_n 3, 1) := by decide +kernel
theorem d_law_246 : decode code 246 = .ok (.iconst 1, 1) := by decide +kernel
theorem d_law_247 : decode code 247 = .ok (.iadd, 1) := by decide +kernel
theorem d_law_248 : decode code 248 = .ok (.iaload, 1) := by decide +kernel
theorem d_law_249 : decode code 249 = .ok (.invokevirtual 18, 3) := by decide +kernel
theorem d_law_252 : decode code 252 = .ok (.aload_n 2, 1) := by decide +kernel
theorem d_law_253 : decode code 253 = .ok (.aload_n 0, 1) := by decide +kernel
theorem d_law_254 : decode code 254 = .ok (.iload_n 3, 1) := by decide +kernel
theorem d_law_255 : decode code 255 = .ok (.iconst 1, 1) := by decide +kernel
theorem d_law_256 : decode code 256 = .ok (.iadd, 1) := by decide +kernel
theorem d_law_257 : decode code 257 = .ok (.iaload, 1) := by decide +kernel
theorem d_law_258 : decode code 258 = .ok (.invokevirtual 22, 3) := by decide +kernel
theorem d_law_261 : decode code 261 = .ok (.if_icmp .eq 938, 3) := by decide +kernel
theorem d_law_264 : decode code 264 = .ok (.iconst 0, 1) := by decide +kernel
theorem d_law_265 : decode code 265 = .ok (.ireturn, 1) := by decide +kernel
theorem d_law_266 : decode code 266 = .ok (.aload_n 1, 1) := by decide +kernel
theorem d_law_267 : decode code 267 = .ok (.invokevirtual 23, 3) := by decide +kernel
theorem d_law_270 : decode code 270 = .ok (.aload_n 2, 1) := by decide +kernel
theorem d_law_271 : decode code 271 = .ok (.invokevirtual 27, 3) := by decide +kernel
theorem d_law_274 : decode code 274 = .ok (.if_icmp .eq 925, 3) := by decide +kernel
theorem d_law_277 : decode code 277 = .ok (.iconst 0, 1) := by decide +kernel
theorem d_law_278 : decode code 278 = .ok (.ireturn, 1) := by decide +kernel
theorem d_law_279 : decode code 279 = .ok (.aload_n 1, 1) := by decide +kernel
theorem d_law_280 : decode code 280 = .ok (.aload_n 0, 1) := by decide +kernel
theorem d_law_281 : decode code 281 = .ok (.iload_n 3, 1) := by decide +kernel
theorem d_law_282 : decode code 282 = .ok (.iconst 1, 1) := by decide +kernel
theorem d_law_283 : decode code 283 = .ok (.iadd, 1) := by decide +kernel
theorem d_law_284 : decode code 284 = .ok (.iaload, 1) := by decide +kernel
theorem d_law_285 : decode code 285 = .ok (.invokevirtual 28, 3) := by decide +kernel
theorem d_law_288 : decode code 288 = .ok (.aload_n 2, 1) := by decide +kernel
theorem d_law_289 : decode code 289 = .ok (.aload_n 0, 1) := by decide +kernel
theorem d_law_290 : decode code 290 = .ok (.iload_n 3, 1) := by decide +kernel
theorem d_law_291 : decode code 291 = .ok (.iconst 1, 1) := by decide +kernel
theorem d_law_292 : decode code 292 = .ok (.iadd, 1) := by decide +kernel
theorem d_law_293 : decode code 293 = .ok (.iaload, 1) := by decide +kernel
theorem d_law_294 : decode code 294 = .ok (.invokevirtual 32, 3) := by decide +kernel
theorem d_law_297 : decode code 297 = .ok (.if_icmp .eq 902, 3) := by decide +kernel
theorem d_law_300 : decode code 300 = .ok (.iconst 0, 1) := by decide +kernel
theorem d_law_301 : decode code 301 = .ok (.ireturn, 1) := by decide +kernel
theorem d_law_302 : decode code 302 = .ok (.aload_n 1, 1) := by decide +kernel
theorem d_law_303 : decode code 303 = .ok (.aload_n 0, 1) := by decide +kernel
theorem d_law_304 : decode code 304 = .ok (.iload_n 3, 1) := by decide +kernel
theorem d_law_305 : decode code 305 = .ok (.iconst 1, 1) := by decide +kernel
theorem d_law_306 : decode code 306 = .ok (.iadd, 1) := by decide +kernel
theorem d_law_307 : decode code 307 = .ok (.iaload, 1) := by decide +kernel
theorem d_law_308 : decode code 308 = .ok (.invokevirtual 33, 3) := by decide +kernel
theorem d_law_311 : decode code 311 = .ok (.aload_n 2, 1) := by decide +kernel
theorem d_law_312 : decode code 312 = .ok (.aload_n 0, 1) := by decide +kernel
theorem d_law_313 : decode code 313 = .ok (.iload_n 3, 1) := by decide +kernel
theorem d_law_314 : decode code 314 = .ok (.iconst 1, 1) := by decide +kernel
theorem d_law_315 : decode code 315 = .ok (.iadd, 1) := by decide +kernel
theorem d_law_316 : decode code 316 = .ok (.iaload, 1) := by decide +kernel
theorem d_law_317 : decode code 317 = .ok (.invokevirtual 36, 3) := by decide +kernel
theorem d_law_320 : decode code 320 = .ok (.if_icmp .eq 879, 3) := by decide +kernel
theorem d_law_323 : decode code 323 = .ok (.iconst 0, 1) := by decide +kernel
theorem d_law_324 : decode code 324 = .ok (.ireturn, 1) := by decide +kernel
theorem d_law_325 : decode code 325 = .ok (.aload_n 1, 1) := by decide +kernel
theorem d_law_326 : decode code 326 = .ok (.aload_n 0, 1) := by decide +kernel
theorem d_law_327 : decode code 327 = .ok (.iload_n 3, 1) := by decide +kernel
theorem d_law_328 : decode code 328 = .ok (.iconst 1, 1) := by decide +kernel
theorem d_law_329 : decode code 329 = .ok (.iadd, 1) := by decide +kernel
theorem d_law_330 : decode code 330 = .ok (.iaload, 1) := by decide +kernel
theorem d_law_331 : decode code 331 = .ok (.aload_n 0, 1) := by decide +kernel
theorem d_law_332 : decode code 332 = .ok (.iload_n 3, 1) := by decide +kernel
theorem d_law_333 : decode code 333 = .ok (.iconst 2, 1) := by decide +kernel
theorem d_law_334 : decode code 334 = .ok (.iadd, 1) := by decide +kernel
theorem d_law_335 : decode code 335 = .ok (.iaload, 1) := by decide +kernel
theorem d_law_336 : decode code 336 = .ok (.aload_n 0, 1) := by decide +kernel
theorem d_law_337 : decode code 337 = .ok (.iload_n 3, 1) := by decide +kernel
theorem d_law_338 : decode code 338 = .ok (.iconst 3, 1) := by decide +kernel
theorem d_law_339 : decode code 339 = .ok (.iadd, 1) := by decide +kernel
theorem d_law_340 : decode code 340 = .ok (.iaload, 1) := by decide +kernel
theorem d_law_341 : decode code 341 = .ok (.invokevirtual 37, 3) := by decide +kernel
theorem d_law_344 : decode code 344 = .ok (.aload_n 2, 1) := by decide +kernel
theorem d_law_345 : decode code 345 = .ok (.aload_n 0, 1) := by decide +kernel
theorem d_law_346 : decode code 346 = .ok (.iload_n 3, 1) := by decide +kernel
theorem d_law_347 : decode code 347 = .ok (.iconst 1, 1) := by decide +kernel
theorem d_law_348 : decode code 348 = .ok (.iadd, 1) := by decide +kernel
theorem d_law_349 : decode code 349 = .ok (.iaload, 1) := by decide +kernel
theorem d_law_350 : decode code 350 = .ok (.aload_n 0, 1) := by decide +kernel
theorem d_law_351 : decode code 351 = .ok (.iload_n 3, 1) := by decide +kernel
theorem d_law_352 : decode code 352 = .ok (.iconst 2, 1) := by decide +kernel
theorem d_law_353 : decode code 353 = .ok (.iadd, 1) := by decide +kernel
theorem d_law_354 : decode code 354 = .ok (.iaload, 1) := by decide +kernel
theorem d_law_355 : decode code 355 = .ok (.aload_n 0, 1) := by decide +kernel
theorem d_law_356 : decode code 356 = .ok (.iload_n 3, 1) := by decide +kernel
theorem d_law_357 : decode code 357 = .ok (.iconst 3, 1) := by decide +kernel
theorem d_law_358 : decode code 358 = .ok (.iadd, 1) := by decide +kernel
theorem d_law_359 : decode code 359 = .ok (.iaload, 1) := by decide +kernel
theorem d_law_360 : decode code 360 = .ok (.invokevirtual 41, 3) := by decide +kernel
theorem d_law_363 : decode code 363 = .ok (.if_icmp .eq 836, 3) := by decide +kernel
theorem d_law_366 : decode code 366 = .ok (.iconst 0, 1) := by decide +kernel
theorem d_law_367 : decode code 367 = .ok (.ireturn, 1) := by decide +kernel
theorem d_law_368 : decode code 368 = .ok (.aload_n 1, 1) := by decide +kernel
theorem d_law_369 : decode code 369 = .ok (.aload_n 0, 1) := by decide +kernel
theorem d_law_370 : decode code 370 = .ok (.iload_n 3, 1) := by decide +kernel
theorem d_law_371 : decode code 371 = .ok (.iconst 1, 1) := by decide +kernel
theorem d_law_372 : decode code 372 = .ok (.iadd, 1) := by decide +kernel
theorem d_law_373 : decode code 373 = .ok (.iaload, 1) := by decide +kernel
theorem d_law_374 : decode code 374 = .ok (.aload_n 0, 1) := by decide +kernel
theorem d_law_375 : decode code 375 = .ok (.iload_n 3, 1) := by decide +kernel
theorem d_law_376 : decode code 376 = .ok (.iconst 2, 1) := by decide +kernel
theorem d_law_377 : decode code 377 = .ok (.iadd, 1) := by decide +kernel
theorem d_law_378 : decode code 378 = .ok (.iaload, 1) := by decide +kernel
theorem d_law_379 : decode code 379 = .ok (.invokevirtual 42, 3) := by decide +kernel
theorem d_law_382 : decode code 382 = .ok (.aload_n 2, 1) := by decide +kernel
theorem d_law_383 : decode code 383 = .ok (.aload_n 0, 1) := by decide +kernel
theorem d_law_384 : decode code 384 = .ok (.iload_n 3, 1) := by decide +kernel
theorem d_law_385 : decode code 385 = .ok (.iconst 1, 1) := by decide +kernel
theorem d_law_386 : decode code 386 = .ok (.iadd, 1) := by decide +kernel
theorem d_law_387 : decode code 387 = .ok (.iaload, 1) := by decide +kernel
theorem d_law_388 : decode code 388 = .ok (.aload_n 0, 1) := by decide +kernel
theorem d_law_389 : decode code 389 = .ok (.iload_n 3, 1) := by decide +kernel
theorem d_law_390 : decode code 390 = .ok (.iconst 2, 1) := by decide +kernel
theorem d_law_391 : decode code 391 = .ok (.iadd, 1) := by decide +kernel
theorem d_law_392 : decode code 392 = .ok (.iaload, 1) := by decide +kernel
theorem d_law_393 : decode code 393 = .ok (.invokevirtual 46, 3) := by decide +kernel
theorem d_law_396 : decode code 396 = .ok (.if_icmp .eq 803, 3) := by decide +kernel
theorem d_law_399 : decode code 399 = .ok (.iconst 0, 1) := by decide +kernel
theorem d_law_400 : decode code 400 = .ok (.ireturn, 1) := by decide +kernel
theorem d_law_401 : decode code 401 = .ok (.aload_n 1, 1) := by decide +kernel
theorem d_law_402 : decode code 402 = .ok (.aload_n 0, 1) := by decide +kernel
theorem d_law_403 : decode code 403 = .ok (.iload_n 3, 1) := by decide +kernel
theorem d_law_404 : decode code 404 = .ok (.iconst 1, 1) := by decide +kernel
theorem d_law_405 : decode code 405 = .ok (.iadd, 1) := by decide +kernel
theorem d_law_406 : decode code 406 = .ok (.iaload, 1) := by decide +kernel
theorem d_law_407 : decode code 407 = .ok (.invokevirtual 47, 3) := by decide +kernel
theorem d_law_410 : decode code 410 = .ok (.aload_n 2, 1) := by decide +kernel
theorem d_law_411 : decode code 411 = .ok (.aload_n 0, 1) := by decide +kernel
theorem d_law_412 : decode code 412 = .ok (.iload_n 3, 1) := by decide +kernel
theorem d_law_413 : decode code 413 = .ok (.iconst 1, 1) := by decide +kernel
theorem d_law_414 : decode code 414 = .ok (.iadd, 1) := by decide +kernel
theorem d_law_415 : decode code 415 = .ok (.iaload, 1) := by decide +kernel
theorem d_law_416 : decode code 416 = .ok (.invokevirtual 50, 3) := by decide +kernel
theorem d_law_419 : decode code 419 = .ok (.if_icmp .eq 780, 3) := by decide +kernel
theorem d_law_422 : decode code 422 = .ok (.iconst 0, 1) := by decide +kernel
theorem d_law_423 : decode code 423 = .ok (.ireturn, 1) := by decide +kernel
theorem d_law_424 : decode code 424 = .ok (.aload_n 1, 1) := by decide +kernel
theorem d_law_425 : decode code 425 = .ok (.aload_n 0, 1) := by decide +kernel
theorem d_law_426 : decode code 426 = .ok (.iload_n 3, 1) := by decide +kernel
theorem d_law_427 : decode code 427 = .ok (.iconst 1, 1) := by decide +kernel
theorem d_law_428 : decode code 428 = .ok (.iadd, 1) := by decide +kernel
theorem d_law_429 : decode code 429 = .ok (.iaload, 1) := by decide +kernel
theorem d_law_430 : decode code 430 = .ok (.invokevirtual 51, 3) := by decide +kernel
theorem d_law_433 : decode code 433 = .ok (.aload_n 2, 1) := by decide +kernel
theorem d_law_434 : decode code 434 = .ok (.aload_n 0, 1) := by decide +kernel
theorem d_law_435 : decode code 435 = .ok (.iload_n 3, 1) := by decide +kernel
theorem d_law_436 : decode code 436 = .ok (.iconst 1, 1) := by decide +kernel
theorem d_law_437 : decode code 437 = .ok (.iadd, 1) := by decide +kernel
theorem d_law_438 : decode code 438 = .ok (.iaload, 1) := by decide +kernel
theorem d_law_439 : decode code 439 = .ok (.invokevirtual 54, 3) := by decide +kernel
theorem d_law_442 : decode code 442 = .ok (.if_icmp .eq 757, 3) := by decide +kernel
theorem d_law_445 : decode code 445 = .ok (.iconst 0, 1) := by decide +kernel
theorem d_law_446 : decode code 446 = .ok (.ireturn, 1) := by decide +kernel
theorem d_law_447 : decode code 447 = .ok (.aload_n 1, 1) := by decide +kernel
theorem d_law_448 : decode code 448 = .ok (.aload_n 0, 1) := by decide +kernel
theorem d_law_449 : decode code 449 = .ok (.iload_n 3, 1) := by decide +kernel
theorem d_law_450 : decode code 450 = .ok (.iconst 1, 1) := by decide +kernel
theorem d_law_451 : decode code 451 = .ok (.iadd, 1) := by decide +kernel
theorem d_law_452 : decode code 452 = .ok (.iaload, 1) := by decide +kernel
theorem d_law_453 : decode code 453 = .ok (.aload_n 0, 1) := by decide +kernel
theorem d_law_454 : decode code 454 = .ok (.iload_n 3, 1) := by decide +kernel
theorem d_law_455 : decode code 455 = .ok (.iconst 2, 1) := by decide +kernel
theorem d_law_456 : decode code 456 = .ok (.iadd, 1) := by decide +kernel
theorem d_law_457 : decode code 457 = .ok (.iaload, 1) := by decide +kernel
theorem d_law_458 : decode code 458 = .ok (.aload_n 0, 1) := by decide +kernel
theorem d_law_459 : decode code 459 = .ok (.iload_n 3, 1) := by decide +kernel
theorem d_law_460 : decode code 460 = .ok (.iconst 3, 1) := by decide +kernel
theorem d_law_461 : decode code 461 = .ok (.iadd, 1) := by decide +kernel
theorem d_law_462 : decode code 462 = .ok (.iaload, 1) := by decide +kernel
theorem d_law_463 : decode code 463 = .ok (.aload_n 0, 1) := by decide +kernel
theorem d_law_464 : decode code 464 = .ok (.iload_n 3, 1) := by decide +kernel
theorem d_law_465 : decode code 465 = .ok (.iconst 4, 1) := by decide +kernel
theorem d_law_466 : decode code 466 = .ok (.iadd, 1) := by decide +kernel
theorem d_law_467 : decode code 467 = .ok (.iaload, 1) := by decide +kernel
theorem d_law_468 : decode code 468 = .ok (.ifCond .eq 7, 3) := by decide +kernel
theorem d_law_471 : decode code 471 = .ok (.iconst 1, 1) := by decide +kernel
theorem d_law_472 : decode code 472 = .ok (.goto 4, 3) := by decide +kernel
theorem d_law_475 : decode code 475 = .ok (.iconst 0, 1) := by decide +kernel
theorem d_law_476 : decode code 476 = .ok (.invokevirtual 55, 3) := by decide +kernel
theorem d_law_479 : decode code 479 = .ok (.aload_n 2, 1) := by decide +kernel
theorem d_law_480 : decode code 480 = .ok (.aload_n 0, 1) := by decide +kernel
theorem d_law_481 : decode code 481 = .ok (.iload_n 3, 1) := by decide +kernel
theorem d_law_482 : decode code 482 = .ok (.iconst 1, 1) := by decide +kernel
theorem d_law_483 : decode code 483 = .ok (.iadd, 1) := by decide +kernel
theorem d_law_484 : decode code 484 = .ok (.iaload, 1) := by decide +kernel
theorem d_law_485 : decode code 485 = .ok (.aload_n 0, 1) := by decide +kernel
theorem d_law_486 : decode code 486 = .ok (.iload_n 3, 1) := by decide +kernel
theorem d_law_487 : decode code 487 = .ok (.iconst 2, 1) := by decide +kernel
theorem d_law_488 : decode code 488 = .ok (.iadd, 1) := by decide +kernel
theorem d_law_489 : decode code 489 = .ok (.iaload, 1) := by decide +kernel
theorem d_law_490 : decode code 490 = .ok (.aload_n 0, 1) := by decide +kernel
theorem d_law_491 : decode code 491 = .ok (.iload_n 3, 1) := by decide +kernel
theorem d_law_492 : decode code 492 = .ok (.iconst 3, 1) := by decide +kernel
theorem d_law_493 : decode code 493 = .ok (.iadd, 1) := by decide +kernel
theorem d_law_494 : decode code 494 = .ok (.iaload, 1) := by decide +kernel
theorem d_law_495 : decode code 495 = .ok (.aload_n 0, 1) := by decide +kernel
theorem d_law_496 : decode code 496 = .ok (.iload_n 3, 1) := by decide +kernel
theorem d_law_497 : decode code 497 = .ok (.iconst 4, 1) := by decide +kernel
theorem d_law_498 : decode code 498 = .ok (.iadd, 1) := by decide +kernel
theorem d_law_499 : decode code 499 = .ok (.iaload, 1) := by decide +kernel
theorem d_law_500 : decode code 500 = .ok (.ifCond .eq 7, 3) := by decide +kernel
theorem d_law_503 : decode code 503 = .ok (.iconst 1, 1) := by decide +kernel
theorem d_law_504 : decode code 504 = .ok (.goto 4, 3) := by decide +kernel
theorem d_law_507 : decode code 507 = .ok (.iconst 0, 1) := by decide +kernel
theorem d_law_508 : decode code 508 = .ok (.invokevirtual 59, 3) := by decide +kernel
theorem d_law_511 : decode code 511 = .ok (.if_icmp .eq 688, 3) := by decide +kernel
theorem d_law_514 : decode code 514 = .ok (.iconst 0, 1) := by decide +kernel
theorem d_law_515 : decode code 515 = .ok (.ireturn, 1) := by decide +kernel
theorem d_law_516 : decode code 516 = .ok (.aload_n 1, 1) := by decide +kernel
theorem d_law_517 : decode code 517 = .ok (.aload_n 0, 1) := by decide +kernel
theorem d_law_518 : decode code 518 = .ok (.iload_n 3, 1) := by decide +kernel
theorem d_law_519 : decode code 519 = .ok (.iconst 1, 1) := by decide +kernel
theorem d_law_520 : decode code 520 = .ok (.iadd, 1) := by decide +kernel
theorem d_law_521 : decode code 521 = .ok (.iaload, 1) := by decide +kernel
theorem d_law_522 : decode code 522 = .ok (.aload_n 0, 1) := by decide +kernel
theorem d_law_523 : decode code 523 = .ok (.iload_n 3, 1) := by decide +kernel
theorem d_law_524 : decode code 524 = .ok (.iconst 2, 1) := by decide +kernel
theorem d_law_525 : decode code 525 = .ok (.iadd, 1) := by decide +kernel
theorem d_law_526 : decode code 526 = .ok (.iaload, 1) := by decide +kernel
theorem d_law_527 : decode code 527 = .ok (.ifCond .eq 7, 3) := by decide +kernel
theorem d_law_530 : decode code 530 = .ok (.iconst 1, 1) := by decide +kernel
theorem d_law_531 : decode code 531 = .ok (.goto 4, 3) := by decide +kernel
theorem d_law_534 : decode code 534 = .ok (.iconst 0, 1) := by decide +kernel
theorem d_law_535 : decode code 535 = .ok (.invokevirtual 60, 3) := by decide +kernel
theorem d_law_538 : decode code 538 = .ok (.aload_n 2, 1) := by decide +kernel
theorem d_law_539 : decode code 539 = .ok (.aload_n 0, 1) := by decide +kernel
theorem d_law_540 : decode code 540 = .ok (.iload_n 3, 1) := by decide +kernel
theorem d_law_541 : decode code 541 = .ok (.iconst 1, 1) := by decide +kernel
theorem d_law_542 : decode code 542 = .ok (.iadd, 1) := by decide +kernel
theorem d_law_543 : decode code 543 = .ok (.iaload, 1) := by decide +kernel
theorem d_law_544 : decode code 544 = .ok (.aload_n 0, 1) := by decide +kernel
theorem d_law_545 : decode code 545 = .ok (.iload_n 3, 1) := by decide +kernel
theorem d_law_546 : decode code 546 = .ok (.iconst 2, 1) := by decide +kernel
theorem d_law_547 : decode code 547 = .ok (.iadd, 1) := by decide +kernel
theorem d_law_548 : decode code 548 = .ok (.iaload, 1) := by decide +kernel
theorem d_law_549 : decode code 549 = .ok (.ifCond .eq 7, 3) := by decide +kernel
theorem d_law_552 : decode code 552 = .ok (.iconst 1, 1) := by decide +kernel
theorem d_law_553 : decode code 553 = .ok (.goto 4, 3) := by decide +kernel
theorem d_law_556 : decode code 556 = .ok (.iconst 0, 1) := by decide +kernel
theorem d_law_557 : decode code 557 = .ok (.invokevirtual 64, 3) := by decide +kernel
theorem d_law_560 : decode code 560 = .ok (.if_icmp .eq 639, 3) := by decide +kernel
theorem d_law_563 : decode code 563 = .ok (.iconst 0, 1) := by decide +kernel
theorem d_law_564 : decode code 564 = .ok (.ireturn, 1) := by decide +kernel
theorem d_law_565 : decode code 565 = .ok (.aload_n 1, 1) := by decide +kernel
theorem d_law_566 : decode code 566 = .ok (.aload_n 0, 1) := by decide +kernel
theorem d_law_567 : decode code 567 = .ok (.iload_n 3, 1) := by decide +kernel
theorem d_law_568 : decode code 568 = .ok (.iconst 1, 1) := by decide +kernel
theorem d_law_569 : decode code 569 = .ok (.iadd, 1) := by decide +kernel
theorem d_law_570 : decode code 570 = .ok (.iaload, 1) := by decide +kernel
theorem d_law_571 : decode code 571 = .ok (.aload_n 0, 1) := by decide +kernel
theorem d_law_572 : decode code 572 = .ok (.iload_n 3, 1) := by decide +kernel
theorem d_law_573 : decode code 573 = .ok (.iconst 2, 1) := by decide +kernel
theorem d_law_574 : decode code 574 = .ok (.iadd, 1) := by decide +kernel
theorem d_law_575 : decode code 575 = .ok (.iaload, 1) := by decide +kernel
theorem d_law_576 : decode code 576 = .ok (.ifCond .eq 7, 3) := by decide +kernel
theorem d_law_579 : decode code 579 = .ok (.iconst 1, 1) := by decide +kernel
theorem d_law_580 : decode code 580 = .ok (.goto 4, 3) := by decide +kernel
theorem d_law_583 : decode code 583 = .ok (.iconst 0, 1) := by decide +kernel
theorem d_law_584 : decode code 584 = .ok (.invokevirtual 65, 3) := by decide +kernel
theorem d_law_587 : decode code 587 = .ok (.aload_n 2, 1) := by decide +kernel
theorem d_law_588 : decode code 588 = .ok (.aload_n 0, 1) := by decide +kernel
theorem d_law_589 : decode code 589 = .ok (.iload_n 3, 1) := by decide +kernel
theorem d_law_590 : decode code 590 = .ok (.iconst 1, 1) := by decide +kernel
theorem d_law_591 : decode code 591 = .ok (.iadd, 1) := by decide +kernel
theorem d_law_592 : decode code 592 = .ok (.iaload, 1) := by decide +kernel
theorem d_law_593 : decode code 593 = .ok (.aload_n 0, 1) := by decide +kernel
theorem d_law_594 : decode code 594 = .ok (.iload_n 3, 1) := by decide +kernel
theorem d_law_595 : decode code 595 = .ok (.iconst 2, 1) := by decide +kernel
theorem d_law_596 : decode code 596 = .ok (.iadd, 1) := by decide +kernel
theorem d_law_597 : decode code 597 = .ok (.iaload, 1) := by decide +kernel
theorem d_law_598 : decode code 598 = .ok (.ifCond .eq 7, 3) := by decide +kernel
theorem d_law_601 : decode code 601 = .ok (.iconst 1, 1) := by decide +kernel
theorem d_law_602 : decode code 602 = .ok (.goto 4, 3) := by decide +kernel
theorem d_law_605 : decode code 605 = .ok (.iconst 0, 1) := by decide +kernel
theorem d_law_606 : decode code 606 = .ok (.invokevirtual 68, 3) := by decide +kernel
theorem d_law_609 : decode code 609 = .ok (.if_icmp .eq 590, 3) := by decide +kernel
theorem d_law_612 : decode code 612 = .ok (.iconst 0, 1) := by decide +kernel
theorem d_law_613 : decode code 613 = .ok (.ireturn, 1) := by decide +kernel
theorem d_law_614 : decode code 614 = .ok (.aload_n 1, 1) := by decide +kernel
theorem d_law_615 : decode code 615 = .ok (.aload_n 0, 1) := by decide +kernel
theorem d_law_616 : decode code 616 = .ok (.iload_n 3, 1) := by decide +kernel
theorem d_law_617 : decode code 617 = .ok (.iconst 1, 1) := by decide +kernel
theorem d_law_618 : decode code 618 = .ok (.iadd, 1) := by decide +kernel
theorem d_law_619 : decode code 619 = .ok (.iaload, 1) := by decide +kernel
theorem d_law_620 : decode code 620 = .ok (.aload_n 0, 1) := by decide +kernel
theorem d_law_621 : decode code 621 = .ok (.iload_n 3, 1) := by decide +kernel
theorem d_law_622 : decode code 622 = .ok (.iconst 2, 1) := by decide +kernel
theorem d_law_623 : decode code 623 = .ok (.iadd, 1) := by decide +kernel
theorem d_law_624 : decode code 624 = .ok (.iaload, 1) := by decide +kernel
theorem d_law_625 : decode code 625 = .ok (.aload_n 0, 1) := by decide +kernel
theorem d_law_626 : decode code 626 = .ok (.iload_n 3, 1) := by decide +kernel
theorem d_law_627 : decode code 627 = .ok (.iconst 3, 1) := by decide +kernel
theorem d_law_628 : decode code 628 = .ok (.iadd, 1) := by decide +kernel
theorem d_law_629 : decode code 629 = .ok (.iaload, 1) := by decide +kernel
theorem d_law_630 : decode code 630 = .ok (.aload_n 0, 1) := by decide +kernel
theorem d_law_631 : decode code 631 = .ok (.iload_n 3, 1) := by decide +kernel
theorem d_law_632 : decode code 632 = .ok (.iconst 4, 1) := by decide +kernel
theorem d_law_633 : decode code 633 = .ok (.iadd, 1) := by decide +kernel
theorem d_law_634 : decode code 634 = .ok (.iaload, 1) := by decide +kernel
theorem d_law_635 : decode code 635 = .ok (.aload_n 0, 1) := by decide +kernel
theorem d_law_636 : decode code 636 = .ok (.iload_n 3, 1) := by decide +kernel
theorem d_law_637 : decode code 637 = .ok (.iconst 5, 1) := by decide +kernel
theorem d_law_638 : decode code 638 = .ok (.iadd, 1) := by decide +kernel
theorem d_law_639 : decode code 639 = .ok (.iaload, 1) := by decide +kernel
theorem d_law_640 : decode code 640 = .ok (.invokevirtual 69, 3) := by decide +kernel
theorem d_law_643 : decode code 643 = .ok (.aload_n 2, 1) := by decide +kernel
theorem d_law_644 : decode code 644 = .ok (.aload_n 0, 1) := by decide +kernel
theorem d_law_645 : decode code 645 = .ok (.iload_n 3, 1) := by decide +kernel
theorem d_law_646 : decode code 646 = .ok (.iconst 1, 1) := by decide +kernel
theorem d_law_647 : decode code 647 = .ok (.iadd, 1) := by decide +kernel
theorem d_law_648 : decode code 648 = .ok (.iaload, 1) := by decide +kernel
theorem d_law_649 : decode code 649 = .ok (.aload_n 0, 1) := by decide +kernel
theorem d_law_650 : decode code 650 = .ok (.iload_n 3, 1) := by decide +kernel
theorem d_law_651 : decode code 651 = .ok (.iconst 2, 1) := by decide +kernel
theorem d_law_652 : decode code 652 = .ok (.iadd, 1) := by decide +kernel
theorem d_law_653 : decode code 653 = .ok (.iaload, 1) := by decide +kernel
theorem d_law_654 : decode code 654 = .ok (.aload_n 0, 1) := by decide +kernel
theorem d_law_655 : decode code 655 = .ok (.iload_n 3, 1) := by decide +kernel
theorem d_law_656 : decode code 656 = .ok (.iconst 3, 1) := by decide +kernel
theorem d_law_657 : decode code 657 = .ok (.iadd, 1) := by decide +kernel
theorem d_law_658 : decode code 658 = .ok (.iaload, 1) := by decide +kernel
theorem d_law_659 : decode code 659 = .ok (.aload_n 0, 1) := by decide +kernel
theorem d_law_660 : decode code 660 = .ok (.iload_n 3, 1) := by decide +kernel
theorem d_law_661 : decode code 661 = .ok (.iconst 4, 1) := by decide +kernel
theorem d_law_662 : decode code 662 = .ok (.iadd, 1) := by decide +kernel
theorem d_law_663 : decode code 663 = .ok (.iaload, 1) := by decide +kernel
theorem d_law_664 : decode code 664 = .ok (.aload_n 0, 1) := by decide +kernel
theorem d_law_665 : decode code 665 = .ok (.iload_n 3, 1) := by decide +kernel
theorem d_law_666 : decode code 666 = .ok (.iconst 5, 1) := by decide +kernel
theorem d_law_667 : decode code 667 = .ok (.iadd, 1) := by decide +kernel
theorem d_law_668 : decode code 668 = .ok (.iaload, 1) := by decide +kernel
theorem d_law_669 : decode code 669 = .ok (.invokevirtual 72, 3) := by decide +kernel
theorem d_law_672 : decode code 672 = .ok (.if_icmp .eq 527, 3) := by decide +kernel
theorem d_law_675 : decode code 675 = .ok (.iconst 0, 1) := by decide +kernel
theorem d_law_676 : decode code 676 = .ok (.ireturn, 1) := by decide +kernel
theorem d_law_677 : decode code 677 = .ok (.aload_n 1, 1) := by decide +kernel
theorem d_law_678 : decode code 678 = .ok (.aload_n 0, 1) := by decide +kernel
theorem d_law_679 : decode code 679 = .ok (.iload_n 3, 1) := by decide +kernel
theorem d_law_680 : decode code 680 = .ok (.iconst 1, 1) := by decide +kernel
theorem d_law_681 : decode code 681 = .ok (.iadd, 1) := by decide +kernel
theorem d_law_682 : decode code 682 = .ok (.iaload, 1) := by decide +kernel
theorem d_law_683 : decode code 683 = .ok (.aload_n 0, 1) := by decide +kernel
theorem d_law_684 : decode code 684 = .ok (.iload_n 3, 1) := by decide +kernel
theorem d_law_685 : decode code 685 = .ok (.iconst 2, 1) := by decide +kernel
theorem d_law_686 : decode code 686 = .ok (.iadd, 1) := by decide +kernel
theorem d_law_687 : decode code 687 = .ok (.iaload, 1) := by decide +kernel
theorem d_law_688 : decode code 688 = .ok (.invokevirtual 73, 3) := by decide +kernel
theorem d_law_691 : decode code 691 = .ok (.aload_n 2, 1) := by decide +kernel
theorem d_law_692 : decode code 692 = .ok (.aload_n 0, 1) := by decide +kernel
theorem d_law_693 : decode code 693 = .ok (.iload_n 3, 1) := by decide +kernel
theorem d_law_694 : decode code 694 = .ok (.iconst 1, 1) := by decide +kernel
theorem d_law_695 : decode code 695 = .ok (.iadd, 1) := by decide +kernel
theorem d_law_696 : decode code 696 = .ok (.iaload, 1) := by decide +kernel
theorem d_law_697 : decode code 697 = .ok (.aload_n 0, 1) := by decide +kernel
theorem d_law_698 : decode code 698 = .ok (.iload_n 3, 1) := by decide +kernel
theorem d_law_699 : decode code 699 = .ok (.iconst 2, 1) := by decide +kernel
theorem d_law_700 : decode code 700 = .ok (.iadd, 1) := by decide +kernel
theorem d_law_701 : decode code 701 = .ok (.iaload, 1) := by decide +kernel
theorem d_law_702 : decode code 702 = .ok (.invokevirtual 76, 3) := by decide +kernel
theorem d_law_705 : decode code 705 = .ok (.if_icmp .eq 494, 3) := by decide +kernel
theorem d_law_708 : decode code 708 = .ok (.iconst 0, 1) := by decide +kernel
theorem d_law_709 : decode code 709 = .ok (.ireturn, 1) := by decide +kernel
theorem d_law_710 : decode code 710 = .ok (.aload_n 1, 1) := by decide +kernel
theorem d_law_711 : decode code 711 = .ok (.aload_n 0, 1) := by decide +kernel
theorem d_law_712 : decode code 712 = .ok (.iload_n 3, 1) := by decide +kernel
theorem d_law_713 : decode code 713 = .ok (.iconst 1, 1) := by decide +kernel
theorem d_law_714 : decode code 714 = .ok (.iadd, 1) := by decide +kernel
theorem d_law_715 : decode code 715 = .ok (.iaload, 1) := by decide +kernel
theorem d_law_716 : decode code 716 = .ok (.invokevirtual 77, 3) := by decide +kernel
theorem d_law_719 : decode code 719 = .ok (.aload_n 2, 1) := by decide +kernel
theorem d_law_720 : decode code 720 = .ok (.aload_n 0, 1) := by decide +kernel
theorem d_law_721 : decode code 721 = .ok (.iload_n 3, 1) := by decide +kernel
theorem d_law_722 : decode code 722 = .ok (.iconst 1, 1) := by decide +kernel
theorem d_law_723 : decode code 723 = .ok (.iadd, 1) := by decide +kernel
theorem d_law_724 : decode code 724 = .ok (.iaload, 1) := by decide +kernel
theorem d_law_725 : decode code 725 = .ok (.invokevirtual 80, 3) := by decide +kernel
theorem d_law_728 : decode code 728 = .ok (.if_icmp .eq 471, 3) := by decide +kernel
theorem d_law_731 : decode code 731 = .ok (.iconst 0, 1) := by decide +kernel
theorem d_law_732 : decode code 732 = .ok (.ireturn, 1) := by decide +kernel
theorem d_law_733 : decode code 733 = .ok (.aload_n 1, 1) := by decide +kernel
theorem d_law_734 : decode code 734 = .ok (.aload_n 0, 1) := by decide +kernel
theorem d_law_735 : decode code 735 = .ok (.iload_n 3, 1) := by decide +kernel
theorem d_law_736 : decode code 736 = .ok (.iconst 1, 1) := by decide +kernel
theorem d_law_737 : decode code 737 = .ok (.iadd, 1) := by decide +kernel
theorem d_law_738 : decode code 738 = .ok (.iaload, 1) := by decide +kernel
theorem d_law_739 : decode code 739 = .ok (.invokevirtual 81, 3) := by decide +kernel
theorem d_law_742 : decode code 742 = .ok (.aload_n 2, 1) := by decide +kernel
theorem d_law_743 : decode code 743 = .ok (.aload_n 0, 1) := by decide +kernel
theorem d_law_744 : decode code 744 = .ok (.iload_n 3, 1) := by decide +kernel
theorem d_law_745 : decode code 745 = .ok (.iconst 1, 1) := by decide +kernel
theorem d_law_746 : decode code 746 = .ok (.iadd, 1) := by decide +kernel
theorem d_law_747 : decode code 747 = .ok (.iaload, 1) := by decide +kernel
theorem d_law_748 : decode code 748 = .ok (.invokevirtual 84, 3) := by decide +kernel
theorem d_law_751 : decode code 751 = .ok (.if_icmp .eq 448, 3) := by decide +kernel
theorem d_law_754 : decode code 754 = .ok (.iconst 0, 1) := by decide +kernel
theorem d_law_755 : decode code 755 = .ok (.ireturn, 1) := by decide +kernel
theorem d_law_756 : decode code 756 = .ok (.aload_n 1, 1) := by decide +kernel
theorem d_law_757 : decode code 757 = .ok (.aload_n 0, 1) := by decide +kernel
theorem d_law_758 : decode code 758 = .ok (.iload_n 3, 1) := by decide +kernel
theorem d_law_759 : decode code 759 = .ok (.iconst 1, 1) := by decide +kernel
theorem d_law_760 : decode code 760 = .ok (.iadd, 1) := by decide +kernel
theorem d_law_761 : decode code 761 = .ok (.iaload, 1) := by decide +kernel
theorem d_law_762 : decode code 762 = .ok (.aload_n 0, 1) := by decide +kernel
theorem d_law_763 : decode code 763 = .ok (.iload_n 3, 1) := by decide +kernel
theorem d_law_764 : decode code 764 = .ok (.iconst 2, 1) := by decide +kernel
theorem d_law_765 : decode code 765 = .ok (.iadd, 1) := by decide +kernel
theorem d_law_766 : decode code 766 = .ok (.iaload, 1) := by decide +kernel
theorem d_law_767 : decode code 767 = .ok (.aload_n 0, 1) := by decide +kernel
theorem d_law_768 : decode code 768 = .ok (.iload_n 3, 1) := by decide +kernel
theorem d_law_769 : decode code 769 = .ok (.iconst 3, 1) := by decide +kernel
theorem d_law_770 : decode code 770 = .ok (.iadd, 1) := by decide +kernel
theorem d_law_771 : decode code 771 = .ok (.iaload, 1) := by decide +kernel
theorem d_law_772 : decode code 772 = .ok (.invokevirtual 85, 3) := by decide +kernel
theorem d_law_775 : decode code 775 = .ok (.aload_n 2, 1) := by decide +kernel
theorem d_law_776 : decode code 776 = .ok (.aload_n 0, 1) := by decide +kernel
theorem d_law_777 : decode code 777 = .ok (.iload_n 3, 1) := by decide +kernel
theorem d_law_778 : decode code 778 = .ok (.iconst 1, 1) := by decide +kernel
theorem d_law_779 : decode code 779 = .ok (.iadd, 1) := by decide +kernel
theorem d_law_780 : decode code 780 = .ok (.iaload, 1) := by decide +kernel
theorem d_law_781 : decode code 781 = .ok (.aload_n 0, 1) := by decide +kernel
theorem d_law_782 : decode code 782 = .ok (.iload_n 3, 1) := by decide +kernel
theorem d_law_783 : decode code 783 = .ok (.iconst 2, 1) := by decide +kernel
theorem d_law_784 : decode code 784 = .ok (.iadd, 1) := by decide +kernel
theorem d_law_785 : decode code 785 = .ok (.iaload, 1) := by decide +kernel
theorem d_law_786 : decode code 786 = .ok (.aload_n 0, 1) := by decide +kernel
theorem d_law_787 : decode code 787 = .ok (.iload_n 3, 1) := by decide +kernel
theorem d_law_788 : decode code 788 = .ok (.iconst 3, 1) := by decide +kernel
theorem d_law_789 : decode code 789 = .ok (.iadd, 1) := by decide +kernel
theorem d_law_790 : decode code 790 = .ok (.iaload, 1) := by decide +kernel
theorem d_law_791 : decode code 791 = .ok (.invokevirtual 88, 3) := by decide +kernel
theorem d_law_794 : decode code 794 = .ok (.if_icmp .eq 405, 3) := by decide +kernel
theorem d_law_797 : decode code 797 = .ok (.iconst 0, 1) := by decide +kernel
theorem d_law_798 : decode code 798 = .ok (.ireturn, 1) := by decide +kernel
theorem d_law_799 : decode code 799 = .ok (.aload_n 1, 1) := by decide +kernel
theorem d_law_800 : decode code 800 = .ok (.invokevirtual 89, 3) := by decide +kernel
theorem d_law_803 : decode code 803 = .ok (.aload_n 2, 1) := by decide +kernel
theorem d_law_804 : decode code 804 = .ok (.invokevirtual 92, 3) := by decide +kernel
theorem d_law_807 : decode code 807 = .ok (.if_icmp .eq 392, 3) := by decide +kernel
theorem d_law_810 : decode code 810 = .ok (.iconst 0, 1) := by decide +kernel
theorem d_law_811 : decode code 811 = .ok (.ireturn, 1) := by decide +kernel
theorem d_law_812 : decode code 812 = .ok (.aload_n 1, 1) := by decide +kernel
theorem d_law_813 : decode code 813 = .ok (.aload_n 0, 1) := by decide +kernel
theorem d_law_814 : decode code 814 = .ok (.iload_n 3, 1) := by decide +kernel
theorem d_law_815 : decode code 815 = .ok (.iconst 1, 1) := by decide +kernel
theorem d_law_816 : decode code 816 = .ok (.iadd, 1) := by decide +kernel
theorem d_law_817 : decode code 817 = .ok (.iaload, 1) := by decide +kernel
theorem d_law_818 : decode code 818 = .ok (.aload_n 0, 1) := by decide +kernel
theorem d_law_819 : decode code 819 = .ok (.iload_n 3, 1) := by decide +kernel
theorem d_law_820 : decode code 820 = .ok (.iconst 2, 1) := by decide +kernel
theorem d_law_821 : decode code 821 = .ok (.iadd, 1) := by decide +kernel
theorem d_law_822 : decode code 822 = .ok (.iaload, 1) := by decide +kernel
theorem d_law_823 : decode code 823 = .ok (.ifCond .eq 7, 3) := by decide +kernel
theorem d_law_826 : decode code 826 = .ok (.iconst 1, 1) := by decide +kernel
theorem d_law_827 : decode code 827 = .ok (.goto 4, 3) := by decide +kernel
theorem d_law_830 : decode code 830 = .ok (.iconst 0, 1) := by decide +kernel
theorem d_law_831 : decode code 831 = .ok (.invokevirtual 93, 3) := by decide +kernel
theorem d_law_834 : decode code 834 = .ok (.aload_n 2, 1) := by decide +kernel
theorem d_law_835 : decode code 835 = .ok (.aload_n 0, 1) := by decide +kernel
theorem d_law_836 : decode code 836 = .ok (.iload_n 3, 1) := by decide +kernel
theorem d_law_837 : decode code 837 = .ok (.iconst 1, 1) := by decide +kernel
theorem d_law_838 : decode code 838 = .ok (.iadd, 1) := by decide +kernel
theorem d_law_839 : decode code 839 = .ok (.iaload, 1) := by decide +kernel
theorem d_law_840 : decode code 840 = .ok (.aload_n 0, 1) := by decide +kernel
theorem d_law_841 : decode code 841 = .ok (.iload_n 3, 1) := by decide +kernel
theorem d_law_842 : decode code 842 = .ok (.iconst 2, 1) := by decide +kernel
theorem d_law_843 : decode code 843 = .ok (.iadd, 1) := by decide +kernel
theorem d_law_844 : decode code 844 = .ok (.iaload, 1) := by decide +kernel
theorem d_law_845 : decode code 845 = .ok (.ifCond .eq 7, 3) := by decide +kernel
theorem d_law_848 : decode code 848 = .ok (.iconst 1, 1) := by decide +kernel
theorem d_law_849 : decode code 849 = .ok (.goto 4, 3) := by decide +kernel
theorem d_law_852 : decode code 852 = .ok (.iconst 0, 1) := by decide +kernel
theorem d_law_853 : decode code 853 = .ok (.invokevirtual 97, 3) := by decide +kernel
theorem d_law_856 : decode code 856 = .ok (.if_icmp .eq 343, 3) := by decide +kernel
theorem d_law_859 : decode code 859 = .ok (.iconst 0, 1) := by decide +kernel
theorem d_law_860 : decode code 860 = .ok (.ireturn, 1) := by decide +kernel
theorem d_law_861 : decode code 861 = .ok (.aload_n 1, 1) := by decide +kernel
theorem d_law_862 : decode code 862 = .ok (.aload_n 0, 1) := by decide +kernel
theorem d_law_863 : decode code 863 = .ok (.iload_n 3, 1) := by decide +kernel
theorem d_law_864 : decode code 864 = .ok (.iconst 1, 1) := by decide +kernel
theorem d_law_865 : decode code 865 = .ok (.iadd, 1) := by decide +kernel
theorem d_law_866 : decode code 866 = .ok (.iaload, 1) := by decide +kernel
theorem d_law_867 : decode code 867 = .ok (.aload_n 0, 1) := by decide +kernel
theorem d_law_868 : decode code 868 = .ok (.iload_n 3, 1) := by decide +kernel
theorem d_law_869 : decode code 869 = .ok (.iconst 2, 1) := by decide +kernel
theorem d_law_870 : decode code 870 = .ok (.iadd, 1) := by decide +kernel
theorem d_law_871 : decode code 871 = .ok (.iaload, 1) := by decide +kernel
theorem d_law_872 : decode code 872 = .ok (.invokevirtual 98, 3) := by decide +kernel
theorem d_law_875 : decode code 875 = .ok (.aload_n 2, 1) := by decide +kernel
theorem d_law_876 : decode code 876 = .ok (.aload_n 0, 1) := by decide +kernel
theorem d_law_877 : decode code 877 = .ok (.iload_n 3, 1) := by decide +kernel
theorem d_law_878 : decode code 878 = .ok (.iconst 1, 1) := by decide +kernel
theorem d_law_879 : decode code 879 = .ok (.iadd, 1) := by decide +kernel
theorem d_law_880 : decode code 880 = .ok (.iaload, 1) := by decide +kernel
theorem d_law_881 : decode code 881 = .ok (.aload_n 0, 1) := by decide +kernel
theorem d_law_882 : decode code 882 = .ok (.iload_n 3, 1) := by decide +kernel
theorem d_law_883 : decode code 883 = .ok (.iconst 2, 1) := by decide +kernel
theorem d_law_884 : decode code 884 = .ok (.iadd, 1) := by decide +kernel
theorem d_law_885 : decode code 885 = .ok (.iaload, 1) := by decide +kernel
theorem d_law_886 : decode code 886 = .ok (.invokevirtual 101, 3) := by decide +kernel
theorem d_law_889 : decode code 889 = .ok (.if_icmp .eq 310, 3) := by decide +kernel
theorem d_law_892 : decode code 892 = .ok (.iconst 0, 1) := by decide +kernel
theorem d_law_893 : decode code 893 = .ok (.ireturn, 1) := by decide +kernel
theorem d_law_894 : decode code 894 = .ok (.aload_n 1, 1) := by decide +kernel
theorem d_law_895 : decode code 895 = .ok (.invokevirtual 102, 3) := by decide +kernel
theorem d_law_898 : decode code 898 = .ok (.aload_n 2, 1) := by decide +kernel
theorem d_law_899 : decode code 899 = .ok (.invokevirtual 106, 3) := by decide +kernel
theorem d_law_902 : decode code 902 = .ok (.if_icmp .eq 297, 3) := by decide +kernel
theorem d_law_905 : decode code 905 = .ok (.iconst 0, 1) := by decide +kernel
theorem d_law_906 : decode code 906 = .ok (.ireturn, 1) := by decide +kernel
theorem d_law_907 : decode code 907 = .ok (.aload_n 1, 1) := by decide +kernel
theorem d_law_908 : decode code 908 = .ok (.aload_n 0, 1) := by decide +kernel
theorem d_law_909 : decode code 909 = .ok (.iload_n 3, 1) := by decide +kernel
theorem d_law_910 : decode code 910 = .ok (.iconst 1, 1) := by decide +kernel
theorem d_law_911 : decode code 911 = .ok (.iadd, 1) := by decide +kernel
theorem d_law_912 : decode code 912 = .ok (.iaload, 1) := by decide +kernel
theorem d_law_913 : decode code 913 = .ok (.invokevirtual 107, 3) := by decide +kernel
theorem d_law_916 : decode code 916 = .ok (.aload_n 2, 1) := by decide +kernel
theorem d_law_917 : decode code 917 = .ok (.aload_n 0, 1) := by decide +kernel
theorem d_law_918 : decode code 918 = .ok (.iload_n 3, 1) := by decide +kernel
theorem d_law_919 : decode code 919 = .ok (.iconst 1, 1) := by decide +kernel
theorem d_law_920 : decode code 920 = .ok (.iadd, 1) := by decide +kernel
theorem d_law_921 : decode code 921 = .ok (.iaload, 1) := by decide +kernel
theorem d_law_922 : decode code 922 = .ok (.invokevirtual 110, 3) := by decide +kernel
theorem d_law_925 : decode code 925 = .ok (.if_icmp .eq 274, 3) := by decide +kernel
theorem d_law_928 : decode code 928 = .ok (.iconst 0, 1) := by decide +kernel
theorem d_law_929 : decode code 929 = .ok (.ireturn, 1) := by decide +kernel
theorem d_law_930 : decode code 930 = .ok (.aload_n 1, 1) := by decide +kernel
theorem d_law_931 : decode code 931 = .ok (.aload_n 0, 1) := by decide +kernel
theorem d_law_932 : decode code 932 = .ok (.iload_n 3, 1) := by decide +kernel
theorem d_law_933 : decode code 933 = .ok (.iconst 1, 1) := by decide +kernel
theorem d_law_934 : decode code 934 = .ok (.iadd, 1) := by decide +kernel
theorem d_law_935 : decode code 935 = .ok (.iaload, 1) := by decide +kernel
theorem d_law_936 : decode code 936 = .ok (.aload_n 0, 1) := by decide +kernel
theorem d_law_937 : decode code 937 = .ok (.iload_n 3, 1) := by decide +kernel
theorem d_law_938 : decode code 938 = .ok (.iconst 2, 1) := by decide +kernel
theorem d_law_939 : decode code 939 = .ok (.iadd, 1) := by decide +kernel
theorem d_law_940 : decode code 940 = .ok (.iaload, 1) := by decide +kernel
theorem d_law_941 : decode code 941 = .ok (.invokevirtual 111, 3) := by decide +kernel
theorem d_law_944 : decode code 944 = .ok (.aload_n 2, 1) := by decide +kernel
theorem d_law_945 : decode code 945 = .ok (.aload_n 0, 1) := by decide +kernel
theorem d_law_946 : decode code 946 = .ok (.iload_n 3, 1) := by decide +kernel
theorem d_law_947 : decode code 947 = .ok (.iconst 1, 1) := by decide +kernel
theorem d_law_948 : decode code 948 = .ok (.iadd, 1) := by decide +kernel
theorem d_law_949 : decode code 949 = .ok (.iaload, 1) := by decide +kernel
theorem d_law_950 : decode code 950 = .ok (.aload_n 0, 1) := by decide +kernel
theorem d_law_951 : decode code 951 = .ok (.iload_n 3, 1) := by decide +kernel
theorem d_law_952 : decode code 952 = .ok (.iconst 2, 1) := by decide +kernel
theorem d_law_953 : decode code 953 = .ok (.iadd, 1) := by decide +kernel
theorem d_law_954 : decode code 954 = .ok (.iaload, 1) := by decide +kernel
theorem d_law_955 : decode code 955 = .ok (.invokevirtual 114, 3) := by decide +kernel
theorem d_law_958 : decode code 958 = .ok (.if_icmp .eq 241, 3) := by decide +kernel
theorem d_law_961 : decode code 961 = .ok (.iconst 0, 1) := by decide +kernel
theorem d_law_962 : decode code 962 = .ok (.ireturn, 1) := by decide +kernel
theorem d_law_963 : decode code 963 = .ok (.aload_n 1, 1) := by decide +kernel
theorem d_law_964 : decode code 964 = .ok (.aload_n 0, 1) := by decide +kernel
theorem d_law_965 : decode code 965 = .ok (.iload_n 3, 1) := by decide +kernel
theorem d_law_966 : decode code 966 = .ok (.iconst 1, 1) := by decide +kernel
theorem d_law_967 : decode code 967 = .ok (.iadd, 1) := by decide +kernel
theorem d_law_968 : decode code 968 = .ok (.iaload, 1) := by decide +kernel
theorem d_law_969 : decode code 969 = .ok (.invokevirtual 115, 3) := by decide +kernel
theorem d_law_972 : decode code 972 = .ok (.aload_n 2, 1) := by decide +kernel
theorem d_law_973 : decode code 973 = .ok (.aload_n 0, 1) := by decide +kernel
theorem d_law_974 : decode code 974 = .ok (.iload_n 3, 1) := by decide +kernel
theorem d_law_975 : decode code 975 = .ok (.iconst 1, 1) := by decide +kernel
theorem d_law_976 : decode code 976 = .ok (.iadd, 1) := by decide +kernel
theorem d_law_977 : decode code 977 = .ok (.iaload, 1) := by decide +kernel
theorem d_law_978 : decode code 978 = .ok (.invokevirtual 118, 3) := by decide +kernel
theorem d_law_981 : decode code 981 = .ok (.if_icmp .eq 218, 3) := by decide +kernel
theorem d_law_984 : decode code 984 = .ok (.iconst 0, 1) := by decide +kernel
theorem d_law_985 : decode code 985 = .ok (.ireturn, 1) := by decide +kernel
theorem d_law_986 : decode code 986 = .ok (.aload_n 1, 1) := by decide +kernel
theorem d_law_987 : decode code 987 = .ok (.aload_n 0, 1) := by decide +kernel
theorem d_law_988 : decode code 988 = .ok (.iload_n 3, 1) := by decide +kernel
theorem d_law_989 : decode code 989 = .ok (.iconst 1, 1) := by decide +kernel
theorem d_law_990 : decode code 990 = .ok (.iadd, 1) := by decide +kernel
theorem d_law_991 : decode code 991 = .ok (.iaload, 1) := by decide +kernel
theorem d_law_992 : decode code 992 = .ok (.invokevirtual 119, 3) := by decide +kernel
theorem d_law_995 : decode code 995 = .ok (.aload_n 2, 1) := by decide +kernel
theorem d_law_996 : decode code 996 = .ok (.aload_n 0, 1) := by decide +kernel
theorem d_law_997 : decode code 997 = .ok (.iload_n 3, 1) := by decide +kernel
theorem d_law_998 : decode code 998 = .ok (.iconst 1, 1) := by decide +kernel
theorem d_law_999 : decode code 999 = .ok (.iadd, 1) := by decide +kernel
theorem d_law_1000 : decode code 1000 = .ok (.iaload, 1) := by decide +kernel
theorem d_law_1001 : decode code 1001 = .ok (.invokevirtual 122, 3) := by decide +kernel
theorem d_law_1004 : decode code 1004 = .ok (.if_icmp .eq 195, 3) := by decide +kernel
theorem d_law_1007 : decode code 1007 = .ok (.iconst 0, 1) := by decide +kernel
theorem d_law_1008 : decode code 1008 = .ok (.ireturn, 1) := by decide +kernel
theorem d_law_1009 : decode code 1009 = .ok (.aload_n 1, 1) := by decide +kernel
theorem d_law_1010 : decode code 1010 = .ok (.aload_n 0, 1) := by decide +kernel
theorem d_law_1011 : decode code 1011 = .ok (.iload_n 3, 1) := by decide +kernel
theorem d_law_1012 : decode code 1012 = .ok (.iconst 1, 1) := by decide +kernel
theorem d_law_1013 : decode code 1013 = .ok (.iadd, 1) := by decide +kernel
theorem d_law_1014 : decode code 1014 = .ok (.iaload, 1) := by decide +kernel
theorem d_law_1015 : decode code 1015 = .ok (.invokevirtual 123, 3) := by decide +kernel
theorem d_law_1018 : decode code 1018 = .ok (.aload_n 2, 1) := by decide +kernel
theorem d_law_1019 : decode code 1019 = .ok (.aload_n 0, 1) := by decide +kernel
theorem d_law_1020 : decode code 1020 = .ok (.iload_n 3, 1) := by decide +kernel
theorem d_law_1021 : decode code 1021 = .ok (.iconst 1, 1) := by decide +kernel
theorem d_law_1022 : decode code 1022 = .ok (.iadd, 1) := by decide +kernel
theorem d_law_1023 : decode code 1023 = .ok (.iaload, 1) := by decide +kernel
theorem d_law_1024 : decode code 1024 = .ok (.invokevirtual 126, 3) := by decide +kernel
theorem d_law_1027 : decode code 1027 = .ok (.if_icmp .eq 172, 3) := by decide +kernel
theorem d_law_1030 : decode code 1030 = .ok (.iconst 0, 1) := by decide +kernel
theorem d_law_1031 : decode code 1031 = .ok (.ireturn, 1) := by decide +kernel
theorem d_law_1032 : decode code 1032 = .ok (.aload_n 1, 1) := by decide +kernel
theorem d_law_1033 : decode code 1033 = .ok (.aload_n 0, 1) := by decide +kernel
theorem d_law_1034 : decode code 1034 = .ok (.iload_n 3, 1) := by decide +kernel
theorem d_law_1035 : decode code 1035 = .ok (.iconst 1, 1) := by decide +kernel
theorem d_law_1036 : decode code 1036 = .ok (.iadd, 1) := by decide +kernel
theorem d_law_1037 : decode code 1037 = .ok (.iaload, 1) := by decide +kernel
theorem d_law_1038 : decode code 1038 = .ok (.ifCond .eq 7, 3) := by decide +kernel
theorem d_law_1041 : decode code 1041 = .ok (.iconst 1, 1) := by decide +kernel
theorem d_law_1042 : decode code 1042 = .ok (.goto 4, 3) := by decide +kernel
theorem d_law_1045 : decode code 1045 = .ok (.iconst 0, 1) := by decide +kernel
theorem d_law_1046 : decode code 1046 = .ok (.invokevirtual 127, 3) := by decide +kernel
theorem d_law_1049 : decode code 1049 = .ok (.aload_n 2, 1) := by decide +kernel
theorem d_law_1050 : decode code 1050 = .ok (.aload_n 0, 1) := by decide +kernel
theorem d_law_1051 : decode code 1051 = .ok (.iload_n 3, 1) := by decide +kernel
theorem d_law_1052 : decode code 1052 = .ok (.iconst 1, 1) := by decide +kernel
theorem d_law_1053 : decode code 1053 = .ok (.iadd, 1) := by decide +kernel
theorem d_law_1054 : decode code 1054 = .ok (.iaload, 1) := by decide +kernel
theorem d_law_1055 : decode code 1055 = .ok (.ifCond .eq 7, 3) := by decide +kernel
theorem d_law_1058 : decode code 1058 = .ok (.iconst 1, 1) := by decide +kernel
theorem d_law_1059 : decode code 1059 = .ok (.goto 4, 3) := by decide +kernel
theorem d_law_1062 : decode code 1062 = .ok (.iconst 0, 1) := by decide +kernel
theorem d_law_1063 : decode code 1063 = .ok (.invokevirtual 131, 3) := by decide +kernel
theorem d_law_1066 : decode code 1066 = .ok (.if_icmp .eq 133, 3) := by decide +kernel
theorem d_law_1069 : decode code 1069 = .ok (.iconst 0, 1) := by decide +kernel
theorem d_law_1070 : decode code 1070 = .ok (.ireturn, 1) := by decide +kernel
theorem d_law_1071 : decode code 1071 = .ok (.aload_n 1, 1) := by decide +kernel
theorem d_law_1072 : decode code 1072 = .ok (.aload_n 0, 1) := by decide +kernel
theorem d_law_1073 : decode code 1073 = .ok (.iload_n 3, 1) := by decide +kernel
theorem d_law_1074 : decode code 1074 = .ok (.iconst 1, 1) := by decide +kernel
theorem d_law_1075 : decode code 1075 = .ok (.iadd, 1) := by decide +kernel
theorem d_law_1076 : decode code 1076 = .ok (.iaload, 1) := by decide +kernel
theorem d_law_1077 : decode code 1077 = .ok (.invokevirtual 132, 3) := by decide +kernel
theorem d_law_1080 : decode code 1080 = .ok (.aload_n 2, 1) := by decide +kernel
theorem d_law_1081 : decode code 1081 = .ok (.aload_n 0, 1) := by decide +kernel
theorem d_law_1082 : decode code 1082 = .ok (.iload_n 3, 1) := by decide +kernel
theorem d_law_1083 : decode code 1083 = .ok (.iconst 1, 1) := by decide +kernel
theorem d_law_1084 : decode code 1084 = .ok (.iadd, 1) := by decide +kernel
theorem d_law_1085 : decode code 1085 = .ok (.iaload, 1) := by decide +kernel
theorem d_law_1086 : decode code 1086 = .ok (.invokevirtual 135, 3) := by decide +kernel
theorem d_law_1089 : decode code 1089 = .ok (.if_icmp .eq 110, 3) := by decide +kernel
theorem d_law_1092 : decode code 1092 = .ok (.iconst 0, 1) := by decide +kernel
theorem d_law_1093 : decode code 1093 = .ok (.ireturn, 1) := by decide +kernel
theorem d_law_1094 : decode code 1094 = .ok (.aload_n 1, 1) := by decide +kernel
theorem d_law_1095 : decode code 1095 = .ok (.aload_n 0, 1) := by decide +kernel
theorem d_law_1096 : decode code 1096 = .ok (.iload_n 3, 1) := by decide +kernel
theorem d_law_1097 : decode code 1097 = .ok (.iconst 1, 1) := by decide +kernel
theorem d_law_1098 : decode code 1098 = .ok (.iadd, 1) := by decide +kernel
theorem d_law_1099 : decode code 1099 = .ok (.iaload, 1) := by decide +kernel
theorem d_law_1100 : decode code 1100 = .ok (.aload_n 0, 1) := by decide +kernel
theorem d_law_1101 : decode code 1101 = .ok (.iload_n 3, 1) := by decide +kernel
theorem d_law_1102 : decode code 1102 = .ok (.iconst 2, 1) := by decide +kernel
theorem d_law_1103 : decode code 1103 = .ok (.iadd, 1) := by decide +kernel
theorem d_law_1104 : decode code 1104 = .ok (.iaload, 1) := by decide +kernel
theorem d_law_1105 : decode code 1105 = .ok (.invokevirtual 136, 3) := by decide +kernel
theorem d_law_1108 : decode code 1108 = .ok (.aload_n 2, 1) := by decide +kernel
theorem d_law_1109 : decode code 1109 = .ok (.aload_n 0, 1) := by decide +kernel
theorem d_law_1110 : decode code 1110 = .ok (.iload_n 3, 1) := by decide +kernel
theorem d_law_1111 : decode code 1111 = .ok (.iconst 1, 1) := by decide +kernel
theorem d_law_1112 : decode code 1112 = .ok (.iadd, 1) := by decide +kernel
theorem d_law_1113 : decode code 1113 = .ok (.iaload, 1) := by decide +kernel
theorem d_law_1114 : decode code 1114 = .ok (.aload_n 0, 1) := by decide +kernel
theorem d_law_1115 : decode code 1115 = .ok (.iload_n 3, 1) := by decide +kernel
theorem d_law_1116 : decode code 1116 = .ok (.iconst 2, 1) := by decide +kernel
theorem d_law_1117 : decode code 1117 = .ok (.iadd, 1) := by decide +kernel
theorem d_law_1118 : decode code 1118 = .ok (.iaload, 1) := by decide +kernel
theorem d_law_1119 : decode code 1119 = .ok (.invokevirtual 139, 3) := by decide +kernel
theorem d_law_1122 : decode code 1122 = .ok (.if_icmp .eq 77, 3) := by decide +kernel
theorem d_law_1125 : decode code 1125 = .ok (.iconst 0, 1) := by decide +kernel
theorem d_law_1126 : decode code 1126 = .ok (.ireturn, 1) := by decide +kernel
theorem d_law_1127 : decode code 1127 = .ok (.aload_n 1, 1) := by decide +kernel
theorem d_law_1128 : decode code 1128 = .ok (.invokevirtual 140, 3) := by decide +kernel
theorem d_law_1131 : decode code 1131 = .ok (.aload_n 2, 1) := by decide +kernel
theorem d_law_1132 : decode code 1132 = .ok (.invokevirtual 143, 3) := by decide +kernel
theorem d_law_1135 : decode code 1135 = .ok (.if_icmp .eq 64, 3) := by decide +kernel
theorem d_law_1138 : decode code 1138 = .ok (.iconst 0, 1) := by decide +kernel
theorem d_law_1139 : decode code 1139 = .ok (.ireturn, 1) := by decide +kernel
theorem d_law_1140 : decode code 1140 = .ok (.aload_n 1, 1) := by decide +kernel
theorem d_law_1141 : decode code 1141 = .ok (.aload_n 0, 1) := by decide +kernel
theorem d_law_1142 : decode code 1142 = .ok (.iload_n 3, 1) := by decide +kernel
theorem d_law_1143 : decode code 1143 = .ok (.iconst 1, 1) := by decide +kernel
theorem d_law_1144 : decode code 1144 = .ok (.iadd, 1) := by decide +kernel
theorem d_law_1145 : decode code 1145 = .ok (.iaload, 1) := by decide +kernel
theorem d_law_1146 : decode code 1146 = .ok (.invokevirtual 144, 3) := by decide +kernel
theorem d_law_1149 : decode code 1149 = .ok (.aload_n 2, 1) := by decide +kernel
theorem d_law_1150 : decode code 1150 = .ok (.aload_n 0, 1) := by decide +kernel
theorem d_law_1151 : decode code 1151 = .ok (.iload_n 3, 1) := by decide +kernel
theorem d_law_1152 : decode code 1152 = .ok (.iconst 1, 1) := by decide +kernel
theorem d_law_1153 : decode code 1153 = .ok (.iadd, 1) := by decide +kernel
theorem d_law_1154 : decode code 1154 = .ok (.iaload, 1) := by decide +kernel
theorem d_law_1155 : decode code 1155 = .ok (.invokevirtual 147, 3) := by decide +kernel
theorem d_law_1158 : decode code 1158 = .ok (.if_icmp .eq 41, 3) := by decide +kernel
theorem d_law_1161 : decode code 1161 = .ok (.iconst 0, 1) := by decide +kernel
theorem d_law_1162 : decode code 1162 = .ok (.ireturn, 1) := by decide +kernel
theorem d_law_1163 : decode code 1163 = .ok (.aload_n 1, 1) := by decide +kernel
theorem d_law_1164 : decode code 1164 = .ok (.invokevirtual 148, 3) := by decide +kernel
theorem d_law_1167 : decode code 1167 = .ok (.aload_n 2, 1) := by decide +kernel
theorem d_law_1168 : decode code 1168 = .ok (.invokevirtual 151, 3) := by decide +kernel
theorem d_law_1171 : decode code 1171 = .ok (.if_icmp .eq 28, 3) := by decide +kernel
theorem d_law_1174 : decode code 1174 = .ok (.iconst 0, 1) := by decide +kernel
theorem d_law_1175 : decode code 1175 = .ok (.ireturn, 1) := by decide +kernel
theorem d_law_1176 : decode code 1176 = .ok (.aload_n 1, 1) := by decide +kernel
theorem d_law_1177 : decode code 1177 = .ok (.aload_n 0, 1) := by decide +kernel
theorem d_law_1178 : decode code 1178 = .ok (.iload_n 3, 1) := by decide +kernel
theorem d_law_1179 : decode code 1179 = .ok (.iconst 1, 1) := by decide +kernel
theorem d_law_1180 : decode code 1180 = .ok (.iadd, 1) := by decide +kernel
theorem d_law_1181 : decode code 1181 = .ok (.iaload, 1) := by decide +kernel
theorem d_law_1182 : decode code 1182 = .ok (.invokevirtual 152, 3) := by decide +kernel
theorem d_law_1185 : decode code 1185 = .ok (.aload_n 2, 1) := by decide +kernel
theorem d_law_1186 : decode code 1186 = .ok (.aload_n 0, 1) := by decide +kernel
theorem d_law_1187 : decode code 1187 = .ok (.iload_n 3, 1) := by decide +kernel
theorem d_law_1188 : decode code 1188 = .ok (.iconst 1, 1) := by decide +kernel
theorem d_law_1189 : decode code 1189 = .ok (.iadd, 1) := by decide +kernel
theorem d_law_1190 : decode code 1190 = .ok (.iaload, 1) := by decide +kernel
theorem d_law_1191 : decode code 1191 = .ok (.invokevirtual 155, 3) := by decide +kernel
theorem d_law_1194 : decode code 1194 = .ok (.if_icmp .eq 5, 3) := by decide +kernel
theorem d_law_1197 : decode code 1197 = .ok (.iconst 0, 1) := by decide +kernel
theorem d_law_1198 : decode code 1198 = .ok (.ireturn, 1) := by decide +kernel
theorem d_law_1199 : decode code 1199 = .ok (.iinc 3 6, 3) := by decide +kernel
theorem d_law_1202 : decode code 1202 = .ok (.goto (-1184), 3) := by decide +kernel
theorem d_law_1205 : decode code 1205 = .ok (.iconst 1, 1) := by decide +kernel
theorem d_law_1206 : decode code 1206 = .ok (.ireturn, 1) := by decide +kernel
