theorem k105 : Jvm.Cond.initialized "java/lang/String" ∈ tb := sub1 (List.mem_of_getElem? (l := tables_1_1) (i := 5) rfl) rfl
theorem k106 : Jvm.Cond.initialized "java/lang/StringLatin1" ∈ tb := sub1 (List.mem_of_getElem? (l := tables_1_1) (i := 6) rfl) rfl
theorem k107 : Jvm.Cond.initialized "jdk/internal/util/Preconditions" ∈ tb := sub1 (List.mem_of_getElem? (l := tables_1_1) (i := 7) rfl) rfl
theorem k157 : Jvm.Cond.instanceMethod ({ cls := "java/lang/String", name := "length", desc := "()I" } : Jvm.MethodName) ∈ tb := sub1 (List.mem_of_getElem? (l := tables_1_1) (i := 57) rfl) rfl
theorem k158 : Jvm.Cond.selects "java/lang/String" ({ cls := "java/lang/String", name := "length", desc := "()I" } : Jvm.MethodName) ({ cls := "java/lang/String", name := "length", desc := "()I" } : Jvm.MethodName) ∈ tb := sub1 (List.mem_of_getElem? (l := tables_1_1) (i := 58) rfl) rfl
theorem k159 : Jvm.Cond.code ({ cls := "java/lang/String", name := "length", desc := "()I" } : Jvm.MethodName) prog_15_method_54_code (1 : Nat) (Option.some Jvm.ClassFile.FieldType.int) ∈ tb := sub1 (List.mem_of_getElem? (l := tables_1_1) (i := 59) rfl) rfl
theorem k160 : Jvm.Cond.methodLink "java/lang/String" (335 : Nat) ({ cls := "java/lang/String", name := "coder", desc := "()B" } : Jvm.MethodName) ∈ tb := sub1 (List.mem_of_getElem? (l := tables_1_1) (i := 60) rfl) rfl
theorem k161 : Jvm.Cond.instanceMethod ({ cls := "java/lang/String", name := "coder", desc := "()B" } : Jvm.MethodName) ∈ tb := sub1 (List.mem_of_getElem? (l := tables_1_1) (i := 61) rfl) rfl
theorem k162 : Jvm.Cond.selects "java/lang/String" ({ cls := "java/lang/String", name := "coder", desc := "()B" } : Jvm.MethodName) ({ cls := "java/lang/String", name := "coder", desc := "()B" } : Jvm.MethodName) ∈ tb := sub1 (List.mem_of_getElem? (l := tables_1_1) (i := 62) rfl) rfl
theorem k163 : Jvm.Cond.code ({ cls := "java/lang/String", name := "coder", desc := "()B" } : Jvm.MethodName) prog_15_method_152_code (1 : Nat) (Option.some Jvm.ClassFile.FieldType.byte) ∈ tb := sub1 (List.mem_of_getElem? (l := tables_1_1) (i := 63) rfl) rfl
theorem k164 : Jvm.Cond.fieldLink "java/lang/String" (38 : Nat) "java/lang/String" "COMPACT_STRINGS" "Z" ∈ tb := sub1 (List.mem_of_getElem? (l := tables_1_1) (i := 64) rfl) rfl
theorem k167 : Jvm.Cond.instanceMethod ({ cls := "java/lang/String", name := "charAt", desc := "(I)C" } : Jvm.MethodName) ∈ tb := sub1 (List.mem_of_getElem? (l := tables_1_1) (i := 67) rfl) rfl
theorem k168 : Jvm.Cond.selects "java/lang/String" ({ cls := "java/lang/String", name := "charAt", desc := "(I)C" } : Jvm.MethodName) ({ cls := "java/lang/String", name := "charAt", desc := "(I)C" } : Jvm.MethodName) ∈ tb := sub1 (List.mem_of_getElem? (l := tables_1_1) (i := 68) rfl) rfl
theorem k169 : Jvm.Cond.code ({ cls := "java/lang/String", name := "charAt", desc := "(I)C" } : Jvm.MethodName) prog_15_method_56_code (2 : Nat) (Option.some Jvm.ClassFile.FieldType.char) ∈ tb := sub1 (List.mem_of_getElem? (l := tables_1_1) (i := 69) rfl) rfl
theorem k170 : Jvm.Cond.methodLink "java/lang/String" (492 : Nat) ({ cls := "java/lang/String", name := "isLatin1", desc := "()Z" } : Jvm.MethodName) ∈ tb := sub1 (List.mem_of_getElem? (l := tables_1_1) (i := 70) rfl) rfl
theorem k171 : Jvm.Cond.instanceMethod ({ cls := "java/lang/String", name := "isLatin1", desc := "()Z" } : Jvm.MethodName) ∈ tb := sub1 (List.mem_of_getElem? (l := tables_1_1) (i := 71) rfl) rfl
theorem k172 : Jvm.Cond.selects "java/lang/String" ({ cls := "java/lang/String", name := "isLatin1", desc := "()Z" } : Jvm.MethodName) ({ cls := "java/lang/String", name := "isLatin1", desc := "()Z" } : Jvm.MethodName) ∈ tb := sub1 (List.mem_of_getElem? (l := tables_1_1) (i := 72) rfl) rfl
theorem k173 : Jvm.Cond.code ({ cls := "java/lang/String", name := "isLatin1", desc := "()Z" } : Jvm.MethodName) prog_15_method_154_code (1 : Nat) (Option.some Jvm.ClassFile.FieldType.boolean) ∈ tb := sub1 (List.mem_of_getElem? (l := tables_1_1) (i := 73) rfl) rfl
theorem k174 : Jvm.Cond.methodLink "java/lang/String" (495 : Nat) ({ cls := "java/lang/StringLatin1", name := "charAt", desc := "([BI)C" } : Jvm.MethodName) ∈ tb := sub1 (List.mem_of_getElem? (l := tables_1_1) (i := 74) rfl) rfl
theorem k175 : Jvm.Cond.static ({ cls := "java/lang/StringLatin1", name := "charAt", desc := "([BI)C" } : Jvm.MethodName) ∈ tb := sub1 (List.mem_of_getElem? (l := tables_1_1) (i := 75) rfl) rfl
theorem k176 : Jvm.Cond.code ({ cls := "java/lang/StringLatin1", name := "charAt", desc := "([BI)C" } : Jvm.MethodName) prog_16_method_2_code (2 : Nat) (Option.some Jvm.ClassFile.FieldType.char) ∈ tb := sub1 (List.mem_of_getElem? (l := tables_1_1) (i := 76) rfl) rfl
theorem k177 : Jvm.Cond.methodLink "java/lang/StringLatin1" (9 : Nat) ({ cls := "java/lang/String", name := "checkIndex", desc := "(II)V" } : Jvm.MethodName) ∈ tb := sub1 (List.mem_of_getElem? (l := tables_1_1) (i := 77) rfl) rfl
theorem k178 : Jvm.Cond.static ({ cls := "java/lang/String", name := "checkIndex", desc := "(II)V" } : Jvm.MethodName) ∈ tb := sub1 (List.mem_of_getElem? (l := tables_1_1) (i := 78) rfl) rfl
theorem k179 : Jvm.Cond.code ({ cls := "java/lang/String", name := "checkIndex", desc := "(II)V" } : Jvm.MethodName) prog_15_method_155_code (2 : Nat) (Option.none : Option Jvm.ClassFile.FieldType) ∈ tb := sub1 (List.mem_of_getElem? (l := tables_1_1) (i := 79) rfl) rfl
theorem k180 : Jvm.Cond.fieldLink "java/lang/String" (1053 : Nat) "jdk/internal/util/Preconditions" "SIOOBE_FORMATTER" "Ljava/util/function/BiFunction;" ∈ tb := sub1 (List.mem_of_getElem? (l := tables_1_1) (i := 80) rfl) rfl
theorem k182 : Jvm.Cond.methodLink "java/lang/String" (1059 : Nat) ({ cls := "jdk/internal/util/Preconditions", name := "checkIndex", desc := "(IILjava/util/function/BiFunction;)I" } : Jvm.MethodName) ∈ tb := sub1 (List.mem_of_getElem? (l := tables_1_1) (i := 82) rfl) rfl
theorem k183 : Jvm.Cond.static ({ cls := "jdk/internal/util/Preconditions", name := "checkIndex", desc := "(IILjava/util/function/BiFunction;)I" } : Jvm.MethodName) ∈ tb := sub1 (List.mem_of_getElem? (l := tables_1_1) (i := 83) rfl) rfl
theorem k184 : Jvm.Cond.code ({ cls := "jdk/internal/util/Preconditions", name := "checkIndex", desc := "(IILjava/util/function/BiFunction;)I" } : Jvm.MethodName) prog_20_method_11_code (3 : Nat) (Option.some Jvm.ClassFile.FieldType.int) ∈ tb := sub1 (List.mem_of_getElem? (l := tables_1_1) (i := 84) rfl) rfl
theorem k1762 : Jvm.Cond.fieldLink "java/lang/String" (9 : Nat) "java/lang/String" "value" "[B" ∈ tb := sub7 (List.mem_of_getElem? (l := tables_1_7) (i := 222) rfl) rfl
theorem k1763 : Jvm.Cond.fieldLink "java/lang/String" (15 : Nat) "java/lang/String" "coder" "B" ∈ tb := sub7 (List.mem_of_getElem? (l := tables_1_7) (i := 223) rfl) rfl
abbrev y_Scoder : MethodName := ⟨"java/lang/String", "coder", "()B"⟩
theorem d_Scoder_0 : decode prog_15_method_152_code 0 = .ok (.getstatic 38, 3) := by decide +kernel
theorem d_Scoder_3 : decode prog_15_method_152_code 3 = .ok (.ifCond .eq 10, 3) := by decide +kernel
theorem d_Scoder_6 : decode prog_15_method_152_code 6 = .ok (.aload_n 0, 1) := by decide +kernel
theorem d_Scoder_7 : decode prog_15_method_152_code 7 = .ok (.getfield 15, 3) := by decide +kernel
theorem d_Scoder_10 : decode prog_15_method_152_code 10 = .ok (.goto 4, 3) := by decide +kernel
theorem d_Scoder_13 : decode prog_15_method_152_code 13 = .ok (.iconst 1, 1) := by decide +kernel
theorem d_Scoder_14 : decode prog_15_method_152_code 14 = .ok (.ireturn, 1) := by decide +kernel
theorem cv_Scoder : CalV y_Scoder prog_15_method_152_code 1 (some .byte) 0 := ⟨⟨k163, k105, (by decide +kernel), (by decide)⟩, k161, k162⟩
abbrev y_SisLatin1 : MethodName := ⟨"java/lang/String", "isLatin1", "()Z"⟩
theorem d_SisLatin1_0 : decode prog_15_method_154_code 0 = .ok (.getstatic 38, 3) := by decide +kernel
theorem d_SisLatin1_3 : decode prog_15_method_154_code 3 = .ok (.ifCond .eq 14, 3) := by decide +kernel
theorem d_SisLatin1_6 : decode prog_15_method_154_code 6 = .ok (.aload_n 0, 1) := by decide +kernel
theorem d_SisLatin1_7 : decode prog_15_method_154_code 7 = .ok (.getfield 15, 3) := by decide +kernel
theorem d_SisLatin1_10 : decode prog_15_method_154_code 10 = .ok (.ifCond .ne 7, 3) := by decide +kernel
theorem d_SisLatin1_13 : decode prog_15_method_154_code 13 = .ok (.iconst 1, 1) := by decide +kernel
theorem d_SisLatin1_14 : decode prog_15_method_154_code 14 = .ok (.goto 4, 3) := by decide +kernel
theorem d_SisLatin1_17 : decode prog_15_method_154_code 17 = .ok (.iconst 0, 1) := by decide +kernel
theorem d_SisLatin1_18 : decode prog_15_method_154_code 18 = .ok (.ireturn, 1) := by decide +kernel
theorem cv_SisLatin1 : CalV y_SisLatin1 prog_15_method_154_code 1 (some .boolean) 0 := ⟨⟨k173, k105, (by decide +kernel), (by decide)⟩, k171, k172⟩
abbrev y_Slength : MethodName := ⟨"java/lang/String", "length", "()I"⟩
theorem d_Slength_0 : decode prog_15_method_54_code 0 = .ok (.aload_n 0, 1) := by decide +kernel
theorem d_Slength_1 : decode prog_15_method_54_code 1 = .ok (.getfield 9, 3) := by decide +kernel
theorem d_Slength_4 : decode prog_15_method_54_code 4 = .ok (.arraylength, 1) := by decide +kernel
theorem d_Slength_5 : decode prog_15_method_54_code 5 = .ok (.aload_n 0, 1) := by decide +kernel
theorem d_Slength_6 : decode prog_15_method_54_code 6 = .ok (.invokevirtual 335, 3) := by decide +kernel
theorem d_Slength_9 : decode prog_15_method_54_code 9 = .ok (.ishr, 1) := by decide +kernel
theorem d_Slength_10 : decode prog_15_method_54_code 10 = .ok (.ireturn, 1) := by decide +kernel
theorem cv_Slength : CalV y_Slength prog_15_method_54_code 1 (some .int) 0 := ⟨⟨k159, k105, (by decide +kernel), (by decide)⟩, k157, k158⟩
abbrev y_Spchk : MethodName := ⟨"jdk/internal/util/Preconditions", "checkIndex", "(IILjava/util/function/BiFunction;)I"⟩
theorem d_Spchk_0 : decode prog_20_method_11_code 0 = .ok (.iload_n 0, 1) := by decide +kernel
theorem d_Spchk_1 : decode prog_20_method_11_code 1 = .ok (.ifCond .lt 8, 3) := by decide +kernel
theorem d_Spchk_4 : decode prog_20_method_11_code 4 = .ok (.iload_n 0, 1) := by decide +kernel
theorem d_Spchk_5 : decode prog_20_method_11_code 5 = .ok (.iload_n 1, 1) := by decide +kernel
theorem d_Spchk_6 : decode prog_20_method_11_code 6 = .ok (.if_icmp .lt 10, 3) := by decide +kernel
theorem d_Spchk_9 : decode prog_20_method_11_code 9 = .ok (.aload_n 2, 1) := by decide +kernel
theorem d_Spchk_10 : decode prog_20_method_11_code 10 = .ok (.iload_n 0, 1) := by decide +kernel
theorem d_Spchk_11 : decode prog_20_method_11_code 11 = .ok (.iload_n 1, 1) := by decide +kernel
theorem d_Spchk_12 : decode prog_20_method_11_code 12 = .ok (.invokestatic 95, 3) := by decide +kernel
theorem d_Spchk_15 : decode prog_20_method_11_code 15 = .ok (.athrow, 1) := by decide +kernel
theorem d_Spchk_16 : decode prog_20_method_11_code 16 = .ok (.iload_n 0, 1) := by decide +kernel
theorem d_Spchk_17 : decode prog_20_method_11_code 17 = .ok (.ireturn, 1) := by decide +kernel
theorem cv_Spchk : CalS y_Spchk prog_20_method_11_code 3 (some .int) 3 := ⟨⟨k184, k107, (by decide +kernel), (by decide)⟩, k183⟩
abbrev y_Sschk : MethodName := ⟨"java/lang/String", "checkIndex", "(II)V"⟩
theorem d_Sschk_0 : decode prog_15_method_155_code 0 = .ok (.iload_n 0, 1) := by decide +kernel
theorem d_Sschk_1 : decode prog_15_method_155_code 1 = .ok (.iload_n 1, 1) := by decide +kernel
theorem d_Sschk_2 : decode prog_15_method_155_code 2 = .ok (.getstatic 1053, 3) := by decide +kernel
theorem d_Sschk_5 : decode prog_15_method_155_code 5 = .ok (.invokestatic 1059, 3) := by decide +kernel
theorem d_Sschk_8 : decode prog_15_method_155_code 8 = .ok (.pop, 1) := by decide +kernel
theorem d_Sschk_9 : decode prog_15_method_155_code 9 = .ok (.return_, 1) := by decide +kernel
theorem cv_Sschk : CalS y_Sschk prog_15_method_155_code 2 none 2 := ⟨⟨k179, k105, (by decide +kernel), (by decide)⟩, k178⟩
abbrev y_SlcharAt : MethodName := ⟨"java/lang/StringLatin1", "charAt", "([BI)C"⟩
theorem d_SlcharAt_0 : decode prog_16_method_2_code 0 = .ok (.iload_n 1, 1) := by decide +kernel
theorem d_SlcharAt_1 : decode prog_16_method_2_code 1 = .ok (.aload_n 0, 1) := by decide +kernel
theorem d_SlcharAt_2 : decode prog_16_method_2_code 2 = .ok (.arraylength, 1) := by decide +kernel
theorem d_SlcharAt_3 : decode prog_16_method_2_code 3 = .ok (.invokestatic 9, 3) := by decide +kernel
theorem d_SlcharAt_6 : decode prog_16_method_2_code 6 = .ok (.aload_n 0, 1) := by decide +kernel
theorem d_SlcharAt_7 : decode prog_16_method_2_code 7 = .ok (.iload_n 1, 1) := by decide +kernel
theorem d_SlcharAt_8 : decode prog_16_method_2_code 8 = .ok (.baload, 1) := by decide +kernel
theorem d_SlcharAt_9 : decode prog_16_method_2_code 9 = .ok (.sipush 255, 3) := by decide +kernel
theorem d_SlcharAt_12 : decode prog_16_method_2_code 12 = .ok (.iand, 1) := by decide +kernel
theorem d_SlcharAt_13 : decode prog_16_method_2_code 13 = .ok (.i2c, 1) := by decide +kernel
theorem d_SlcharAt_14 : decode prog_16_method_2_code 14 = .ok (.ireturn, 1) := by decide +kernel
theorem cv_SlcharAt : CalS y_SlcharAt prog_16_method_2_code 2 (some .char) 2 := ⟨⟨k176, k106, (by decide +kernel), (by decide)⟩, k175⟩
abbrev y_ScharAt : MethodName := ⟨"java/lang/String", "charAt", "(I)C"⟩
theorem d_ScharAt_0 : decode prog_15_method_56_code 0 = .ok (.aload_n 0, 1) := by decide +kernel
theorem d_ScharAt_1 : decode prog_15_method_56_code 1 = .ok (.invokevirtual 492, 3) := by decide +kernel
theorem d_ScharAt_4 : decode prog_15_method_56_code 4 = .ok (.ifCond .eq 12, 3) := by decide +kernel
theorem d_ScharAt_7 : decode prog_15_method_56_code 7 = .ok (.aload_n 0, 1) := by decide +kernel
theorem d_ScharAt_8 : decode prog_15_method_56_code 8 = .ok (.getfield 9, 3) := by decide +kernel
theorem d_ScharAt_11 : decode prog_15_method_56_code 11 = .ok (.iload_n 1, 1) := by decide +kernel
theorem d_ScharAt_12 : decode prog_15_method_56_code 12 = .ok (.invokestatic 495, 3) := by decide +kernel
theorem d_ScharAt_15 : decode prog_15_method_56_code 15 = .ok (.ireturn, 1) := by decide +kernel
theorem d_ScharAt_16 : decode prog_15_method_56_code 16 = .ok (.aload_n 0, 1) := by decide +kernel
theorem d_ScharAt_17 : decode prog_15_method_56_code 17 = .ok (.getfield 9, 3) := by decide +kernel
theorem d_ScharAt_20 : decode prog_15_method_56_code 20 = .ok (.iload_n 1, 1) := by decide +kernel
theorem d_ScharAt_21 : decode prog_15_method_56_code 21 = .ok (.invokestatic 498, 3) := by decide +kernel
theorem d_ScharAt_24 : decode prog_15_method_56_code 24 = .ok (.ireturn, 1) := by decide +kernel
theorem cv_ScharAt : CalV y_ScharAt prog_15_method_56_code 2 (some .char) 1 := ⟨⟨k169, k105, (by decide +kernel), (by decide)⟩, k167, k168⟩
theorem k_nret {p : Program} {l : Launch} {e : Env} {s : State} {m : MethodId} {av : Array Value} {below : List Frame} {meth : Method} {c : Code} {H : Heap} {locs : List Loc} {g : GX} {w2 : St → va_W} {A : Nat → Prop} {σ2 : St} {cc : ByteArray} {nL : Nat} {own : String} {pc : Nat} {ls : Array Slot} {v : Int32} {n : Nat} {ty : FieldType} (C : Cx g A p s m av meth c cc nL own (some ty)) (h : Wd g w2 A s σ2 H locs) (hn : narrow ty (.int v) = .int v) (hdg : decode cc pc = .ok (.ireturn, 1)) : WK p l e s m av below meth c n g w2 A (some (.int v)) σ2 H locs (F0 m pc ls [.int v]) := by
  obtain ⟨hx, hb, hml, hown, hts, hK, hA, hZ, hlocks, hr, hN⟩ := C
  exact W.zret hx hb hr hn (fun t ht hW => ⟨⟨rfl, by rw [ht]; exact h.1, va_K.moved hW.alike hK, h.2.1⟩, h.2.2.F ht⟩) h.2.2.2.2 hdg hlocks
theorem c_Scoder {l : Launch} {g : GX} {w : St → va_W} {σ : St} : KK l y_Scoder prog_15_method_152_code 1 (some .byte) 0 g w σ [.ref (g.2.2 100)] (some (.int 0)) w σ := by
  refine KK_of (plainFor_of_name (by decide)) (Nat.le_of_ble_eq_true rfl) (fun p e s m below meth c A ls C w hl => ?_)
  have hl : lv_has ls 1 [(0, .ref (g.2.2 100))] := hl
  obtain ⟨hx, hb, hml, hown, hts, hK, hA, hZ, hlocks, hr, hN⟩ := id C
  refine va_gets hx hb hZ.2.2.1 w.2.2 hown (hts _ k164) (fun _ h => h) d_Scoder_0 ?_
  refine lv_if_eq (tgt := 13) hx hb d_Scoder_3 (by decide) (fun cd => absurd cd (by decide)) (fun _ => ?_)
  refine lv_aload_n hx hb d_Scoder_6 rfl (lv_at hl 0 rfl) ?_
  refine vk_getf hx hb (hZ.2.1.1 0 (by decide)).2.1 w.2.2 hown (hts _ k1763) (fun _ h => h) d_Scoder_7 ?_
  refine lv_goto (tgt := 14) hx hb d_Scoder_10 (by decide) ?_
  exact k_nret C w rfl d_Scoder_14
theorem c_SisLatin1 {l : Launch} {g : GX} {w : St → va_W} {σ : St} : KK l y_SisLatin1 prog_15_method_154_code 1 (some .boolean) 0 g w σ [.ref (g.2.2 100)] (some (.int 1)) w σ := by
  refine KK_of (plainFor_of_name (by decide)) (Nat.le_of_ble_eq_true rfl) (fun p e s m below meth c A ls C w hl => ?_)
  have hl : lv_has ls 1 [(0, .ref (g.2.2 100))] := hl
  obtain ⟨hx, hb, hml, hown, hts, hK, hA, hZ, hlocks, hr, hN⟩ := id C
  refine va_gets hx hb hZ.2.2.1 w.2.2 hown (hts _ k164) (fun _ h => h) d_SisLatin1_0 ?_
  refine lv_if_eq (tgt := 17) hx hb d_SisLatin1_3 (by decide) (fun cd => absurd cd (by decide)) (fun _ => ?_)
  refine lv_aload_n hx hb d_SisLatin1_6 rfl (lv_at hl 0 rfl) ?_
  refine vk_getf hx hb (hZ.2.1.1 0 (by decide)).2.1 w.2.2 hown (hts _ k1763) (fun _ h => h) d_SisLatin1_7 ?_
  refine lv_if_ne (tgt := 17) hx hb d_SisLatin1_10 (by decide) (fun cd => absurd rfl cd) (fun _ => ?_)
  refine lv_iconst (v := 1) hx hb d_SisLatin1_13 (by decide) ?_
  refine lv_goto (tgt := 18) hx hb d_SisLatin1_14 (by decide) ?_
  exact k_nret C w rfl d_SisLatin1_18
theorem c_Slength {l : Launch} {g : GX} {w : St → va_W} {σ : St} : KK l y_Slength prog_15_method_54_code 1 (some .int) 1 g w σ [.ref (g.2.2 100)] (some (.int 162)) w σ := by
  refine KK_of (plainFor_of_name (by decide)) (Nat.le_of_ble_eq_true rfl) (fun p e s m below meth c A ls C w hl => ?_)
  have hl : lv_has ls 1 [(0, .ref (g.2.2 100))] := hl
  obtain ⟨hx, hb, hml, hown, hts, hK, hA, hZ, hlocks, hr, hN⟩ := id C
  refine lv_aload_n hx hb d_Slength_0 rfl (lv_at hl 0 rfl) ?_
  refine vk_getf hx hb (hZ.2.1.1 0 (by decide)).2.2.1 w.2.2 hown (hts _ k1762) (fun _ h => h) d_Slength_1 ?_
  refine va_tlen hx hb (hZ.2.1.1 0 (by decide)).2.2.2 w.2.2 (v := 162) rfl d_Slength_4 ?_
  refine lv_aload_n hx hb d_Slength_5 rfl (lv_at hl 0 rfl) ?_
  refine k_callV (As := []) (rest := [.int 162]) C w (c_Scoder (w := _)) cv_Scoder k160 (vk_recv (hZ.2.1) (i := 0) (by decide) w.2.2) (by decide) hl.1 rfl (Nat.le_of_ble_eq_true rfl) d_Slength_6 (fun H locs w => ?_)
  show WK p l e s m _ below meth c 1 g _ A (some (.int 162)) _ H locs (F0 m 9 ls [.int 0, .int 162])
  refine lv_ishr hx hb d_Slength_9 ?_
  refine lv_topi (fun v ev => ?_)
  have hv : v = 162 := ev.trans (by decide)
  subst hv
  exact k_iret C w d_Slength_10
theorem c_SpchkN {l : Launch} {g : GX} {w : St → va_W} {σ : St} {i n : Int32} (h0 : ¬ i < 0) (h1 : i < n) : KK l y_Spchk prog_20_method_11_code 3 (some .int) 0 g w σ [.int i, .int n, .null] (some (.int i)) w σ := by
  refine KK_of (plainFor_of_name (by decide)) (Nat.le_of_ble_eq_true rfl) (fun p e s m below meth c A ls C w hl => ?_)
  have hl : lv_has ls 3 [(0, .int i), (1, .int n), (2, .null)] := hl
  obtain ⟨hx, hb, hml, hown, hts, hK, hA, hZ, hlocks, hr, hN⟩ := id C
  refine lv_iload_n hx hb d_Spchk_0 rfl (lv_at hl 0 rfl) ?_
  refine lv_if_lt (tgt := 9) hx hb d_Spchk_1 (by decide) (fun cd => absurd cd h0) (fun _ => ?_)
  refine lv_iload_n hx hb d_Spchk_4 rfl (lv_at hl 0 rfl) ?_
  refine lv_iload_n hx hb d_Spchk_5 rfl (lv_at hl 1 rfl) ?_
  refine lv_icmp_lt (tgt := 16) hx hb d_Spchk_6 (by decide) (fun _ => ?_) (fun cd => absurd h1 cd)
  refine lv_iload_n hx hb d_Spchk_16 rfl (lv_at hl 0 rfl) ?_
  exact k_iret C w d_Spchk_17
theorem c_SpchkR {l : Launch} {g : GX} {w : St → va_W} {σ : St} {t : Nat} {i n : Int32} (h0 : ¬ i < 0) (h1 : i < n) : KK l y_Spchk prog_20_method_11_code 3 (some .int) 0 g w σ [.int i, .int n, .ref t] (some (.int i)) w σ := by
  refine KK_of (plainFor_of_name (by decide)) (Nat.le_of_ble_eq_true rfl) (fun p e s m below meth c A ls C w hl => ?_)
  have hl : lv_has ls 3 [(0, .int i), (1, .int n), (2, .ref t)] := hl
  obtain ⟨hx, hb, hml, hown, hts, hK, hA, hZ, hlocks, hr, hN⟩ := id C
  refine lv_iload_n hx hb d_Spchk_0 rfl (lv_at hl 0 rfl) ?_
  refine lv_if_lt (tgt := 9) hx hb d_Spchk_1 (by decide) (fun cd => absurd cd h0) (fun _ => ?_)
  refine lv_iload_n hx hb d_Spchk_4 rfl (lv_at hl 0 rfl) ?_
  refine lv_iload_n hx hb d_Spchk_5 rfl (lv_at hl 1 rfl) ?_
  refine lv_icmp_lt (tgt := 16) hx hb d_Spchk_6 (by decide) (fun _ => ?_) (fun cd => absurd h1 cd)
  refine lv_iload_n hx hb d_Spchk_16 rfl (lv_at hl 0 rfl) ?_
  exact k_iret C w d_Spchk_17
theorem c_Sschk {l : Launch} {g : GX} {w : St → va_W} {σ : St} {i n : Int32} (h0 : ¬ i < 0) (h1 : i < n) : KK l y_Sschk prog_15_method_155_code 2 none 1 g w σ [.int i, .int n] none w σ := by
  refine KK_of (plainFor_of_name (by decide)) (Nat.le_of_ble_eq_true rfl) (fun p e s m below meth c A ls C w hl => ?_)
  have hl : lv_has ls 2 [(0, .int i), (1, .int n)] := hl
  obtain ⟨hx, hb, hml, hown, hts, hK, hA, hZ, hlocks, hr, hN⟩ := id C
  refine lv_iload_n hx hb d_Sschk_0 rfl (lv_at hl 0 rfl) ?_
  refine lv_iload_n hx hb d_Sschk_1 rfl (lv_at hl 1 rfl) ?_
  rcases hZ.2.2.2 with z | ⟨t, z⟩
  · refine va_gets hx hb z w.2.2 hown (hts _ k180) (fun _ h => h) d_Sschk_2 ?_
    refine k_callS (As := [.int i, .int n, .null]) (rest := []) C w (c_SpchkN (w := _) h0 h1) cv_Spchk k182 (by decide) hl.1 rfl (Nat.le_of_ble_eq_true rfl) d_Sschk_5 (fun H locs w => ?_)
    show WK p l e s m _ below meth c 1 g _ A none _ H locs (F0 m 8 ls [.int i])
    refine lv_pop hx hb d_Sschk_8 rfl ?_
    exact k_vret C w d_Sschk_9
  · refine va_gets hx hb z w.2.2 hown (hts _ k180) (fun _ h => h) d_Sschk_2 ?_
    refine k_callS (As := [.int i, .int n, .ref t]) (rest := []) C w (c_SpchkR (w := _) h0 h1) cv_Spchk k182 (by decide) hl.1 rfl (Nat.le_of_ble_eq_true rfl) d_Sschk_5 (fun H locs w => ?_)
    show WK p l e s m _ below meth c 1 g _ A none _ H locs (F0 m 8 ls [.int i])
    refine lv_pop hx hb d_Sschk_8 rfl ?_
    exact k_vret C w d_Sschk_9
def sChr (i : Int32) : Int32 := sBytes.getD i.toNatClampNeg 0
set_option maxRecDepth 100000 in
theorem sBytes_ok : ∀ j, j < 162 → ((sBytes.getD j 0 &&& 255).toUInt32 % 65536).toInt32 = sBytes.getD j 0 ∧ narrow .char (.int (sBytes.getD j 0)) = .int (sBytes.getD j 0) := by decide +kernel
theorem c_SlcharAt {l : Launch} {g : GX} {w : St → va_W} {σ : St} {i : Int32} (hi : inB i 162 = true) : KK l y_SlcharAt prog_16_method_2_code 2 (some .char) 2 g w σ [.ref (g.2.2 101), .int i] (some (.int (sChr i))) w σ := by
  have hin := in_e hi
  have h0 : ¬ i < 0 := fun z => hin (Or.inl z)
  have hlt : i.toNatClampNeg < 162 := Nat.not_le.mp (fun z => hin (Or.inr z))
  have h1 : i < 162 := by
    obtain ⟨j, hj, rfl⟩ := vp_in_of hin (by decide)
    exact nI_lt hj (by decide)
  refine KK_of (plainFor_of_name (by decide)) (Nat.le_of_ble_eq_true rfl) (fun p e s m below meth c A ls C w hl => ?_)
  have hl : lv_has ls 2 [(0, .ref (g.2.2 101)), (1, .int i)] := hl
  obtain ⟨hx, hb, hml, hown, hts, hK, hA, hZ, hlocks, hr, hN⟩ := id C
  refine lv_iload_n hx hb d_SlcharAt_0 rfl (lv_at hl 1 rfl) ?_
  refine lv_aload_n hx hb d_SlcharAt_1 rfl (lv_at hl 0 rfl) ?_
  refine va_tlen hx hb (hZ.2.1.1 0 (by decide)).2.2.2 w.2.2 (v := 162) rfl d_SlcharAt_2 ?_
  refine k_callS (As := [.int i, .int 162]) (rest := []) C w (c_Sschk (w := _) h0 h1) cv_Sschk k177 (by decide) hl.1 rfl (Nat.le_of_ble_eq_true rfl) d_SlcharAt_3 (fun H locs w => ?_)
  show WK p l e s m _ below meth c 2 g _ A (some (.int (sChr i))) _ H locs (F0 m 6 ls [])
  refine lv_aload_n hx hb d_SlcharAt_6 rfl (lv_at hl 0 rfl) ?_
  refine lv_iload_n hx hb d_SlcharAt_7 rfl (lv_at hl 1 rfl) ?_
  refine va_tb hx hb (hZ.2.1.1 0 (by decide)).2.2.2 w.2.2 hin (v := .int (sChr i)) rfl d_SlcharAt_8 ?_
  refine lv_sipush (v := 255) hx hb d_SlcharAt_9 (by decide) ?_
  refine lv_iand hx hb d_SlcharAt_12 ?_
  refine lv_i2c hx hb d_SlcharAt_13 rfl ?_
  refine lv_topi (fun v ev => ?_)
  have hv : v = sChr i := ev.trans (sBytes_ok _ hlt).1
  subst hv
  exact k_nret C w (sBytes_ok _ hlt).2 d_SlcharAt_14
theorem c_ScharAt {l : Launch} {g : GX} {w : St → va_W} {σ : St} {i : Int32} (hi : inB i 162 = true) : KK l y_ScharAt prog_15_method_56_code 2 (some .char) 3 g w σ [.ref (g.2.2 100), .int i] (some (.int (sChr i))) w σ := by
  have hin := in_e hi
  have hlt : i.toNatClampNeg < 162 := Nat.not_le.mp (fun z => hin (Or.inr z))
  refine KK_of (plainFor_of_name (by decide)) (Nat.le_of_ble_eq_true rfl) (fun p e s m below meth c A ls C w hl => ?_)
  have hl : lv_has ls 2 [(0, .ref (g.2.2 100)), (1, .int i)] := hl
  obtain ⟨hx, hb, hml, hown, hts, hK, hA, hZ, hlocks, hr, hN⟩ := id C
  refine lv_aload_n hx hb d_ScharAt_0 rfl (lv_at hl 0 rfl) ?_
  refine k_callV (As := []) (rest := []) C w (c_SisLatin1 (w := _)) cv_SisLatin1 k170 (vk_recv (hZ.2.1) (i := 0) (by decide) w.2.2) (by decide) hl.1 rfl (Nat.le_of_ble_eq_true rfl) d_ScharAt_1 (fun H locs w => ?_)
  show WK p l e s m _ below meth c 3 g _ A (some (.int (sChr i))) _ H locs (F0 m 4 ls [.int 1])
  refine lv_if_eq (tgt := 16) hx hb d_ScharAt_4 (by decide) (fun cd => absurd cd (by decide)) (fun _ => ?_)
  refine lv_aload_n hx hb d_ScharAt_7 rfl (lv_at hl 0 rfl) ?_
  refine vk_getf hx hb (hZ.2.1.1 0 (by decide)).2.2.1 w.2.2 hown (hts _ k1762) (fun _ h => h) d_ScharAt_8 ?_
  refine lv_iload_n hx hb d_ScharAt_11 rfl (lv_at hl 1 rfl) ?_
  refine k_callS (As := [.ref (g.2.2 101), .int i]) (rest := []) C w (c_SlcharAt (w := _) hi) cv_SlcharAt k174 (by decide) hl.1 rfl (Nat.le_of_ble_eq_true rfl) d_ScharAt_12 (fun H locs w => ?_)
  show WK p l e s m _ below meth c 3 g _ A (some (.int (sChr i))) _ H locs (F0 m 15 ls [.int (sChr i)])
  exact k_nret C w (sBytes_ok _ hlt).2 d_ScharAt_15
