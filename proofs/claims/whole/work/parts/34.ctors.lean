theorem k130 : Jvm.Cond.instanceMethod ({ cls := "BellHammer$Tape", name := "<init>", desc := "()V" } : Jvm.MethodName) ∈ tb := sub1 (List.mem_of_getElem? (l := tables_1_1) (i := 30) rfl) rfl
theorem k131 : Jvm.Cond.code ({ cls := "BellHammer$Tape", name := "<init>", desc := "()V" } : Jvm.MethodName) prog_8_method_1_code (1 : Nat) (Option.none : Option Jvm.ClassFile.FieldType) ∈ tb := sub1 (List.mem_of_getElem? (l := tables_1_1) (i := 31) rfl) rfl
theorem k132 : Jvm.Cond.methodLink "BellHammer$Tape" (3 : Nat) ({ cls := "java/lang/Object", name := "<init>", desc := "()V" } : Jvm.MethodName) ∈ tb := sub1 (List.mem_of_getElem? (l := tables_1_1) (i := 32) rfl) rfl
theorem k237 : Jvm.Cond.instanceMethod ({ cls := "BellHammer$Fair", name := "<init>", desc := "()V" } : Jvm.MethodName) ∈ tb := sub1 (List.mem_of_getElem? (l := tables_1_1) (i := 137) rfl) rfl
theorem k238 : Jvm.Cond.code ({ cls := "BellHammer$Fair", name := "<init>", desc := "()V" } : Jvm.MethodName) prog_3_method_1_code (1 : Nat) (Option.none : Option Jvm.ClassFile.FieldType) ∈ tb := sub1 (List.mem_of_getElem? (l := tables_1_1) (i := 138) rfl) rfl
theorem k239 : Jvm.Cond.methodLink "BellHammer$Fair" (3 : Nat) ({ cls := "java/lang/Object", name := "<init>", desc := "()V" } : Jvm.MethodName) ∈ tb := sub1 (List.mem_of_getElem? (l := tables_1_1) (i := 139) rfl) rfl
theorem k240 : Jvm.Cond.methodLink "BellHammer$Fair" (33 : Nat) ({ cls := "BellHammer$Fair", name := "forget", desc := "()V" } : Jvm.MethodName) ∈ tb := sub1 (List.mem_of_getElem? (l := tables_1_1) (i := 140) rfl) rfl
theorem k267 : Jvm.Cond.fieldLink "BellHammer$Fair" (30 : Nat) "BellHammer$Fair" "ruleEnd" "[I" ∈ tb := sub1 (List.mem_of_getElem? (l := tables_1_1) (i := 167) rfl) rfl
theorem k332 : Jvm.Cond.instanceMethod ({ cls := "BellHammer$Book", name := "<init>", desc := "()V" } : Jvm.MethodName) ∈ tb := sub1 (List.mem_of_getElem? (l := tables_1_1) (i := 232) rfl) rfl
theorem k333 : Jvm.Cond.code ({ cls := "BellHammer$Book", name := "<init>", desc := "()V" } : Jvm.MethodName) prog_2_method_1_code (1 : Nat) (Option.none : Option Jvm.ClassFile.FieldType) ∈ tb := sub1 (List.mem_of_getElem? (l := tables_1_1) (i := 233) rfl) rfl
theorem k334 : Jvm.Cond.methodLink "BellHammer$Book" (5 : Nat) ({ cls := "java/lang/Object", name := "<init>", desc := "()V" } : Jvm.MethodName) ∈ tb := sub1 (List.mem_of_getElem? (l := tables_1_1) (i := 234) rfl) rfl
theorem k386 : Jvm.Cond.instantiable "BellHammer$Showman" (2 : Nat) ∈ tb := sub2 (List.mem_of_getElem? (l := tables_1_2) (i := 46) rfl) rfl
theorem k388 : Jvm.Cond.instanceMethod ({ cls := "BellHammer$Showman", name := "<init>", desc := "()V" } : Jvm.MethodName) ∈ tb := sub2 (List.mem_of_getElem? (l := tables_1_2) (i := 48) rfl) rfl
theorem k389 : Jvm.Cond.code ({ cls := "BellHammer$Showman", name := "<init>", desc := "()V" } : Jvm.MethodName) prog_7_method_1_code (1 : Nat) (Option.none : Option Jvm.ClassFile.FieldType) ∈ tb := sub2 (List.mem_of_getElem? (l := tables_1_2) (i := 49) rfl) rfl
theorem k390 : Jvm.Cond.methodLink "BellHammer$Showman" (1 : Nat) ({ cls := "java/lang/Object", name := "<init>", desc := "()V" } : Jvm.MethodName) ∈ tb := sub2 (List.mem_of_getElem? (l := tables_1_2) (i := 50) rfl) rfl
theorem k399 : Jvm.Cond.instantiable "BellHammer$Turn" (13 : Nat) ∈ tb := sub2 (List.mem_of_getElem? (l := tables_1_2) (i := 59) rfl) rfl
theorem k401 : Jvm.Cond.instanceMethod ({ cls := "BellHammer$Turn", name := "<init>", desc := "()V" } : Jvm.MethodName) ∈ tb := sub2 (List.mem_of_getElem? (l := tables_1_2) (i := 61) rfl) rfl
theorem k402 : Jvm.Cond.code ({ cls := "BellHammer$Turn", name := "<init>", desc := "()V" } : Jvm.MethodName) prog_10_method_1_code (1 : Nat) (Option.none : Option Jvm.ClassFile.FieldType) ∈ tb := sub2 (List.mem_of_getElem? (l := tables_1_2) (i := 62) rfl) rfl
theorem k403 : Jvm.Cond.methodLink "BellHammer$Turn" (3 : Nat) ({ cls := "java/lang/Object", name := "<init>", desc := "()V" } : Jvm.MethodName) ∈ tb := sub2 (List.mem_of_getElem? (l := tables_1_2) (i := 63) rfl) rfl
theorem k455 : Jvm.Cond.instanceMethod ({ cls := "BellHammer$Tree", name := "<init>", desc := "()V" } : Jvm.MethodName) ∈ tb := sub2 (List.mem_of_getElem? (l := tables_1_2) (i := 115) rfl) rfl
theorem k456 : Jvm.Cond.code ({ cls := "BellHammer$Tree", name := "<init>", desc := "()V" } : Jvm.MethodName) prog_9_method_1_code (1 : Nat) (Option.none : Option Jvm.ClassFile.FieldType) ∈ tb := sub2 (List.mem_of_getElem? (l := tables_1_2) (i := 116) rfl) rfl
theorem k457 : Jvm.Cond.methodLink "BellHammer$Tree" (5 : Nat) ({ cls := "java/lang/Object", name := "<init>", desc := "()V" } : Jvm.MethodName) ∈ tb := sub2 (List.mem_of_getElem? (l := tables_1_2) (i := 117) rfl) rfl
theorem k458 : Jvm.Cond.classLink "BellHammer$Tree" (11 : Nat) "BellHammer$Turn" ∈ tb := sub2 (List.mem_of_getElem? (l := tables_1_2) (i := 118) rfl) rfl
theorem k460 : Jvm.Cond.classLink "BellHammer$Tree" (18 : Nat) "BellHammer$Showman" ∈ tb := sub2 (List.mem_of_getElem? (l := tables_1_2) (i := 120) rfl) rfl
def wF (g : GX) (q : Nat → Nat) (σ : St) : va_W := [(q 0, .inr (1, [.ref (q 1), .ref (q 2), .ref (q 3), .ref (q 4), .ref (q 5), .ref (q 6), .ref (q 7), .int (sI σ 0), .int (sI σ 1), .int (sI σ 2), .int (sI σ 3), .int (sI σ 4)])),
  (q 1, .inl (g.2.1.1, 6, .inl (sA σ 0))),
  (q 2, .inl (g.2.1.1, 6, .inl (sA σ 1))),
  (q 3, .inl (g.2.1.1, 8, .inl (sA σ 2))),
  (q 4, .inl (g.2.1.1, 48, .inl (sA σ 3))),
  (q 5, .inl (g.2.1.1, 9, .inl (sA σ 4))),
  (q 6, .inl (g.2.1.1, 1600, .inl (sA σ 5))),
  (q 7, .inl (g.2.1.1, 6, .inl (sA σ 6)))]
section RF
variable {p : Program} {l : Launch} {e : Env} {R : Room} {s : State} {m : MethodId} {av : Array Value} {below : List Frame} {meth : Method} {c : Code} {H : Heap} {locs : List Loc} {cells slots : Nat} {Q : State → Prop}
variable {g : GX} {q : Nat → Nat} {A : Nat → Prop} {σ : St} {cc : ByteArray} {nL : Nat} {own : String} {ret0 : Option FieldType} {pc index : Nat} {ls : Array Slot} {rest : List Value}
theorem fr_0 (C : Cx g A p s m av meth c cc nL own ret0) (h : Wd g (wF g q) A s σ H locs) : ∃ cell : Cell, H[q 0]? = some cell ∧ cell.vm.isStatics = false ∧ s.vm.findClass "BellHammer$Fair" = some cell.cls := va_recv C.2.2.2.2.2.1 h.1 (ci := 1) (q0 := 0) rfl rfl
theorem fg_0_settings (C : Cx g A p s m av meth c cc nL own ret0) (h : Wd g (wF g q) A s σ H locs) (hlink : Cond.fieldLink own index "BellHammer$Fair" "settings" "[I" ∈ tb) (hdg : decode cc pc = .ok (.getfield index, 3)) (kk : W p l e R s m av below meth c H locs cells slots Q (F0 m (pc + 3) ls (.ref (q 5) :: rest))) : W p l e R s m av below meth c H locs cells slots Q (F0 m pc ls (.ref (q 0) :: rest)) := va_get (C := RX1) (T := TX1) (N := 12) (ci := 1) C.1 C.2.1 C.2.2.2.2.1 inX1 C.2.2.2.1 C.2.2.2.2.2.1 h.1 0 rfl rfl 4 (by decide) (C.2.2.2.2.1 _ hlink) (fun _ z => z) rfl hdg kk
theorem fp_0_codeSize (C : Cx g A p s m av meth c cc nL own ret0) (h : Wd g (wF g q) A s σ H locs) {v : Int32} (hlink : Cond.fieldLink own index "BellHammer$Fair" "codeSize" "I" ∈ tb) (hdg : decode cc pc = .ok (.putfield index, 3)) (kk : ∀ (σ1 : St) (H1 : Heap) (locs1 : List Loc), σ1 = uI σ 0 v → Wd g (wF g q) A s σ1 H1 locs1 → W p l e R s m av below meth c H1 locs1 cells slots Q (F0 m (pc + 3) ls rest)) : W p l e R s m av below meth c H locs cells slots Q (F0 m pc ls (.int v :: .ref (q 0) :: rest)) := va_put (C := RX1) (T := TX1) (N := 12) (ci := 1) (ty := .int) C.1 C.2.1 C.2.2.2.2.1 inX1 tyX1 tyX1_ok nmX1 C.2.2.2.1 C.2.2.2.2.2.1 h.1 h.2.1 h.2.2 0 rfl rfl 7 (by decide) (C.2.2.2.2.1 _ hlink) (fun _ z => z) rfl (by decide +kernel) rfl rfl (Nat.le_of_ble_eq_true rfl) hdg (fun H1 locs1 hP hD hS => kk (uI σ 0 v) H1 locs1 rfl ⟨hP, hD, hS⟩)
theorem fp_0_marks (C : Cx g A p s m av meth c cc nL own ret0) (h : Wd g (wF g q) A s σ H locs) {v : Int32} (hlink : Cond.fieldLink own index "BellHammer$Fair" "marks" "I" ∈ tb) (hdg : decode cc pc = .ok (.putfield index, 3)) (kk : ∀ (σ1 : St) (H1 : Heap) (locs1 : List Loc), σ1 = uI σ 1 v → Wd g (wF g q) A s σ1 H1 locs1 → W p l e R s m av below meth c H1 locs1 cells slots Q (F0 m (pc + 3) ls rest)) : W p l e R s m av below meth c H locs cells slots Q (F0 m pc ls (.int v :: .ref (q 0) :: rest)) := va_put (C := RX1) (T := TX1) (N := 12) (ci := 1) (ty := .int) C.1 C.2.1 C.2.2.2.2.1 inX1 tyX1 tyX1_ok nmX1 C.2.2.2.1 C.2.2.2.2.2.1 h.1 h.2.1 h.2.2 0 rfl rfl 8 (by decide) (C.2.2.2.2.1 _ hlink) (fun _ z => z) rfl (by decide +kernel) rfl rfl (Nat.le_of_ble_eq_true rfl) hdg (fun H1 locs1 hP hD hS => kk (uI σ 1 v) H1 locs1 rfl ⟨hP, hD, hS⟩)
theorem fp_0_triers (C : Cx g A p s m av meth c cc nL own ret0) (h : Wd g (wF g q) A s σ H locs) {v : Int32} (hlink : Cond.fieldLink own index "BellHammer$Fair" "triers" "I" ∈ tb) (hdg : decode cc pc = .ok (.putfield index, 3)) (kk : ∀ (σ1 : St) (H1 : Heap) (locs1 : List Loc), σ1 = uI σ 2 v → Wd g (wF g q) A s σ1 H1 locs1 → W p l e R s m av below meth c H1 locs1 cells slots Q (F0 m (pc + 3) ls rest)) : W p l e R s m av below meth c H locs cells slots Q (F0 m pc ls (.int v :: .ref (q 0) :: rest)) := va_put (C := RX1) (T := TX1) (N := 12) (ci := 1) (ty := .int) C.1 C.2.1 C.2.2.2.2.1 inX1 tyX1 tyX1_ok nmX1 C.2.2.2.1 C.2.2.2.2.2.1 h.1 h.2.1 h.2.2 0 rfl rfl 9 (by decide) (C.2.2.2.2.1 _ hlink) (fun _ z => z) rfl (by decide +kernel) rfl rfl (Nat.le_of_ble_eq_true rfl) hdg (fun H1 locs1 hP hD hS => kk (uI σ 2 v) H1 locs1 rfl ⟨hP, hD, hS⟩)
theorem fp_0_rules (C : Cx g A p s m av meth c cc nL own ret0) (h : Wd g (wF g q) A s σ H locs) {v : Int32} (hlink : Cond.fieldLink own index "BellHammer$Fair" "rules" "I" ∈ tb) (hdg : decode cc pc = .ok (.putfield index, 3)) (kk : ∀ (σ1 : St) (H1 : Heap) (locs1 : List Loc), σ1 = uI σ 3 v → Wd g (wF g q) A s σ1 H1 locs1 → W p l e R s m av below meth c H1 locs1 cells slots Q (F0 m (pc + 3) ls rest)) : W p l e R s m av below meth c H locs cells slots Q (F0 m pc ls (.int v :: .ref (q 0) :: rest)) := va_put (C := RX1) (T := TX1) (N := 12) (ci := 1) (ty := .int) C.1 C.2.1 C.2.2.2.2.1 inX1 tyX1 tyX1_ok nmX1 C.2.2.2.1 C.2.2.2.2.2.1 h.1 h.2.1 h.2.2 0 rfl rfl 10 (by decide) (C.2.2.2.2.1 _ hlink) (fun _ z => z) rfl (by decide +kernel) rfl rfl (Nat.le_of_ble_eq_true rfl) hdg (fun H1 locs1 hP hD hS => kk (uI σ 3 v) H1 locs1 rfl ⟨hP, hD, hS⟩)
theorem fp_0_statements (C : Cx g A p s m av meth c cc nL own ret0) (h : Wd g (wF g q) A s σ H locs) {v : Int32} (hlink : Cond.fieldLink own index "BellHammer$Fair" "statements" "I" ∈ tb) (hdg : decode cc pc = .ok (.putfield index, 3)) (kk : ∀ (σ1 : St) (H1 : Heap) (locs1 : List Loc), σ1 = uI σ 4 v → Wd g (wF g q) A s σ1 H1 locs1 → W p l e R s m av below meth c H1 locs1 cells slots Q (F0 m (pc + 3) ls rest)) : W p l e R s m av below meth c H locs cells slots Q (F0 m pc ls (.int v :: .ref (q 0) :: rest)) := va_put (C := RX1) (T := TX1) (N := 12) (ci := 1) (ty := .int) C.1 C.2.1 C.2.2.2.2.1 inX1 tyX1 tyX1_ok nmX1 C.2.2.2.1 C.2.2.2.2.2.1 h.1 h.2.1 h.2.2 0 rfl rfl 11 (by decide) (C.2.2.2.2.1 _ hlink) (fun _ z => z) rfl (by decide +kernel) rfl rfl (Nat.le_of_ble_eq_true rfl) hdg (fun H1 locs1 hP hD hS => kk (uI σ 4 v) H1 locs1 rfl ⟨hP, hD, hS⟩)
theorem xc_S2_5 (C : Cx g A p s m av meth c cc nL own ret0) (h : Wd g (wF g q) A s σ H locs) (hsz : ls.size = nL) {N : Nat} (hN : 1 ≤ N) (hw : (rest.map fun v => v.category).sum ≤ 8) {sp dp n : Int32} (h1 : ¬ sp < 0) (h2 : ¬ dp < 0) (h3 : ¬ n < 0) (h4 : sp.toNatClampNeg + n.toNatClampNeg ≤ 9) (h5 : dp.toNatClampNeg + n.toNatClampNeg ≤ 9) (hlink : Cond.methodLink own index arraycopyName ∈ tb) (hdg : decode cc pc = .ok (.invokestatic index, 3)) (kk : ∀ (σ1 : St) (H1 : Heap) (locs1 : List Loc), σ1 = uA σ 4 (va_cpy (stF 2) (sA σ 4) sp.toNatClampNeg dp.toNatClampNeg n.toNatClampNeg) → Wd g (wF g q) A s σ1 H1 locs1 → W p l e (rmv N) s m av below meth c H1 locs1 0 0 Q (F0 m (pc + 3) ls rest)) : W p l e (rmv N) s m av below meth c H locs 0 0 Q (F0 m pc ls (.int n :: .int dp :: .ref (q 5) :: .int sp :: .ref (g.2.2 2) :: rest)) := by
  obtain ⟨hx, hb, hml, hown, hts, hK, hA, hZ, hlocks, hr, hNn⟩ := C
  have z := hZ.1 2 _ rfl
  exact va_copyx hx hb (hml.trans hsz.symm) hown (hts _ hlink) (hts _ k248) (hts _ k247) (hts _ k110) hK h.1 h.2.1 h.2.2 (b0 := g.2.2 2) (n0 := 9) (f := stF 2) z.2.2 (va_T_out z.2.1).2 (va_T_out z.2.1).1 5 0 rfl rfl h1 h2 h3 h4 h5 hN (by show _ + (nativeFrameWords "java/lang/System" "arraycopy" 5 + 11) ≤ 40 * N; have : nativeFrameWords "java/lang/System" "arraycopy" 5 + 11 = 18 := (by decide); omega) hdg (fun H1 locs1 hP hD hS => kk (uA σ 4 (va_cpy (stF 2) (sA σ 4) sp.toNatClampNeg dp.toNatClampNeg n.toNatClampNeg)) H1 locs1 rfl ⟨hP, hD, hS⟩)
end RF
section RC
variable {p : Program} {l : Launch} {e : Env} {R : Room} {s : State} {m : MethodId} {av : Array Value} {below : List Frame} {meth : Method} {c : Code} {H : Heap} {locs : List Loc} {cells slots : Nat} {Q : State → Prop}
variable {g : GX} {q : Nat → Nat} {ws tl : va_W} {A : Nat → Prop} {cc : ByteArray} {nL : Nat} {own : String} {ret0 : Option FieldType} {pc index : Nat} {ls : Array Slot} {rest : List Value} {h0 : Nat} {fs : List Value}
theorem cp_Tape_bytes (C : Cx g A p s m av meth c cc nL "BellHammer$Tape" ret0) (hin : meth.name = "<init>") (h : Wl g ((h0, .inr (5, fs)) :: tl) A s H locs) {v : Nat} (hl : 0 < fs.length) (hlink : Cond.fieldLink "BellHammer$Tape" index "BellHammer$Tape" "bytes" "[I" ∈ tb) (hdg : decode cc pc = .ok (.putfield index, 3)) (kk : ∀ (H1 : Heap) (locs1 : List Loc), Wl g ((h0, .inr (5, fs.set 0 (.ref v))) :: tl) A s H1 locs1 → W p l e R s m av below meth c H1 locs1 cells slots Q (F0 m (pc + 3) ls rest)) : W p l e R s m av below meth c H locs cells slots Q (F0 m pc ls (.ref v :: .ref h0 :: rest)) := va_putF (C := RX6) (T := TX6) (N := 2) (ci := 5) (ty := .array .int) C.1 C.2.1 C.2.2.2.2.1 inX6 tyX6 tyX6_ok nmX6 C.2.2.2.1 C.2.2.2.2.2.1 h.1 h.2.1 h.2.2 0 rfl rfl 0 (by decide) (C.2.2.2.2.1 _ hlink) (fun _ z => z) rfl hin rfl (by decide +kernel) rfl rfl hl hdg (fun H1 locs1 hP hD hS => kk H1 locs1 ⟨hP, hD, hS⟩)
theorem cp_Showman_facts (C : Cx g A p s m av meth c cc nL "BellHammer$Showman" ret0) (hin : meth.name = "<init>") (h : Wl g ((h0, .inr (4, fs)) :: tl) A s H locs) {v : Nat} (hl : 0 < fs.length) (hlink : Cond.fieldLink "BellHammer$Showman" index "BellHammer$Showman" "facts" "[I" ∈ tb) (hdg : decode cc pc = .ok (.putfield index, 3)) (kk : ∀ (H1 : Heap) (locs1 : List Loc), Wl g ((h0, .inr (4, fs.set 0 (.ref v))) :: tl) A s H1 locs1 → W p l e R s m av below meth c H1 locs1 cells slots Q (F0 m (pc + 3) ls rest)) : W p l e R s m av below meth c H locs cells slots Q (F0 m pc ls (.ref v :: .ref h0 :: rest)) := va_putF (C := RX5) (T := TX5) (N := 2) (ci := 4) (ty := .array .int) C.1 C.2.1 C.2.2.2.2.1 inX5 tyX5 tyX5_ok nmX5 C.2.2.2.1 C.2.2.2.2.2.1 h.1 h.2.1 h.2.2 0 rfl rfl 0 (by decide) (C.2.2.2.2.1 _ hlink) (fun _ z => z) rfl hin rfl (by decide +kernel) rfl rfl hl hdg (fun H1 locs1 hP hD hS => kk H1 locs1 ⟨hP, hD, hS⟩)
theorem cp_Showman_stack (C : Cx g A p s m av meth c cc nL "BellHammer$Showman" ret0) (hin : meth.name = "<init>") (h : Wl g ((h0, .inr (4, fs)) :: tl) A s H locs) {v : Nat} (hl : 1 < fs.length) (hlink : Cond.fieldLink "BellHammer$Showman" index "BellHammer$Showman" "stack" "[I" ∈ tb) (hdg : decode cc pc = .ok (.putfield index, 3)) (kk : ∀ (H1 : Heap) (locs1 : List Loc), Wl g ((h0, .inr (4, fs.set 1 (.ref v))) :: tl) A s H1 locs1 → W p l e R s m av below meth c H1 locs1 cells slots Q (F0 m (pc + 3) ls rest)) : W p l e R s m av below meth c H locs cells slots Q (F0 m pc ls (.ref v :: .ref h0 :: rest)) := va_putF (C := RX5) (T := TX5) (N := 2) (ci := 4) (ty := .array .int) C.1 C.2.1 C.2.2.2.2.1 inX5 tyX5 tyX5_ok nmX5 C.2.2.2.1 C.2.2.2.2.2.1 h.1 h.2.1 h.2.2 0 rfl rfl 1 (by decide) (C.2.2.2.2.1 _ hlink) (fun _ z => z) rfl hin rfl (by decide +kernel) rfl rfl hl hdg (fun H1 locs1 hP hD hS => kk H1 locs1 ⟨hP, hD, hS⟩)
theorem cp_Turn_comes (C : Cx g A p s m av meth c cc nL "BellHammer$Turn" ret0) (hin : meth.name = "<init>") (h : Wl g ((h0, .inr (7, fs)) :: tl) A s H locs) {v : Nat} (hl : 12 < fs.length) (hlink : Cond.fieldLink "BellHammer$Turn" index "BellHammer$Turn" "comes" "[I" ∈ tb) (hdg : decode cc pc = .ok (.putfield index, 3)) (kk : ∀ (H1 : Heap) (locs1 : List Loc), Wl g ((h0, .inr (7, fs.set 12 (.ref v))) :: tl) A s H1 locs1 → W p l e R s m av below meth c H1 locs1 cells slots Q (F0 m (pc + 3) ls rest)) : W p l e R s m av below meth c H locs cells slots Q (F0 m pc ls (.ref v :: .ref h0 :: rest)) := va_putF (C := RX8) (T := TX8) (N := 13) (ci := 7) (ty := .array .int) C.1 C.2.1 C.2.2.2.2.1 inX8 tyX8 tyX8_ok nmX8 C.2.2.2.1 C.2.2.2.2.2.1 h.1 h.2.1 h.2.2 0 rfl rfl 12 (by decide) (C.2.2.2.2.1 _ hlink) (fun _ z => z) rfl hin rfl (by decide +kernel) rfl rfl hl hdg (fun H1 locs1 hP hD hS => kk H1 locs1 ⟨hP, hD, hS⟩)
theorem cp_Fair_markName (C : Cx g A p s m av meth c cc nL "BellHammer$Fair" ret0) (hin : meth.name = "<init>") (h : Wl g ((h0, .inr (1, fs)) :: tl) A s H locs) {v : Nat} (hl : 0 < fs.length) (hlink : Cond.fieldLink "BellHammer$Fair" index "BellHammer$Fair" "markName" "[I" ∈ tb) (hdg : decode cc pc = .ok (.putfield index, 3)) (kk : ∀ (H1 : Heap) (locs1 : List Loc), Wl g ((h0, .inr (1, fs.set 0 (.ref v))) :: tl) A s H1 locs1 → W p l e R s m av below meth c H1 locs1 cells slots Q (F0 m (pc + 3) ls rest)) : W p l e R s m av below meth c H locs cells slots Q (F0 m pc ls (.ref v :: .ref h0 :: rest)) := va_putF (C := RX1) (T := TX1) (N := 12) (ci := 1) (ty := .array .int) C.1 C.2.1 C.2.2.2.2.1 inX1 tyX1 tyX1_ok nmX1 C.2.2.2.1 C.2.2.2.2.2.1 h.1 h.2.1 h.2.2 0 rfl rfl 0 (by decide) (C.2.2.2.2.1 _ hlink) (fun _ z => z) rfl hin rfl (by decide +kernel) rfl rfl hl hdg (fun H1 locs1 hP hD hS => kk H1 locs1 ⟨hP, hD, hS⟩)
theorem cp_Fair_markHeight (C : Cx g A p s m av meth c cc nL "BellHammer$Fair" ret0) (hin : meth.name = "<init>") (h : Wl g ((h0, .inr (1, fs)) :: tl) A s H locs) {v : Nat} (hl : 1 < fs.length) (hlink : Cond.fieldLink "BellHammer$Fair" index "BellHammer$Fair" "markHeight" "[I" ∈ tb) (hdg : decode cc pc = .ok (.putfield index, 3)) (kk : ∀ (H1 : Heap) (locs1 : List Loc), Wl g ((h0, .inr (1, fs.set 1 (.ref v))) :: tl) A s H1 locs1 → W p l e R s m av below meth c H1 locs1 cells slots Q (F0 m (pc + 3) ls rest)) : W p l e R s m av below meth c H locs cells slots Q (F0 m pc ls (.ref v :: .ref h0 :: rest)) := va_putF (C := RX1) (T := TX1) (N := 12) (ci := 1) (ty := .array .int) C.1 C.2.1 C.2.2.2.2.1 inX1 tyX1 tyX1_ok nmX1 C.2.2.2.1 C.2.2.2.2.2.1 h.1 h.2.1 h.2.2 0 rfl rfl 1 (by decide) (C.2.2.2.2.1 _ hlink) (fun _ z => z) rfl hin rfl (by decide +kernel) rfl rfl hl hdg (fun H1 locs1 hP hD hS => kk H1 locs1 ⟨hP, hD, hS⟩)
theorem cp_Fair_trierName (C : Cx g A p s m av meth c cc nL "BellHammer$Fair" ret0) (hin : meth.name = "<init>") (h : Wl g ((h0, .inr (1, fs)) :: tl) A s H locs) {v : Nat} (hl : 2 < fs.length) (hlink : Cond.fieldLink "BellHammer$Fair" index "BellHammer$Fair" "trierName" "[I" ∈ tb) (hdg : decode cc pc = .ok (.putfield index, 3)) (kk : ∀ (H1 : Heap) (locs1 : List Loc), Wl g ((h0, .inr (1, fs.set 2 (.ref v))) :: tl) A s H1 locs1 → W p l e R s m av below meth c H1 locs1 cells slots Q (F0 m (pc + 3) ls rest)) : W p l e R s m av below meth c H locs cells slots Q (F0 m pc ls (.ref v :: .ref h0 :: rest)) := va_putF (C := RX1) (T := TX1) (N := 12) (ci := 1) (ty := .array .int) C.1 C.2.1 C.2.2.2.2.1 inX1 tyX1 tyX1_ok nmX1 C.2.2.2.1 C.2.2.2.2.2.1 h.1 h.2.1 h.2.2 0 rfl rfl 2 (by decide) (C.2.2.2.2.1 _ hlink) (fun _ z => z) rfl hin rfl (by decide +kernel) rfl rfl hl hdg (fun H1 locs1 hP hD hS => kk H1 locs1 ⟨hP, hD, hS⟩)
theorem cp_Fair_traits (C : Cx g A p s m av meth c cc nL "BellHammer$Fair" ret0) (hin : meth.name = "<init>") (h : Wl g ((h0, .inr (1, fs)) :: tl) A s H locs) {v : Nat} (hl : 3 < fs.length) (hlink : Cond.fieldLink "BellHammer$Fair" index "BellHammer$Fair" "traits" "[I" ∈ tb) (hdg : decode cc pc = .ok (.putfield index, 3)) (kk : ∀ (H1 : Heap) (locs1 : List Loc), Wl g ((h0, .inr (1, fs.set 3 (.ref v))) :: tl) A s H1 locs1 → W p l e R s m av below meth c H1 locs1 cells slots Q (F0 m (pc + 3) ls rest)) : W p l e R s m av below meth c H locs cells slots Q (F0 m pc ls (.ref v :: .ref h0 :: rest)) := va_putF (C := RX1) (T := TX1) (N := 12) (ci := 1) (ty := .array .int) C.1 C.2.1 C.2.2.2.2.1 inX1 tyX1 tyX1_ok nmX1 C.2.2.2.1 C.2.2.2.2.2.1 h.1 h.2.1 h.2.2 0 rfl rfl 3 (by decide) (C.2.2.2.2.1 _ hlink) (fun _ z => z) rfl hin rfl (by decide +kernel) rfl rfl hl hdg (fun H1 locs1 hP hD hS => kk H1 locs1 ⟨hP, hD, hS⟩)
theorem cp_Fair_settings (C : Cx g A p s m av meth c cc nL "BellHammer$Fair" ret0) (hin : meth.name = "<init>") (h : Wl g ((h0, .inr (1, fs)) :: tl) A s H locs) {v : Nat} (hl : 4 < fs.length) (hlink : Cond.fieldLink "BellHammer$Fair" index "BellHammer$Fair" "settings" "[I" ∈ tb) (hdg : decode cc pc = .ok (.putfield index, 3)) (kk : ∀ (H1 : Heap) (locs1 : List Loc), Wl g ((h0, .inr (1, fs.set 4 (.ref v))) :: tl) A s H1 locs1 → W p l e R s m av below meth c H1 locs1 cells slots Q (F0 m (pc + 3) ls rest)) : W p l e R s m av below meth c H locs cells slots Q (F0 m pc ls (.ref v :: .ref h0 :: rest)) := va_putF (C := RX1) (T := TX1) (N := 12) (ci := 1) (ty := .array .int) C.1 C.2.1 C.2.2.2.2.1 inX1 tyX1 tyX1_ok nmX1 C.2.2.2.1 C.2.2.2.2.2.1 h.1 h.2.1 h.2.2 0 rfl rfl 4 (by decide) (C.2.2.2.2.1 _ hlink) (fun _ z => z) rfl hin rfl (by decide +kernel) rfl rfl hl hdg (fun H1 locs1 hP hD hS => kk H1 locs1 ⟨hP, hD, hS⟩)
theorem cp_Fair_code (C : Cx g A p s m av meth c cc nL "BellHammer$Fair" ret0) (hin : meth.name = "<init>") (h : Wl g ((h0, .inr (1, fs)) :: tl) A s H locs) {v : Nat} (hl : 5 < fs.length) (hlink : Cond.fieldLink "BellHammer$Fair" index "BellHammer$Fair" "code" "[I" ∈ tb) (hdg : decode cc pc = .ok (.putfield index, 3)) (kk : ∀ (H1 : Heap) (locs1 : List Loc), Wl g ((h0, .inr (1, fs.set 5 (.ref v))) :: tl) A s H1 locs1 → W p l e R s m av below meth c H1 locs1 cells slots Q (F0 m (pc + 3) ls rest)) : W p l e R s m av below meth c H locs cells slots Q (F0 m pc ls (.ref v :: .ref h0 :: rest)) := va_putF (C := RX1) (T := TX1) (N := 12) (ci := 1) (ty := .array .int) C.1 C.2.1 C.2.2.2.2.1 inX1 tyX1 tyX1_ok nmX1 C.2.2.2.1 C.2.2.2.2.2.1 h.1 h.2.1 h.2.2 0 rfl rfl 5 (by decide) (C.2.2.2.2.1 _ hlink) (fun _ z => z) rfl hin rfl (by decide +kernel) rfl rfl hl hdg (fun H1 locs1 hP hD hS => kk H1 locs1 ⟨hP, hD, hS⟩)
theorem cp_Fair_ruleEnd (C : Cx g A p s m av meth c cc nL "BellHammer$Fair" ret0) (hin : meth.name = "<init>") (h : Wl g ((h0, .inr (1, fs)) :: tl) A s H locs) {v : Nat} (hl : 6 < fs.length) (hlink : Cond.fieldLink "BellHammer$Fair" index "BellHammer$Fair" "ruleEnd" "[I" ∈ tb) (hdg : decode cc pc = .ok (.putfield index, 3)) (kk : ∀ (H1 : Heap) (locs1 : List Loc), Wl g ((h0, .inr (1, fs.set 6 (.ref v))) :: tl) A s H1 locs1 → W p l e R s m av below meth c H1 locs1 cells slots Q (F0 m (pc + 3) ls rest)) : W p l e R s m av below meth c H locs cells slots Q (F0 m pc ls (.ref v :: .ref h0 :: rest)) := va_putF (C := RX1) (T := TX1) (N := 12) (ci := 1) (ty := .array .int) C.1 C.2.1 C.2.2.2.2.1 inX1 tyX1 tyX1_ok nmX1 C.2.2.2.1 C.2.2.2.2.2.1 h.1 h.2.1 h.2.2 0 rfl rfl 6 (by decide) (C.2.2.2.2.1 _ hlink) (fun _ z => z) rfl hin rfl (by decide +kernel) rfl rfl hl hdg (fun H1 locs1 hP hD hS => kk H1 locs1 ⟨hP, hD, hS⟩)
theorem cp_Book_now (C : Cx g A p s m av meth c cc nL "BellHammer$Book" ret0) (hin : meth.name = "<init>") (h : Wl g ((h0, .inr (0, fs)) :: tl) A s H locs) {v : Nat} (hl : 3 < fs.length) (hlink : Cond.fieldLink "BellHammer$Book" index "BellHammer$Book" "now" "[I" ∈ tb) (hdg : decode cc pc = .ok (.putfield index, 3)) (kk : ∀ (H1 : Heap) (locs1 : List Loc), Wl g ((h0, .inr (0, fs.set 3 (.ref v))) :: tl) A s H1 locs1 → W p l e R s m av below meth c H1 locs1 cells slots Q (F0 m (pc + 3) ls rest)) : W p l e R s m av below meth c H locs cells slots Q (F0 m pc ls (.ref v :: .ref h0 :: rest)) := va_putF (C := RX0) (T := TX0) (N := 13) (ci := 0) (ty := .array .int) C.1 C.2.1 C.2.2.2.2.1 inX0 tyX0 tyX0_ok nmX0 C.2.2.2.1 C.2.2.2.2.2.1 h.1 h.2.1 h.2.2 0 rfl rfl 3 (by decide) (C.2.2.2.2.1 _ hlink) (fun _ z => z) rfl hin rfl (by decide +kernel) rfl rfl hl hdg (fun H1 locs1 hP hD hS => kk H1 locs1 ⟨hP, hD, hS⟩)
theorem cp_Book_seed (C : Cx g A p s m av meth c cc nL "BellHammer$Book" ret0) (h : Wl g ((h0, .inr (0, fs)) :: tl) A s H locs) {v : Int32} (hl : 6 < fs.length) (hlink : Cond.fieldLink "BellHammer$Book" index "BellHammer$Book" "seed" "I" ∈ tb) (hdg : decode cc pc = .ok (.putfield index, 3)) (kk : ∀ (H1 : Heap) (locs1 : List Loc), Wl g ((h0, .inr (0, fs.set 6 (.int v))) :: tl) A s H1 locs1 → W p l e R s m av below meth c H1 locs1 cells slots Q (F0 m (pc + 3) ls rest)) : W p l e R s m av below meth c H locs cells slots Q (F0 m pc ls (.int v :: .ref h0 :: rest)) := va_put (C := RX0) (T := TX0) (N := 13) (ci := 0) (ty := .int) C.1 C.2.1 C.2.2.2.2.1 inX0 tyX0 tyX0_ok nmX0 C.2.2.2.1 C.2.2.2.2.2.1 h.1 h.2.1 h.2.2 0 rfl rfl 6 (by decide) (C.2.2.2.2.1 _ hlink) (fun _ z => z) rfl (by decide +kernel) rfl rfl hl hdg (fun H1 locs1 hP hD hS => kk H1 locs1 ⟨hP, hD, hS⟩)
theorem cp_Book_actKind (C : Cx g A p s m av meth c cc nL "BellHammer$Book" ret0) (hin : meth.name = "<init>") (h : Wl g ((h0, .inr (0, fs)) :: tl) A s H locs) {v : Nat} (hl : 8 < fs.length) (hlink : Cond.fieldLink "BellHammer$Book" index "BellHammer$Book" "actKind" "[I" ∈ tb) (hdg : decode cc pc = .ok (.putfield index, 3)) (kk : ∀ (H1 : Heap) (locs1 : List Loc), Wl g ((h0, .inr (0, fs.set 8 (.ref v))) :: tl) A s H1 locs1 → W p l e R s m av below meth c H1 locs1 cells slots Q (F0 m (pc + 3) ls rest)) : W p l e R s m av below meth c H locs cells slots Q (F0 m pc ls (.ref v :: .ref h0 :: rest)) := va_putF (C := RX0) (T := TX0) (N := 13) (ci := 0) (ty := .array .int) C.1 C.2.1 C.2.2.2.2.1 inX0 tyX0 tyX0_ok nmX0 C.2.2.2.1 C.2.2.2.2.2.1 h.1 h.2.1 h.2.2 0 rfl rfl 8 (by decide) (C.2.2.2.2.1 _ hlink) (fun _ z => z) rfl hin rfl (by decide +kernel) rfl rfl hl hdg (fun H1 locs1 hP hD hS => kk H1 locs1 ⟨hP, hD, hS⟩)
theorem cp_Book_actOld (C : Cx g A p s m av meth c cc nL "BellHammer$Book" ret0) (hin : meth.name = "<init>") (h : Wl g ((h0, .inr (0, fs)) :: tl) A s H locs) {v : Nat} (hl : 9 < fs.length) (hlink : Cond.fieldLink "BellHammer$Book" index "BellHammer$Book" "actOld" "[I" ∈ tb) (hdg : decode cc pc = .ok (.putfield index, 3)) (kk : ∀ (H1 : Heap) (locs1 : List Loc), Wl g ((h0, .inr (0, fs.set 9 (.ref v))) :: tl) A s H1 locs1 → W p l e R s m av below meth c H1 locs1 cells slots Q (F0 m (pc + 3) ls rest)) : W p l e R s m av below meth c H locs cells slots Q (F0 m pc ls (.ref v :: .ref h0 :: rest)) := va_putF (C := RX0) (T := TX0) (N := 13) (ci := 0) (ty := .array .int) C.1 C.2.1 C.2.2.2.2.1 inX0 tyX0 tyX0_ok nmX0 C.2.2.2.1 C.2.2.2.2.2.1 h.1 h.2.1 h.2.2 0 rfl rfl 9 (by decide) (C.2.2.2.2.1 _ hlink) (fun _ z => z) rfl hin rfl (by decide +kernel) rfl rfl hl hdg (fun H1 locs1 hP hD hS => kk H1 locs1 ⟨hP, hD, hS⟩)
theorem cp_Book_actBlows (C : Cx g A p s m av meth c cc nL "BellHammer$Book" ret0) (hin : meth.name = "<init>") (h : Wl g ((h0, .inr (0, fs)) :: tl) A s H locs) {v : Nat} (hl : 10 < fs.length) (hlink : Cond.fieldLink "BellHammer$Book" index "BellHammer$Book" "actBlows" "[I" ∈ tb) (hdg : decode cc pc = .ok (.putfield index, 3)) (kk : ∀ (H1 : Heap) (locs1 : List Loc), Wl g ((h0, .inr (0, fs.set 10 (.ref v))) :: tl) A s H1 locs1 → W p l e R s m av below meth c H1 locs1 cells slots Q (F0 m (pc + 3) ls rest)) : W p l e R s m av below meth c H locs cells slots Q (F0 m pc ls (.ref v :: .ref h0 :: rest)) := va_putF (C := RX0) (T := TX0) (N := 13) (ci := 0) (ty := .array .int) C.1 C.2.1 C.2.2.2.2.1 inX0 tyX0 tyX0_ok nmX0 C.2.2.2.1 C.2.2.2.2.2.1 h.1 h.2.1 h.2.2 0 rfl rfl 10 (by decide) (C.2.2.2.2.1 _ hlink) (fun _ z => z) rfl hin rfl (by decide +kernel) rfl rfl hl hdg (fun H1 locs1 hP hD hS => kk H1 locs1 ⟨hP, hD, hS⟩)
theorem cp_Book_blows (C : Cx g A p s m av meth c cc nL "BellHammer$Book" ret0) (hin : meth.name = "<init>") (h : Wl g ((h0, .inr (0, fs)) :: tl) A s H locs) {v : Nat} (hl : 11 < fs.length) (hlink : Cond.fieldLink "BellHammer$Book" index "BellHammer$Book" "blows" "[I" ∈ tb) (hdg : decode cc pc = .ok (.putfield index, 3)) (kk : ∀ (H1 : Heap) (locs1 : List Loc), Wl g ((h0, .inr (0, fs.set 11 (.ref v))) :: tl) A s H1 locs1 → W p l e R s m av below meth c H1 locs1 cells slots Q (F0 m (pc + 3) ls rest)) : W p l e R s m av below meth c H locs cells slots Q (F0 m pc ls (.ref v :: .ref h0 :: rest)) := va_putF (C := RX0) (T := TX0) (N := 13) (ci := 0) (ty := .array .int) C.1 C.2.1 C.2.2.2.2.1 inX0 tyX0 tyX0_ok nmX0 C.2.2.2.1 C.2.2.2.2.2.1 h.1 h.2.1 h.2.2 0 rfl rfl 11 (by decide) (C.2.2.2.2.1 _ hlink) (fun _ z => z) rfl hin rfl (by decide +kernel) rfl rfl hl hdg (fun H1 locs1 hP hD hS => kk H1 locs1 ⟨hP, hD, hS⟩)
theorem cn_Turn (C : Cx g A p s m av meth c cc nL own ret0) (h : Wl g ws A s H locs) (hlink : Cond.classLink own index "BellHammer$Turn" ∈ tb) (hc : cells + 1 ≤ R.cells) (hs : slots + 13 ≤ R.slots) (hdg : decode cc pc = .ok (.new index, 3)) (kk : ∀ (q : Nat) (H1 : Heap), Wl g (ws ++ [(q, .inr (7, [.int 0, .int 0, .int 0, .int 0, .int 0, .int 0, .int 0, .int 0, .int 0, .int 0, .int 0, .int 0, .null]))]) A s H1 locs → W p l e R s m av below meth c H1 locs (cells + 1) (slots + 13) Q (F0 m (pc + 3) ls (.ref q :: rest))) : W p l e R s m av below meth c H locs cells slots Q (F0 m pc ls rest) := va_new (ci := 7) (C := RX8) (T := TX8) (N := 13) C.1 C.2.1 C.2.2.2.2.1 inX8 tyX8 tyX8_ok C.2.2.2.1 (C.2.2.2.2.1 _ hlink) (C.2.2.2.2.1 _ k399) (C.2.2.2.2.1 _ k113) C.2.2.2.2.2.1 h.1 h.2.1 h.2.2 C.2.2.2.2.2.2.1 rfl (by decide +kernel) hc hs hdg (fun q H1 hP hD hS => kk q H1 ⟨hP, hD, hS⟩)
theorem cp_Tree_turn (C : Cx g A p s m av meth c cc nL "BellHammer$Tree" ret0) (hin : meth.name = "<init>") (h : Wl g ((h0, .inr (6, fs)) :: tl) A s H locs) {v : Nat} (hl : 0 < fs.length) (hlink : Cond.fieldLink "BellHammer$Tree" index "BellHammer$Tree" "turn" "LBellHammer$Turn;" ∈ tb) (hdg : decode cc pc = .ok (.putfield index, 3)) (kk : ∀ (H1 : Heap) (locs1 : List Loc), Wl g ((h0, .inr (6, fs.set 0 (.ref v))) :: tl) A s H1 locs1 → W p l e R s m av below meth c H1 locs1 cells slots Q (F0 m (pc + 3) ls rest)) : W p l e R s m av below meth c H locs cells slots Q (F0 m pc ls (.ref v :: .ref h0 :: rest)) := va_putF (C := RX7) (T := TX7) (N := 13) (ci := 6) (ty := .object "BellHammer$Turn") C.1 C.2.1 C.2.2.2.2.1 inX7 tyX7 tyX7_ok nmX7 C.2.2.2.1 C.2.2.2.2.2.1 h.1 h.2.1 h.2.2 0 rfl rfl 0 (by decide) (C.2.2.2.2.1 _ hlink) (fun _ z => z) rfl hin rfl (by decide +kernel) rfl rfl hl hdg (fun H1 locs1 hP hD hS => kk H1 locs1 ⟨hP, hD, hS⟩)
theorem cn_Showman (C : Cx g A p s m av meth c cc nL own ret0) (h : Wl g ws A s H locs) (hlink : Cond.classLink own index "BellHammer$Showman" ∈ tb) (hc : cells + 1 ≤ R.cells) (hs : slots + 2 ≤ R.slots) (hdg : decode cc pc = .ok (.new index, 3)) (kk : ∀ (q : Nat) (H1 : Heap), Wl g (ws ++ [(q, .inr (4, [.null, .null]))]) A s H1 locs → W p l e R s m av below meth c H1 locs (cells + 1) (slots + 2) Q (F0 m (pc + 3) ls (.ref q :: rest))) : W p l e R s m av below meth c H locs cells slots Q (F0 m pc ls rest) := va_new (ci := 4) (C := RX5) (T := TX5) (N := 2) C.1 C.2.1 C.2.2.2.2.1 inX5 tyX5 tyX5_ok C.2.2.2.1 (C.2.2.2.2.1 _ hlink) (C.2.2.2.2.1 _ k386) (C.2.2.2.2.1 _ k112) C.2.2.2.2.2.1 h.1 h.2.1 h.2.2 C.2.2.2.2.2.2.1 rfl (by decide +kernel) hc hs hdg (fun q H1 hP hD hS => kk q H1 ⟨hP, hD, hS⟩)
theorem cp_Tree_showman (C : Cx g A p s m av meth c cc nL "BellHammer$Tree" ret0) (hin : meth.name = "<init>") (h : Wl g ((h0, .inr (6, fs)) :: tl) A s H locs) {v : Nat} (hl : 1 < fs.length) (hlink : Cond.fieldLink "BellHammer$Tree" index "BellHammer$Tree" "showman" "LBellHammer$Showman;" ∈ tb) (hdg : decode cc pc = .ok (.putfield index, 3)) (kk : ∀ (H1 : Heap) (locs1 : List Loc), Wl g ((h0, .inr (6, fs.set 1 (.ref v))) :: tl) A s H1 locs1 → W p l e R s m av below meth c H1 locs1 cells slots Q (F0 m (pc + 3) ls rest)) : W p l e R s m av below meth c H locs cells slots Q (F0 m pc ls (.ref v :: .ref h0 :: rest)) := va_putF (C := RX7) (T := TX7) (N := 13) (ci := 6) (ty := .object "BellHammer$Showman") C.1 C.2.1 C.2.2.2.2.1 inX7 tyX7 tyX7_ok nmX7 C.2.2.2.1 C.2.2.2.2.2.1 h.1 h.2.1 h.2.2 0 rfl rfl 1 (by decide) (C.2.2.2.2.1 _ hlink) (fun _ z => z) rfl hin rfl (by decide +kernel) rfl rfl hl hdg (fun H1 locs1 hP hD hS => kk H1 locs1 ⟨hP, hD, hS⟩)
theorem cp_Tree_knownBlows (C : Cx g A p s m av meth c cc nL "BellHammer$Tree" ret0) (hin : meth.name = "<init>") (h : Wl g ((h0, .inr (6, fs)) :: tl) A s H locs) {v : Nat} (hl : 10 < fs.length) (hlink : Cond.fieldLink "BellHammer$Tree" index "BellHammer$Tree" "knownBlows" "[J" ∈ tb) (hdg : decode cc pc = .ok (.putfield index, 3)) (kk : ∀ (H1 : Heap) (locs1 : List Loc), Wl g ((h0, .inr (6, fs.set 10 (.ref v))) :: tl) A s H1 locs1 → W p l e R s m av below meth c H1 locs1 cells slots Q (F0 m (pc + 3) ls rest)) : W p l e R s m av below meth c H locs cells slots Q (F0 m pc ls (.ref v :: .ref h0 :: rest)) := va_putF (C := RX7) (T := TX7) (N := 13) (ci := 6) (ty := .array .long) C.1 C.2.1 C.2.2.2.2.1 inX7 tyX7 tyX7_ok nmX7 C.2.2.2.1 C.2.2.2.2.2.1 h.1 h.2.1 h.2.2 0 rfl rfl 10 (by decide) (C.2.2.2.2.1 _ hlink) (fun _ z => z) rfl hin rfl (by decide +kernel) rfl rfl hl hdg (fun H1 locs1 hP hD hS => kk H1 locs1 ⟨hP, hD, hS⟩)
theorem cp_Tree_knownRules (C : Cx g A p s m av meth c cc nL "BellHammer$Tree" ret0) (hin : meth.name = "<init>") (h : Wl g ((h0, .inr (6, fs)) :: tl) A s H locs) {v : Nat} (hl : 11 < fs.length) (hlink : Cond.fieldLink "BellHammer$Tree" index "BellHammer$Tree" "knownRules" "[I" ∈ tb) (hdg : decode cc pc = .ok (.putfield index, 3)) (kk : ∀ (H1 : Heap) (locs1 : List Loc), Wl g ((h0, .inr (6, fs.set 11 (.ref v))) :: tl) A s H1 locs1 → W p l e R s m av below meth c H1 locs1 cells slots Q (F0 m (pc + 3) ls rest)) : W p l e R s m av below meth c H locs cells slots Q (F0 m pc ls (.ref v :: .ref h0 :: rest)) := va_putF (C := RX7) (T := TX7) (N := 13) (ci := 6) (ty := .array .int) C.1 C.2.1 C.2.2.2.2.1 inX7 tyX7 tyX7_ok nmX7 C.2.2.2.1 C.2.2.2.2.2.1 h.1 h.2.1 h.2.2 0 rfl rfl 11 (by decide) (C.2.2.2.2.1 _ hlink) (fun _ z => z) rfl hin rfl (by decide +kernel) rfl rfl hl hdg (fun H1 locs1 hP hD hS => kk H1 locs1 ⟨hP, hD, hS⟩)
theorem cp_Tree_blowsByRules (C : Cx g A p s m av meth c cc nL "BellHammer$Tree" ret0) (hin : meth.name = "<init>") (h : Wl g ((h0, .inr (6, fs)) :: tl) A s H locs) {v : Nat} (hl : 12 < fs.length) (hlink : Cond.fieldLink "BellHammer$Tree" index "BellHammer$Tree" "blowsByRules" "[J" ∈ tb) (hdg : decode cc pc = .ok (.putfield index, 3)) (kk : ∀ (H1 : Heap) (locs1 : List Loc), Wl g ((h0, .inr (6, fs.set 12 (.ref v))) :: tl) A s H1 locs1 → W p l e R s m av below meth c H1 locs1 cells slots Q (F0 m (pc + 3) ls rest)) : W p l e R s m av below meth c H locs cells slots Q (F0 m pc ls (.ref v :: .ref h0 :: rest)) := va_putF (C := RX7) (T := TX7) (N := 13) (ci := 6) (ty := .array .long) C.1 C.2.1 C.2.2.2.2.1 inX7 tyX7 tyX7_ok nmX7 C.2.2.2.1 C.2.2.2.2.2.1 h.1 h.2.1 h.2.2 0 rfl rfl 12 (by decide) (C.2.2.2.2.1 _ hlink) (fun _ z => z) rfl hin rfl (by decide +kernel) rfl rfl hl hdg (fun H1 locs1 hP hD hS => kk H1 locs1 ⟨hP, hD, hS⟩)
end RC
section RE
variable {p : Program} {l : Launch} {e : Env} {s : State} {m : MethodId} {av : Array Value} {below : List Frame} {meth : Method} {c : Code} {g : GX} {q : Nat → Nat} {A : Nat → Prop}
def f_Fair_forget_2 (σ : St) : Option (St) :=
  lt (uA σ 4 (va_cpy (stF 2) (sA σ 4) (0 : Int32).toNatClampNeg (0 : Int32).toNatClampNeg (9 : Int32).toNatClampNeg)) fun σ_1 =>
  lt (uI σ_1 0 0) fun σ_2 =>
  lt (uI σ_2 1 0) fun σ_3 =>
  lt (uI σ_3 2 0) fun σ_4 =>
  lt (uI σ_4 3 0) fun σ_5 =>
  lt (uI σ_5 4 0) fun σ_6 =>
  some σ_6
set_option maxHeartbeats 4000000 in
theorem c_Fair_forget_2 {l : Launch} {g : GX} {q : Nat → Nat}  {σ : St} {σ2 : St} (hf : f_Fair_forget_2   σ = some σ2) : KK l y_Fair_forget prog_3_method_2_code 1 none 1 g (wF g q) σ [.ref (q 0)] none (wF g q) σ2 := by
  refine KK_of (plainFor_of_name (by decide)) (Nat.le_of_ble_eq_true rfl) (fun p e s m below meth c A ls C w hl => ?_)
  have hl : lv_has ls 1 [(0, .ref (q 0))] := hl
  obtain ⟨hx, hb, hml, hown, hts, hK, hA, hZ, hlocks, hr, hN⟩ := id C
  unfold f_Fair_forget_2 at hf
  refine r_getsN C w 2 rfl (List.mem_of_getElem? (l := nestF) (i := 0) rfl) d_Fair_forget_0 ?_
  refine lv_iconst (v := 0) hx hb d_Fair_forget_3 (by decide) ?_
  refine lv_aload_n hx hb d_Fair_forget_4 rfl (lv_at hl 0 rfl) ?_
  refine fg_0_settings C w k260 d_Fair_forget_5 ?_
  refine lv_iconst (v := 0) hx hb d_Fair_forget_8 (by decide) ?_
  refine lv_bipush (v := 9) hx hb d_Fair_forget_9 (by decide) ?_
  refine xc_S2_5 C w hl.1 (by omega) (Nat.le_of_ble_eq_true rfl) (by decide) (by decide) (by decide) (by decide) (by decide) k246 d_Fair_forget_11 (fun σ_1 H locs eσ_1 w => ?_)
  have hf := lt_e eσ_1 hf
  refine lv_aload_n hx hb d_Fair_forget_14 rfl (lv_at hl 0 rfl) ?_
  refine lv_iconst (v := 0) hx hb d_Fair_forget_15 (by decide) ?_
  refine fp_0_codeSize C w k270 d_Fair_forget_16 (fun σ_2 H locs eσ_2 w => ?_)
  have hf := lt_e eσ_2 hf
  refine lv_aload_n hx hb d_Fair_forget_19 rfl (lv_at hl 0 rfl) ?_
  refine lv_iconst (v := 0) hx hb d_Fair_forget_20 (by decide) ?_
  refine fp_0_marks C w k272 d_Fair_forget_21 (fun σ_3 H locs eσ_3 w => ?_)
  have hf := lt_e eσ_3 hf
  refine lv_aload_n hx hb d_Fair_forget_24 rfl (lv_at hl 0 rfl) ?_
  refine lv_iconst (v := 0) hx hb d_Fair_forget_25 (by decide) ?_
  refine fp_0_triers C w k275 d_Fair_forget_26 (fun σ_4 H locs eσ_4 w => ?_)
  have hf := lt_e eσ_4 hf
  refine lv_aload_n hx hb d_Fair_forget_29 rfl (lv_at hl 0 rfl) ?_
  refine lv_iconst (v := 0) hx hb d_Fair_forget_30 (by decide) ?_
  refine fp_0_rules C w k280 d_Fair_forget_31 (fun σ_5 H locs eσ_5 w => ?_)
  have hf := lt_e eσ_5 hf
  refine lv_aload_n hx hb d_Fair_forget_34 rfl (lv_at hl 0 rfl) ?_
  refine lv_iconst (v := 0) hx hb d_Fair_forget_35 (by decide) ?_
  refine fp_0_statements C w k285 d_Fair_forget_36 (fun σ_6 H locs eσ_6 w => ?_)
  have hf := lt_e eσ_6 hf
  cases some_e hf
  exact k_vret C w d_Fair_forget_39
end RE
abbrev y_ATape : MethodName := ⟨"BellHammer$Tape", "<init>", "()V"⟩
theorem d_ATape_0 : decode prog_8_method_1_code 0 = .ok (.aload_n 0, 1) := by decide +kernel
theorem d_ATape_1 : decode prog_8_method_1_code 1 = .ok (.invokespecial 3, 3) := by decide +kernel
theorem d_ATape_4 : decode prog_8_method_1_code 4 = .ok (.aload_n 0, 1) := by decide +kernel
theorem d_ATape_5 : decode prog_8_method_1_code 5 = .ok (.sipush 1600, 3) := by decide +kernel
theorem d_ATape_8 : decode prog_8_method_1_code 8 = .ok (.newarray .int, 2) := by decide +kernel
theorem d_ATape_10 : decode prog_8_method_1_code 10 = .ok (.putfield 9, 3) := by decide +kernel
theorem d_ATape_13 : decode prog_8_method_1_code 13 = .ok (.return_, 1) := by decide +kernel
theorem cv_ATape : CalI y_ATape prog_8_method_1_code 1 := ⟨⟨k131, k102, (by decide +kernel), (by decide)⟩, k130, rfl⟩
def wi_Tape (g : GX) (q : Nat → Nat) : va_W := [((q 0), .inr (5, [.ref (q 1), .int 0])), ((q 1), .inl (g.2.1.1, 1600, .inl (fun _ => 0)))]
set_option maxHeartbeats 4000000 in
set_option maxRecDepth 20000 in
theorem a_Tape {l : Launch} {g : GX} {h0 : Nat} : KA l y_ATape prog_8_method_1_code 1 1 1 1600 g [(h0, .inr (5, [.null, .int 0]))] [.ref h0] (fun w => ∃ q : Nat → Nat, q 0 = h0 ∧ w = wi_Tape g q) := by
  refine KA_of (plainFor_of_name (by decide)) (Nat.le_of_ble_eq_true rfl) (fun p e s m below meth c A ls C hin h hl => ?_)
  have hl : lv_has ls 1 [(0, .ref h0)] := hl
  obtain ⟨hx, hb, hml, hown, hts, hK, hA, hZ, hlocks, hr, hN⟩ := id C
  generalize ([] : List Loc) = locs at h ⊢
  refine lv_aload_n hx hb d_ATape_0 rfl (lv_at hl 0 rfl) ?_
  refine k_init C hl.1 k132 d_ATape_1 (Nat.le_of_ble_eq_true rfl) (Nat.le_of_ble_eq_true rfl) ?_
  refine lv_aload_n hx hb d_ATape_4 rfl (lv_at hl 0 rfl) ?_
  refine lv_sipush (v := 1600) hx hb d_ATape_5 (by decide) ?_
  refine k_newi C h (by decide) rfl (Nat.le_of_ble_eq_true rfl) (Nat.le_of_ble_eq_true rfl) (Nat.le_of_ble_eq_true rfl) d_ATape_8 (fun b0 H h => ?_)
  have h : Wl g [(h0, .inr (5, [.null, .int 0])), (b0, .inl (g.2.1.1, 1600, .inl (fun _ => 0)))] A s H locs := h
  refine cp_Tape_bytes C hin h (Nat.le_of_ble_eq_true rfl) k133 d_ATape_10 (fun H locs h => ?_)
  have h : Wl g [(h0, .inr (5, [.ref b0, .int 0])), (b0, .inl (g.2.1.1, 1600, .inl (fun _ => 0)))] A s H locs := h
  refine W.widen (k := 1) (n := 1600) (Nat.le_of_ble_eq_true rfl) (Nat.le_of_ble_eq_true rfl) ?_
  exact k_vretA C h ⟨fun k => [h0, b0].getD k 0, rfl, rfl⟩ d_ATape_13
abbrev y_AShowman : MethodName := ⟨"BellHammer$Showman", "<init>", "()V"⟩
theorem d_AShowman_0 : decode prog_7_method_1_code 0 = .ok (.aload_n 0, 1) := by decide +kernel
theorem d_AShowman_1 : decode prog_7_method_1_code 1 = .ok (.invokespecial 1, 3) := by decide +kernel
theorem d_AShowman_4 : decode prog_7_method_1_code 4 = .ok (.aload_n 0, 1) := by decide +kernel
theorem d_AShowman_5 : decode prog_7_method_1_code 5 = .ok (.bipush 6, 2) := by decide +kernel
theorem d_AShowman_7 : decode prog_7_method_1_code 7 = .ok (.newarray .int, 2) := by decide +kernel
theorem d_AShowman_9 : decode prog_7_method_1_code 9 = .ok (.putfield 7, 3) := by decide +kernel
theorem d_AShowman_12 : decode prog_7_method_1_code 12 = .ok (.aload_n 0, 1) := by decide +kernel
theorem d_AShowman_13 : decode prog_7_method_1_code 13 = .ok (.bipush 64, 2) := by decide +kernel
theorem d_AShowman_15 : decode prog_7_method_1_code 15 = .ok (.newarray .int, 2) := by decide +kernel
theorem d_AShowman_17 : decode prog_7_method_1_code 17 = .ok (.putfield 13, 3) := by decide +kernel
theorem d_AShowman_20 : decode prog_7_method_1_code 20 = .ok (.return_, 1) := by decide +kernel
theorem cv_AShowman : CalI y_AShowman prog_7_method_1_code 1 := ⟨⟨k389, k112, (by decide +kernel), (by decide)⟩, k388, rfl⟩
def wi_Showman (g : GX) (q : Nat → Nat) : va_W := [((q 0), .inr (4, [.ref (q 1), .ref (q 2)])), ((q 1), .inl (g.2.1.1, 6, .inl (fun _ => 0))), ((q 2), .inl (g.2.1.1, 64, .inl (fun _ => 0)))]
set_option maxHeartbeats 4000000 in
set_option maxRecDepth 20000 in
theorem a_Showman {l : Launch} {g : GX} {h0 : Nat} : KA l y_AShowman prog_7_method_1_code 1 1 2 70 g [(h0, .inr (4, [.null, .null]))] [.ref h0] (fun w => ∃ q : Nat → Nat, q 0 = h0 ∧ w = wi_Showman g q) := by
  refine KA_of (plainFor_of_name (by decide)) (Nat.le_of_ble_eq_true rfl) (fun p e s m below meth c A ls C hin h hl => ?_)
  have hl : lv_has ls 1 [(0, .ref h0)] := hl
  obtain ⟨hx, hb, hml, hown, hts, hK, hA, hZ, hlocks, hr, hN⟩ := id C
  generalize ([] : List Loc) = locs at h ⊢
  refine lv_aload_n hx hb d_AShowman_0 rfl (lv_at hl 0 rfl) ?_
  refine k_init C hl.1 k390 d_AShowman_1 (Nat.le_of_ble_eq_true rfl) (Nat.le_of_ble_eq_true rfl) ?_
  refine lv_aload_n hx hb d_AShowman_4 rfl (lv_at hl 0 rfl) ?_
  refine lv_bipush (v := 6) hx hb d_AShowman_5 (by decide) ?_
  refine k_newi C h (by decide) rfl (Nat.le_of_ble_eq_true rfl) (Nat.le_of_ble_eq_true rfl) (Nat.le_of_ble_eq_true rfl) d_AShowman_7 (fun b0 H h => ?_)
  have h : Wl g [(h0, .inr (4, [.null, .null])), (b0, .inl (g.2.1.1, 6, .inl (fun _ => 0)))] A s H locs := h
  refine cp_Showman_facts C hin h (Nat.le_of_ble_eq_true rfl) k391 d_AShowman_9 (fun H locs h => ?_)
  have h : Wl g [(h0, .inr (4, [.ref b0, .null])), (b0, .inl (g.2.1.1, 6, .inl (fun _ => 0)))] A s H locs := h
  refine lv_aload_n hx hb d_AShowman_12 rfl (lv_at hl 0 rfl) ?_
  refine lv_bipush (v := 64) hx hb d_AShowman_13 (by decide) ?_
  refine k_newi C h (by decide) rfl (Nat.le_of_ble_eq_true rfl) (Nat.le_of_ble_eq_true rfl) (Nat.le_of_ble_eq_true rfl) d_AShowman_15 (fun b1 H h => ?_)
  have h : Wl g [(h0, .inr (4, [.ref b0, .null])), (b0, .inl (g.2.1.1, 6, .inl (fun _ => 0))), (b1, .inl (g.2.1.1, 64, .inl (fun _ => 0)))] A s H locs := h
  refine cp_Showman_stack C hin h (Nat.le_of_ble_eq_true rfl) k392 d_AShowman_17 (fun H locs h => ?_)
  have h : Wl g [(h0, .inr (4, [.ref b0, .ref b1])), (b0, .inl (g.2.1.1, 6, .inl (fun _ => 0))), (b1, .inl (g.2.1.1, 64, .inl (fun _ => 0)))] A s H locs := h
  refine W.widen (k := 2) (n := 70) (Nat.le_of_ble_eq_true rfl) (Nat.le_of_ble_eq_true rfl) ?_
  exact k_vretA C h ⟨fun k => [h0, b0, b1].getD k 0, rfl, rfl⟩ d_AShowman_20
abbrev y_ATurn : MethodName := ⟨"BellHammer$Turn", "<init>", "()V"⟩
theorem d_ATurn_0 : decode prog_10_method_1_code 0 = .ok (.aload_n 0, 1) := by decide +kernel
theorem d_ATurn_1 : decode prog_10_method_1_code 1 = .ok (.invokespecial 3, 3) := by decide +kernel
theorem d_ATurn_4 : decode prog_10_method_1_code 4 = .ok (.aload_n 0, 1) := by decide +kernel
theorem d_ATurn_5 : decode prog_10_method_1_code 5 = .ok (.iconst 3, 1) := by decide +kernel
theorem d_ATurn_6 : decode prog_10_method_1_code 6 = .ok (.newarray .int, 2) := by decide +kernel
theorem d_ATurn_8 : decode prog_10_method_1_code 8 = .ok (.putfield 9, 3) := by decide +kernel
theorem d_ATurn_11 : decode prog_10_method_1_code 11 = .ok (.return_, 1) := by decide +kernel
theorem cv_ATurn : CalI y_ATurn prog_10_method_1_code 1 := ⟨⟨k402, k113, (by decide +kernel), (by decide)⟩, k401, rfl⟩
def wi_Turn (g : GX) (q : Nat → Nat) : va_W := [((q 0), .inr (7, [.int 0, .int 0, .int 0, .int 0, .int 0, .int 0, .int 0, .int 0, .int 0, .int 0, .int 0, .int 0, .ref (q 1)])), ((q 1), .inl (g.2.1.1, 3, .inl (fun _ => 0)))]
set_option maxHeartbeats 4000000 in
set_option maxRecDepth 20000 in
theorem a_Turn {l : Launch} {g : GX} {h0 : Nat} : KA l y_ATurn prog_10_method_1_code 1 1 1 3 g [(h0, .inr (7, [.int 0, .int 0, .int 0, .int 0, .int 0, .int 0, .int 0, .int 0, .int 0, .int 0, .int 0, .int 0, .null]))] [.ref h0] (fun w => ∃ q : Nat → Nat, q 0 = h0 ∧ w = wi_Turn g q) := by
  refine KA_of (plainFor_of_name (by decide)) (Nat.le_of_ble_eq_true rfl) (fun p e s m below meth c A ls C hin h hl => ?_)
  have hl : lv_has ls 1 [(0, .ref h0)] := hl
  obtain ⟨hx, hb, hml, hown, hts, hK, hA, hZ, hlocks, hr, hN⟩ := id C
  generalize ([] : List Loc) = locs at h ⊢
  refine lv_aload_n hx hb d_ATurn_0 rfl (lv_at hl 0 rfl) ?_
  refine k_init C hl.1 k403 d_ATurn_1 (Nat.le_of_ble_eq_true rfl) (Nat.le_of_ble_eq_true rfl) ?_
  refine lv_aload_n hx hb d_ATurn_4 rfl (lv_at hl 0 rfl) ?_
  refine lv_iconst (v := 3) hx hb d_ATurn_5 (by decide) ?_
  refine k_newi C h (by decide) rfl (Nat.le_of_ble_eq_true rfl) (Nat.le_of_ble_eq_true rfl) (Nat.le_of_ble_eq_true rfl) d_ATurn_6 (fun b0 H h => ?_)
  have h : Wl g [(h0, .inr (7, [.int 0, .int 0, .int 0, .int 0, .int 0, .int 0, .int 0, .int 0, .int 0, .int 0, .int 0, .int 0, .null])), (b0, .inl (g.2.1.1, 3, .inl (fun _ => 0)))] A s H locs := h
  refine cp_Turn_comes C hin h (Nat.le_of_ble_eq_true rfl) k424 d_ATurn_8 (fun H locs h => ?_)
  have h : Wl g [(h0, .inr (7, [.int 0, .int 0, .int 0, .int 0, .int 0, .int 0, .int 0, .int 0, .int 0, .int 0, .int 0, .int 0, .ref b0])), (b0, .inl (g.2.1.1, 3, .inl (fun _ => 0)))] A s H locs := h
  refine W.widen (k := 1) (n := 3) (Nat.le_of_ble_eq_true rfl) (Nat.le_of_ble_eq_true rfl) ?_
  exact k_vretA C h ⟨fun k => [h0, b0].getD k 0, rfl, rfl⟩ d_ATurn_11
abbrev y_AFair : MethodName := ⟨"BellHammer$Fair", "<init>", "()V"⟩
theorem d_AFair_0 : decode prog_3_method_1_code 0 = .ok (.aload_n 0, 1) := by decide +kernel
theorem d_AFair_1 : decode prog_3_method_1_code 1 = .ok (.invokespecial 3, 3) := by decide +kernel
theorem d_AFair_4 : decode prog_3_method_1_code 4 = .ok (.aload_n 0, 1) := by decide +kernel
theorem d_AFair_5 : decode prog_3_method_1_code 5 = .ok (.bipush 6, 2) := by decide +kernel
theorem d_AFair_7 : decode prog_3_method_1_code 7 = .ok (.newarray .int, 2) := by decide +kernel
theorem d_AFair_9 : decode prog_3_method_1_code 9 = .ok (.putfield 9, 3) := by decide +kernel
theorem d_AFair_12 : decode prog_3_method_1_code 12 = .ok (.aload_n 0, 1) := by decide +kernel
theorem d_AFair_13 : decode prog_3_method_1_code 13 = .ok (.bipush 6, 2) := by decide +kernel
theorem d_AFair_15 : decode prog_3_method_1_code 15 = .ok (.newarray .int, 2) := by decide +kernel
theorem d_AFair_17 : decode prog_3_method_1_code 17 = .ok (.putfield 15, 3) := by decide +kernel
theorem d_AFair_20 : decode prog_3_method_1_code 20 = .ok (.aload_n 0, 1) := by decide +kernel
theorem d_AFair_21 : decode prog_3_method_1_code 21 = .ok (.bipush 8, 2) := by decide +kernel
theorem d_AFair_23 : decode prog_3_method_1_code 23 = .ok (.newarray .int, 2) := by decide +kernel
theorem d_AFair_25 : decode prog_3_method_1_code 25 = .ok (.putfield 18, 3) := by decide +kernel
theorem d_AFair_28 : decode prog_3_method_1_code 28 = .ok (.aload_n 0, 1) := by decide +kernel
theorem d_AFair_29 : decode prog_3_method_1_code 29 = .ok (.bipush 48, 2) := by decide +kernel
theorem d_AFair_31 : decode prog_3_method_1_code 31 = .ok (.newarray .int, 2) := by decide +kernel
theorem d_AFair_33 : decode prog_3_method_1_code 33 = .ok (.putfield 21, 3) := by decide +kernel
theorem d_AFair_36 : decode prog_3_method_1_code 36 = .ok (.aload_n 0, 1) := by decide +kernel
theorem d_AFair_37 : decode prog_3_method_1_code 37 = .ok (.bipush 9, 2) := by decide +kernel
theorem d_AFair_39 : decode prog_3_method_1_code 39 = .ok (.newarray .int, 2) := by decide +kernel
theorem d_AFair_41 : decode prog_3_method_1_code 41 = .ok (.putfield 24, 3) := by decide +kernel
theorem d_AFair_44 : decode prog_3_method_1_code 44 = .ok (.aload_n 0, 1) := by decide +kernel
theorem d_AFair_45 : decode prog_3_method_1_code 45 = .ok (.sipush 1600, 3) := by decide +kernel
theorem d_AFair_48 : decode prog_3_method_1_code 48 = .ok (.newarray .int, 2) := by decide +kernel
theorem d_AFair_50 : decode prog_3_method_1_code 50 = .ok (.putfield 27, 3) := by decide +kernel
theorem d_AFair_53 : decode prog_3_method_1_code 53 = .ok (.aload_n 0, 1) := by decide +kernel
theorem d_AFair_54 : decode prog_3_method_1_code 54 = .ok (.bipush 6, 2) := by decide +kernel
theorem d_AFair_56 : decode prog_3_method_1_code 56 = .ok (.newarray .int, 2) := by decide +kernel
theorem d_AFair_58 : decode prog_3_method_1_code 58 = .ok (.putfield 30, 3) := by decide +kernel
theorem d_AFair_61 : decode prog_3_method_1_code 61 = .ok (.aload_n 0, 1) := by decide +kernel
theorem d_AFair_62 : decode prog_3_method_1_code 62 = .ok (.invokevirtual 33, 3) := by decide +kernel
theorem d_AFair_65 : decode prog_3_method_1_code 65 = .ok (.return_, 1) := by decide +kernel
theorem cv_AFair : CalI y_AFair prog_3_method_1_code 1 := ⟨⟨k238, k109, (by decide +kernel), (by decide)⟩, k237, rfl⟩
def wi_Fair (g : GX) (q : Nat → Nat) : va_W := [((q 0), .inr (1, [.ref (q 1), .ref (q 2), .ref (q 3), .ref (q 4), .ref (q 5), .ref (q 6), .ref (q 7), .int 0, .int 0, .int 0, .int 0, .int 0])), ((q 1), .inl (g.2.1.1, 6, .inl (fun _ => 0))), ((q 2), .inl (g.2.1.1, 6, .inl (fun _ => 0))), ((q 3), .inl (g.2.1.1, 8, .inl (fun _ => 0))), ((q 4), .inl (g.2.1.1, 48, .inl (fun _ => 0))), ((q 5), .inl (g.2.1.1, 9, .inl (va_cpy (stF 2) (fun _ => 0) (0 : Int32).toNatClampNeg (0 : Int32).toNatClampNeg (9 : Int32).toNatClampNeg))), ((q 6), .inl (g.2.1.1, 1600, .inl (fun _ => 0))), ((q 7), .inl (g.2.1.1, 6, .inl (fun _ => 0)))]
set_option maxHeartbeats 4000000 in
set_option maxRecDepth 20000 in
theorem a_Fair {l : Launch} {g : GX} {h0 : Nat} : KA l y_AFair prog_3_method_1_code 1 4 7 1683 g [(h0, .inr (1, [.null, .null, .null, .null, .null, .null, .null, .int 0, .int 0, .int 0, .int 0, .int 0]))] [.ref h0] (fun w => ∃ q : Nat → Nat, q 0 = h0 ∧ w = wi_Fair g q) := by
  refine KA_of (plainFor_of_name (by decide)) (Nat.le_of_ble_eq_true rfl) (fun p e s m below meth c A ls C hin h hl => ?_)
  have hl : lv_has ls 1 [(0, .ref h0)] := hl
  obtain ⟨hx, hb, hml, hown, hts, hK, hA, hZ, hlocks, hr, hN⟩ := id C
  generalize ([] : List Loc) = locs at h ⊢
  refine lv_aload_n hx hb d_AFair_0 rfl (lv_at hl 0 rfl) ?_
  refine k_init C hl.1 k239 d_AFair_1 (Nat.le_of_ble_eq_true rfl) (Nat.le_of_ble_eq_true rfl) ?_
  refine lv_aload_n hx hb d_AFair_4 rfl (lv_at hl 0 rfl) ?_
  refine lv_bipush (v := 6) hx hb d_AFair_5 (by decide) ?_
  refine k_newi C h (by decide) rfl (Nat.le_of_ble_eq_true rfl) (Nat.le_of_ble_eq_true rfl) (Nat.le_of_ble_eq_true rfl) d_AFair_7 (fun b0 H h => ?_)
  have h : Wl g [(h0, .inr (1, [.null, .null, .null, .null, .null, .null, .null, .int 0, .int 0, .int 0, .int 0, .int 0])), (b0, .inl (g.2.1.1, 6, .inl (fun _ => 0)))] A s H locs := h
  refine cp_Fair_markName C hin h (Nat.le_of_ble_eq_true rfl) k249 d_AFair_9 (fun H locs h => ?_)
  have h : Wl g [(h0, .inr (1, [.ref b0, .null, .null, .null, .null, .null, .null, .int 0, .int 0, .int 0, .int 0, .int 0])), (b0, .inl (g.2.1.1, 6, .inl (fun _ => 0)))] A s H locs := h
  refine lv_aload_n hx hb d_AFair_12 rfl (lv_at hl 0 rfl) ?_
  refine lv_bipush (v := 6) hx hb d_AFair_13 (by decide) ?_
  refine k_newi C h (by decide) rfl (Nat.le_of_ble_eq_true rfl) (Nat.le_of_ble_eq_true rfl) (Nat.le_of_ble_eq_true rfl) d_AFair_15 (fun b1 H h => ?_)
  have h : Wl g [(h0, .inr (1, [.ref b0, .null, .null, .null, .null, .null, .null, .int 0, .int 0, .int 0, .int 0, .int 0])), (b0, .inl (g.2.1.1, 6, .inl (fun _ => 0))), (b1, .inl (g.2.1.1, 6, .inl (fun _ => 0)))] A s H locs := h
  refine cp_Fair_markHeight C hin h (Nat.le_of_ble_eq_true rfl) k252 d_AFair_17 (fun H locs h => ?_)
  have h : Wl g [(h0, .inr (1, [.ref b0, .ref b1, .null, .null, .null, .null, .null, .int 0, .int 0, .int 0, .int 0, .int 0])), (b0, .inl (g.2.1.1, 6, .inl (fun _ => 0))), (b1, .inl (g.2.1.1, 6, .inl (fun _ => 0)))] A s H locs := h
  refine lv_aload_n hx hb d_AFair_20 rfl (lv_at hl 0 rfl) ?_
  refine lv_bipush (v := 8) hx hb d_AFair_21 (by decide) ?_
  refine k_newi C h (by decide) rfl (Nat.le_of_ble_eq_true rfl) (Nat.le_of_ble_eq_true rfl) (Nat.le_of_ble_eq_true rfl) d_AFair_23 (fun b2 H h => ?_)
  have h : Wl g [(h0, .inr (1, [.ref b0, .ref b1, .null, .null, .null, .null, .null, .int 0, .int 0, .int 0, .int 0, .int 0])), (b0, .inl (g.2.1.1, 6, .inl (fun _ => 0))), (b1, .inl (g.2.1.1, 6, .inl (fun _ => 0))), (b2, .inl (g.2.1.1, 8, .inl (fun _ => 0)))] A s H locs := h
  refine cp_Fair_trierName C hin h (Nat.le_of_ble_eq_true rfl) k255 d_AFair_25 (fun H locs h => ?_)
  have h : Wl g [(h0, .inr (1, [.ref b0, .ref b1, .ref b2, .null, .null, .null, .null, .int 0, .int 0, .int 0, .int 0, .int 0])), (b0, .inl (g.2.1.1, 6, .inl (fun _ => 0))), (b1, .inl (g.2.1.1, 6, .inl (fun _ => 0))), (b2, .inl (g.2.1.1, 8, .inl (fun _ => 0)))] A s H locs := h
  refine lv_aload_n hx hb d_AFair_28 rfl (lv_at hl 0 rfl) ?_
  refine lv_bipush (v := 48) hx hb d_AFair_29 (by decide) ?_
  refine k_newi C h (by decide) rfl (Nat.le_of_ble_eq_true rfl) (Nat.le_of_ble_eq_true rfl) (Nat.le_of_ble_eq_true rfl) d_AFair_31 (fun b3 H h => ?_)
  have h : Wl g [(h0, .inr (1, [.ref b0, .ref b1, .ref b2, .null, .null, .null, .null, .int 0, .int 0, .int 0, .int 0, .int 0])), (b0, .inl (g.2.1.1, 6, .inl (fun _ => 0))), (b1, .inl (g.2.1.1, 6, .inl (fun _ => 0))), (b2, .inl (g.2.1.1, 8, .inl (fun _ => 0))), (b3, .inl (g.2.1.1, 48, .inl (fun _ => 0)))] A s H locs := h
  refine cp_Fair_traits C hin h (Nat.le_of_ble_eq_true rfl) k258 d_AFair_33 (fun H locs h => ?_)
  have h : Wl g [(h0, .inr (1, [.ref b0, .ref b1, .ref b2, .ref b3, .null, .null, .null, .int 0, .int 0, .int 0, .int 0, .int 0])), (b0, .inl (g.2.1.1, 6, .inl (fun _ => 0))), (b1, .inl (g.2.1.1, 6, .inl (fun _ => 0))), (b2, .inl (g.2.1.1, 8, .inl (fun _ => 0))), (b3, .inl (g.2.1.1, 48, .inl (fun _ => 0)))] A s H locs := h
  refine lv_aload_n hx hb d_AFair_36 rfl (lv_at hl 0 rfl) ?_
  refine lv_bipush (v := 9) hx hb d_AFair_37 (by decide) ?_
  refine k_newi C h (by decide) rfl (Nat.le_of_ble_eq_true rfl) (Nat.le_of_ble_eq_true rfl) (Nat.le_of_ble_eq_true rfl) d_AFair_39 (fun b4 H h => ?_)
  have h : Wl g [(h0, .inr (1, [.ref b0, .ref b1, .ref b2, .ref b3, .null, .null, .null, .int 0, .int 0, .int 0, .int 0, .int 0])), (b0, .inl (g.2.1.1, 6, .inl (fun _ => 0))), (b1, .inl (g.2.1.1, 6, .inl (fun _ => 0))), (b2, .inl (g.2.1.1, 8, .inl (fun _ => 0))), (b3, .inl (g.2.1.1, 48, .inl (fun _ => 0))), (b4, .inl (g.2.1.1, 9, .inl (fun _ => 0)))] A s H locs := h
  refine cp_Fair_settings C hin h (Nat.le_of_ble_eq_true rfl) k260 d_AFair_41 (fun H locs h => ?_)
  have h : Wl g [(h0, .inr (1, [.ref b0, .ref b1, .ref b2, .ref b3, .ref b4, .null, .null, .int 0, .int 0, .int 0, .int 0, .int 0])), (b0, .inl (g.2.1.1, 6, .inl (fun _ => 0))), (b1, .inl (g.2.1.1, 6, .inl (fun _ => 0))), (b2, .inl (g.2.1.1, 8, .inl (fun _ => 0))), (b3, .inl (g.2.1.1, 48, .inl (fun _ => 0))), (b4, .inl (g.2.1.1, 9, .inl (fun _ => 0)))] A s H locs := h
  refine lv_aload_n hx hb d_AFair_44 rfl (lv_at hl 0 rfl) ?_
  refine lv_sipush (v := 1600) hx hb d_AFair_45 (by decide) ?_
  refine k_newi C h (by decide) rfl (Nat.le_of_ble_eq_true rfl) (Nat.le_of_ble_eq_true rfl) (Nat.le_of_ble_eq_true rfl) d_AFair_48 (fun b5 H h => ?_)
  have h : Wl g [(h0, .inr (1, [.ref b0, .ref b1, .ref b2, .ref b3, .ref b4, .null, .null, .int 0, .int 0, .int 0, .int 0, .int 0])), (b0, .inl (g.2.1.1, 6, .inl (fun _ => 0))), (b1, .inl (g.2.1.1, 6, .inl (fun _ => 0))), (b2, .inl (g.2.1.1, 8, .inl (fun _ => 0))), (b3, .inl (g.2.1.1, 48, .inl (fun _ => 0))), (b4, .inl (g.2.1.1, 9, .inl (fun _ => 0))), (b5, .inl (g.2.1.1, 1600, .inl (fun _ => 0)))] A s H locs := h
  refine cp_Fair_code C hin h (Nat.le_of_ble_eq_true rfl) k265 d_AFair_50 (fun H locs h => ?_)
  have h : Wl g [(h0, .inr (1, [.ref b0, .ref b1, .ref b2, .ref b3, .ref b4, .ref b5, .null, .int 0, .int 0, .int 0, .int 0, .int 0])), (b0, .inl (g.2.1.1, 6, .inl (fun _ => 0))), (b1, .inl (g.2.1.1, 6, .inl (fun _ => 0))), (b2, .inl (g.2.1.1, 8, .inl (fun _ => 0))), (b3, .inl (g.2.1.1, 48, .inl (fun _ => 0))), (b4, .inl (g.2.1.1, 9, .inl (fun _ => 0))), (b5, .inl (g.2.1.1, 1600, .inl (fun _ => 0)))] A s H locs := h
  refine lv_aload_n hx hb d_AFair_53 rfl (lv_at hl 0 rfl) ?_
  refine lv_bipush (v := 6) hx hb d_AFair_54 (by decide) ?_
  refine k_newi C h (by decide) rfl (Nat.le_of_ble_eq_true rfl) (Nat.le_of_ble_eq_true rfl) (Nat.le_of_ble_eq_true rfl) d_AFair_56 (fun b6 H h => ?_)
  have h : Wl g [(h0, .inr (1, [.ref b0, .ref b1, .ref b2, .ref b3, .ref b4, .ref b5, .null, .int 0, .int 0, .int 0, .int 0, .int 0])), (b0, .inl (g.2.1.1, 6, .inl (fun _ => 0))), (b1, .inl (g.2.1.1, 6, .inl (fun _ => 0))), (b2, .inl (g.2.1.1, 8, .inl (fun _ => 0))), (b3, .inl (g.2.1.1, 48, .inl (fun _ => 0))), (b4, .inl (g.2.1.1, 9, .inl (fun _ => 0))), (b5, .inl (g.2.1.1, 1600, .inl (fun _ => 0))), (b6, .inl (g.2.1.1, 6, .inl (fun _ => 0)))] A s H locs := h
  refine cp_Fair_ruleEnd C hin h (Nat.le_of_ble_eq_true rfl) k267 d_AFair_58 (fun H locs h => ?_)
  have h : Wl g [(h0, .inr (1, [.ref b0, .ref b1, .ref b2, .ref b3, .ref b4, .ref b5, .ref b6, .int 0, .int 0, .int 0, .int 0, .int 0])), (b0, .inl (g.2.1.1, 6, .inl (fun _ => 0))), (b1, .inl (g.2.1.1, 6, .inl (fun _ => 0))), (b2, .inl (g.2.1.1, 8, .inl (fun _ => 0))), (b3, .inl (g.2.1.1, 48, .inl (fun _ => 0))), (b4, .inl (g.2.1.1, 9, .inl (fun _ => 0))), (b5, .inl (g.2.1.1, 1600, .inl (fun _ => 0))), (b6, .inl (g.2.1.1, 6, .inl (fun _ => 0)))] A s H locs := h
  refine lv_aload_n hx hb d_AFair_61 rfl (lv_at hl 0 rfl) ?_
  have h2 : Wd2 g A s (wF g (fun k => [h0, b0, b1, b2, b3, b4, b5, b6].getD k 0) dSt) [] H locs := ⟨h.1, fun k x hk => (by cases hk), h.2.1, ⟨fun i j x y hx hy => (by cases hx), fun k x hk => (by cases hk)⟩, fun i j x y hx hy => (by cases hy), h.2.2⟩
  refine k_call2 (w := wF g (fun k => [h0, b0, b1, b2, b3, b4, b5, b6].getD k 0)) (wb := []) (As := []) (rest := []) (b := h0) C h2 (c_Fair_forget_2 (q := (fun k => [h0, b0, b1, b2, b3, b4, b5, b6].getD k 0)) rfl) cv_Fair_forget k240 (fr_0 C ⟨h2.1, h2.2.2.1, h2.2.2.2.2.2⟩) (Nat.le_of_ble_eq_true rfl) (Nat.le_of_ble_eq_true rfl) ⟨(Nat.le_of_ble_eq_true rfl), (Nat.le_of_ble_eq_true rfl)⟩ hl.1 rfl (Nat.le_of_ble_eq_true rfl) d_AFair_62 (fun H locs h2 => ?_)
  show W p l e (rmA 4 7 1683) s m _ below meth c H locs _ _ _ (F0 m 65 ls [])
  have h : Wl g [(h0, .inr (1, [.ref b0, .ref b1, .ref b2, .ref b3, .ref b4, .ref b5, .ref b6, .int 0, .int 0, .int 0, .int 0, .int 0])), (b0, .inl (g.2.1.1, 6, .inl (fun _ => 0))), (b1, .inl (g.2.1.1, 6, .inl (fun _ => 0))), (b2, .inl (g.2.1.1, 8, .inl (fun _ => 0))), (b3, .inl (g.2.1.1, 48, .inl (fun _ => 0))), (b4, .inl (g.2.1.1, 9, .inl (va_cpy (stF 2) (fun _ => 0) (0 : Int32).toNatClampNeg (0 : Int32).toNatClampNeg (9 : Int32).toNatClampNeg))), (b5, .inl (g.2.1.1, 1600, .inl (fun _ => 0))), (b6, .inl (g.2.1.1, 6, .inl (fun _ => 0)))] A s H locs := ⟨h2.1, h2.2.2.1, h2.2.2.2.2.2⟩
  refine W.widen (k := 7) (n := 1683) (Nat.le_of_ble_eq_true rfl) (Nat.le_of_ble_eq_true rfl) ?_
  exact k_vretA C h ⟨fun k => [h0, b0, b1, b2, b3, b4, b5, b6].getD k 0, rfl, rfl⟩ d_AFair_65
abbrev y_ABook : MethodName := ⟨"BellHammer$Book", "<init>", "()V"⟩
theorem d_ABook_0 : decode prog_2_method_1_code 0 = .ok (.aload_n 0, 1) := by decide +kernel
theorem d_ABook_1 : decode prog_2_method_1_code 1 = .ok (.invokespecial 5, 3) := by decide +kernel
theorem d_ABook_4 : decode prog_2_method_1_code 4 = .ok (.aload_n 0, 1) := by decide +kernel
theorem d_ABook_5 : decode prog_2_method_1_code 5 = .ok (.iconst 3, 1) := by decide +kernel
theorem d_ABook_6 : decode prog_2_method_1_code 6 = .ok (.newarray .int, 2) := by decide +kernel
theorem d_ABook_8 : decode prog_2_method_1_code 8 = .ok (.putfield 11, 3) := by decide +kernel
theorem d_ABook_11 : decode prog_2_method_1_code 11 = .ok (.aload_n 0, 1) := by decide +kernel
theorem d_ABook_12 : decode prog_2_method_1_code 12 = .ok (.iconst 1, 1) := by decide +kernel
theorem d_ABook_13 : decode prog_2_method_1_code 13 = .ok (.putfield 15, 3) := by decide +kernel
theorem d_ABook_16 : decode prog_2_method_1_code 16 = .ok (.aload_n 0, 1) := by decide +kernel
theorem d_ABook_17 : decode prog_2_method_1_code 17 = .ok (.bipush 20, 2) := by decide +kernel
theorem d_ABook_19 : decode prog_2_method_1_code 19 = .ok (.newarray .int, 2) := by decide +kernel
theorem d_ABook_21 : decode prog_2_method_1_code 21 = .ok (.putfield 19, 3) := by decide +kernel
theorem d_ABook_24 : decode prog_2_method_1_code 24 = .ok (.aload_n 0, 1) := by decide +kernel
theorem d_ABook_25 : decode prog_2_method_1_code 25 = .ok (.bipush 20, 2) := by decide +kernel
theorem d_ABook_27 : decode prog_2_method_1_code 27 = .ok (.newarray .int, 2) := by decide +kernel
theorem d_ABook_29 : decode prog_2_method_1_code 29 = .ok (.putfield 22, 3) := by decide +kernel
theorem d_ABook_32 : decode prog_2_method_1_code 32 = .ok (.aload_n 0, 1) := by decide +kernel
theorem d_ABook_33 : decode prog_2_method_1_code 33 = .ok (.bipush 20, 2) := by decide +kernel
theorem d_ABook_35 : decode prog_2_method_1_code 35 = .ok (.newarray .int, 2) := by decide +kernel
theorem d_ABook_37 : decode prog_2_method_1_code 37 = .ok (.putfield 25, 3) := by decide +kernel
theorem d_ABook_40 : decode prog_2_method_1_code 40 = .ok (.aload_n 0, 1) := by decide +kernel
theorem d_ABook_41 : decode prog_2_method_1_code 41 = .ok (.sipush 700, 3) := by decide +kernel
theorem d_ABook_44 : decode prog_2_method_1_code 44 = .ok (.newarray .int, 2) := by decide +kernel
theorem d_ABook_46 : decode prog_2_method_1_code 46 = .ok (.putfield 28, 3) := by decide +kernel
theorem d_ABook_49 : decode prog_2_method_1_code 49 = .ok (.getstatic 31, 3) := by decide +kernel
theorem d_ABook_52 : decode prog_2_method_1_code 52 = .ok (.iconst 0, 1) := by decide +kernel
theorem d_ABook_53 : decode prog_2_method_1_code 53 = .ok (.aload_n 0, 1) := by decide +kernel
theorem d_ABook_54 : decode prog_2_method_1_code 54 = .ok (.getfield 11, 3) := by decide +kernel
theorem d_ABook_57 : decode prog_2_method_1_code 57 = .ok (.iconst 0, 1) := by decide +kernel
theorem d_ABook_58 : decode prog_2_method_1_code 58 = .ok (.iconst 3, 1) := by decide +kernel
theorem d_ABook_59 : decode prog_2_method_1_code 59 = .ok (.invokestatic 34, 3) := by decide +kernel
theorem d_ABook_62 : decode prog_2_method_1_code 62 = .ok (.return_, 1) := by decide +kernel
theorem cv_ABook : CalI y_ABook prog_2_method_1_code 1 := ⟨⟨k333, k111, (by decide +kernel), (by decide)⟩, k332, rfl⟩
def wi_Book (g : GX) (q : Nat → Nat) : va_W := [((q 0), .inr (0, [.int 0, .int 0, .int 0, .ref (q 1), .int 0, .int 0, .int 1, .int 0, .ref (q 2), .ref (q 3), .ref (q 4), .ref (q 5), .int 0])), ((q 1), .inl (g.2.1.1, 3, .inl (va_cpy (stF 2) (fun _ => 0) (0 : Int32).toNatClampNeg (0 : Int32).toNatClampNeg (3 : Int32).toNatClampNeg))), ((q 2), .inl (g.2.1.1, 20, .inl (fun _ => 0))), ((q 3), .inl (g.2.1.1, 20, .inl (fun _ => 0))), ((q 4), .inl (g.2.1.1, 20, .inl (fun _ => 0))), ((q 5), .inl (g.2.1.1, 700, .inl (fun _ => 0)))]
set_option maxHeartbeats 4000000 in
set_option maxRecDepth 20000 in
theorem a_Book {l : Launch} {g : GX} {h0 : Nat} : KA l y_ABook prog_2_method_1_code 1 1 5 763 g [(h0, .inr (0, [.int 0, .int 0, .int 0, .null, .int 0, .int 0, .int 0, .int 0, .null, .null, .null, .null, .int 0]))] [.ref h0] (fun w => ∃ q : Nat → Nat, q 0 = h0 ∧ w = wi_Book g q) := by
  refine KA_of (plainFor_of_name (by decide)) (Nat.le_of_ble_eq_true rfl) (fun p e s m below meth c A ls C hin h hl => ?_)
  have hl : lv_has ls 1 [(0, .ref h0)] := hl
  obtain ⟨hx, hb, hml, hown, hts, hK, hA, hZ, hlocks, hr, hN⟩ := id C
  generalize ([] : List Loc) = locs at h ⊢
  refine lv_aload_n hx hb d_ABook_0 rfl (lv_at hl 0 rfl) ?_
  refine k_init C hl.1 k334 d_ABook_1 (Nat.le_of_ble_eq_true rfl) (Nat.le_of_ble_eq_true rfl) ?_
  refine lv_aload_n hx hb d_ABook_4 rfl (lv_at hl 0 rfl) ?_
  refine lv_iconst (v := 3) hx hb d_ABook_5 (by decide) ?_
  refine k_newi C h (by decide) rfl (Nat.le_of_ble_eq_true rfl) (Nat.le_of_ble_eq_true rfl) (Nat.le_of_ble_eq_true rfl) d_ABook_6 (fun b0 H h => ?_)
  have h : Wl g [(h0, .inr (0, [.int 0, .int 0, .int 0, .null, .int 0, .int 0, .int 0, .int 0, .null, .null, .null, .null, .int 0])), (b0, .inl (g.2.1.1, 3, .inl (fun _ => 0)))] A s H locs := h
  refine cp_Book_now C hin h (Nat.le_of_ble_eq_true rfl) k343 d_ABook_8 (fun H locs h => ?_)
  have h : Wl g [(h0, .inr (0, [.int 0, .int 0, .int 0, .ref b0, .int 0, .int 0, .int 0, .int 0, .null, .null, .null, .null, .int 0])), (b0, .inl (g.2.1.1, 3, .inl (fun _ => 0)))] A s H locs := h
  refine lv_aload_n hx hb d_ABook_11 rfl (lv_at hl 0 rfl) ?_
  refine lv_iconst (v := 1) hx hb d_ABook_12 (by decide) ?_
  refine cp_Book_seed C h (Nat.le_of_ble_eq_true rfl) k349 d_ABook_13 (fun H locs h => ?_)
  have h : Wl g [(h0, .inr (0, [.int 0, .int 0, .int 0, .ref b0, .int 0, .int 0, .int 1, .int 0, .null, .null, .null, .null, .int 0])), (b0, .inl (g.2.1.1, 3, .inl (fun _ => 0)))] A s H locs := h
  refine lv_aload_n hx hb d_ABook_16 rfl (lv_at hl 0 rfl) ?_
  refine lv_bipush (v := 20) hx hb d_ABook_17 (by decide) ?_
  refine k_newi C h (by decide) rfl (Nat.le_of_ble_eq_true rfl) (Nat.le_of_ble_eq_true rfl) (Nat.le_of_ble_eq_true rfl) d_ABook_19 (fun b1 H h => ?_)
  have h : Wl g [(h0, .inr (0, [.int 0, .int 0, .int 0, .ref b0, .int 0, .int 0, .int 1, .int 0, .null, .null, .null, .null, .int 0])), (b0, .inl (g.2.1.1, 3, .inl (fun _ => 0))), (b1, .inl (g.2.1.1, 20, .inl (fun _ => 0)))] A s H locs := h
  refine cp_Book_actKind C hin h (Nat.le_of_ble_eq_true rfl) k353 d_ABook_21 (fun H locs h => ?_)
  have h : Wl g [(h0, .inr (0, [.int 0, .int 0, .int 0, .ref b0, .int 0, .int 0, .int 1, .int 0, .ref b1, .null, .null, .null, .int 0])), (b0, .inl (g.2.1.1, 3, .inl (fun _ => 0))), (b1, .inl (g.2.1.1, 20, .inl (fun _ => 0)))] A s H locs := h
  refine lv_aload_n hx hb d_ABook_24 rfl (lv_at hl 0 rfl) ?_
  refine lv_bipush (v := 20) hx hb d_ABook_25 (by decide) ?_
  refine k_newi C h (by decide) rfl (Nat.le_of_ble_eq_true rfl) (Nat.le_of_ble_eq_true rfl) (Nat.le_of_ble_eq_true rfl) d_ABook_27 (fun b2 H h => ?_)
  have h : Wl g [(h0, .inr (0, [.int 0, .int 0, .int 0, .ref b0, .int 0, .int 0, .int 1, .int 0, .ref b1, .null, .null, .null, .int 0])), (b0, .inl (g.2.1.1, 3, .inl (fun _ => 0))), (b1, .inl (g.2.1.1, 20, .inl (fun _ => 0))), (b2, .inl (g.2.1.1, 20, .inl (fun _ => 0)))] A s H locs := h
  refine cp_Book_actOld C hin h (Nat.le_of_ble_eq_true rfl) k354 d_ABook_29 (fun H locs h => ?_)
  have h : Wl g [(h0, .inr (0, [.int 0, .int 0, .int 0, .ref b0, .int 0, .int 0, .int 1, .int 0, .ref b1, .ref b2, .null, .null, .int 0])), (b0, .inl (g.2.1.1, 3, .inl (fun _ => 0))), (b1, .inl (g.2.1.1, 20, .inl (fun _ => 0))), (b2, .inl (g.2.1.1, 20, .inl (fun _ => 0)))] A s H locs := h
  refine lv_aload_n hx hb d_ABook_32 rfl (lv_at hl 0 rfl) ?_
  refine lv_bipush (v := 20) hx hb d_ABook_33 (by decide) ?_
  refine k_newi C h (by decide) rfl (Nat.le_of_ble_eq_true rfl) (Nat.le_of_ble_eq_true rfl) (Nat.le_of_ble_eq_true rfl) d_ABook_35 (fun b3 H h => ?_)
  have h : Wl g [(h0, .inr (0, [.int 0, .int 0, .int 0, .ref b0, .int 0, .int 0, .int 1, .int 0, .ref b1, .ref b2, .null, .null, .int 0])), (b0, .inl (g.2.1.1, 3, .inl (fun _ => 0))), (b1, .inl (g.2.1.1, 20, .inl (fun _ => 0))), (b2, .inl (g.2.1.1, 20, .inl (fun _ => 0))), (b3, .inl (g.2.1.1, 20, .inl (fun _ => 0)))] A s H locs := h
  refine cp_Book_actBlows C hin h (Nat.le_of_ble_eq_true rfl) k355 d_ABook_37 (fun H locs h => ?_)
  have h : Wl g [(h0, .inr (0, [.int 0, .int 0, .int 0, .ref b0, .int 0, .int 0, .int 1, .int 0, .ref b1, .ref b2, .ref b3, .null, .int 0])), (b0, .inl (g.2.1.1, 3, .inl (fun _ => 0))), (b1, .inl (g.2.1.1, 20, .inl (fun _ => 0))), (b2, .inl (g.2.1.1, 20, .inl (fun _ => 0))), (b3, .inl (g.2.1.1, 20, .inl (fun _ => 0)))] A s H locs := h
  refine lv_aload_n hx hb d_ABook_40 rfl (lv_at hl 0 rfl) ?_
  refine lv_sipush (v := 700) hx hb d_ABook_41 (by decide) ?_
  refine k_newi C h (by decide) rfl (Nat.le_of_ble_eq_true rfl) (Nat.le_of_ble_eq_true rfl) (Nat.le_of_ble_eq_true rfl) d_ABook_44 (fun b4 H h => ?_)
  have h : Wl g [(h0, .inr (0, [.int 0, .int 0, .int 0, .ref b0, .int 0, .int 0, .int 1, .int 0, .ref b1, .ref b2, .ref b3, .null, .int 0])), (b0, .inl (g.2.1.1, 3, .inl (fun _ => 0))), (b1, .inl (g.2.1.1, 20, .inl (fun _ => 0))), (b2, .inl (g.2.1.1, 20, .inl (fun _ => 0))), (b3, .inl (g.2.1.1, 20, .inl (fun _ => 0))), (b4, .inl (g.2.1.1, 700, .inl (fun _ => 0)))] A s H locs := h
  refine cp_Book_blows C hin h (Nat.le_of_ble_eq_true rfl) k356 d_ABook_46 (fun H locs h => ?_)
  have h : Wl g [(h0, .inr (0, [.int 0, .int 0, .int 0, .ref b0, .int 0, .int 0, .int 1, .int 0, .ref b1, .ref b2, .ref b3, .ref b4, .int 0])), (b0, .inl (g.2.1.1, 3, .inl (fun _ => 0))), (b1, .inl (g.2.1.1, 20, .inl (fun _ => 0))), (b2, .inl (g.2.1.1, 20, .inl (fun _ => 0))), (b3, .inl (g.2.1.1, 20, .inl (fun _ => 0))), (b4, .inl (g.2.1.1, 700, .inl (fun _ => 0)))] A s H locs := h
  refine va_getsN hx hb (hZ.1 2 _ rfl).1 h.2.2 hown ((hN.1.1 _ (List.mem_of_getElem? (l := nestF) (i := 1) rfl)).use rfl) (fun _ z => z) d_ABook_49 ?_
  refine lv_iconst (v := 0) hx hb d_ABook_52 (by decide) ?_
  refine lv_aload_n hx hb d_ABook_53 rfl (lv_at hl 0 rfl) ?_
  refine va_get (C := RX0) (T := TX0) (N := 13) (ci := 0) (v := .ref b0) hx hb hts inX0 hown hK h.1 0 rfl rfl 3 (by decide) (hts _ k343) (fun _ z => z) rfl d_ABook_54 ?_
  refine lv_iconst (v := 0) hx hb d_ABook_57 (by decide) ?_
  refine lv_iconst (v := 3) hx hb d_ABook_58 (by decide) ?_
  have z := hZ.1 2 _ rfl
  refine va_copyx hx hb (hml.trans hl.1.symm) hown (hts _ k336) (hts _ k248) (hts _ k247) (hts _ k110) hK h.1 h.2.1 h.2.2 (b0 := g.2.2 2) (n0 := 9) (f := stF 2) z.2.2 (va_T_out z.2.1).2 (va_T_out z.2.1).1 1 0 rfl rfl (by decide) (by decide) (by decide) (by decide) (by decide) (Nat.le_of_ble_eq_true rfl) (by decide) d_ABook_59 (fun H locs hP hD hS => ?_)
  have h : Wl g [(h0, .inr (0, [.int 0, .int 0, .int 0, .ref b0, .int 0, .int 0, .int 1, .int 0, .ref b1, .ref b2, .ref b3, .ref b4, .int 0])), (b0, .inl (g.2.1.1, 3, .inl (va_cpy (stF 2) (fun _ => 0) (0 : Int32).toNatClampNeg (0 : Int32).toNatClampNeg (3 : Int32).toNatClampNeg))), (b1, .inl (g.2.1.1, 20, .inl (fun _ => 0))), (b2, .inl (g.2.1.1, 20, .inl (fun _ => 0))), (b3, .inl (g.2.1.1, 20, .inl (fun _ => 0))), (b4, .inl (g.2.1.1, 700, .inl (fun _ => 0)))] A s H locs := ⟨hP, hD, hS⟩
  refine W.widen (k := 5) (n := 763) (Nat.le_of_ble_eq_true rfl) (Nat.le_of_ble_eq_true rfl) ?_
  exact k_vretA C h ⟨fun k => [h0, b0, b1, b2, b3, b4].getD k 0, rfl, rfl⟩ d_ABook_62
abbrev y_ATree : MethodName := ⟨"BellHammer$Tree", "<init>", "()V"⟩
theorem d_ATree_0 : decode prog_9_method_1_code 0 = .ok (.aload_n 0, 1) := by decide +kernel
theorem d_ATree_1 : decode prog_9_method_1_code 1 = .ok (.invokespecial 5, 3) := by decide +kernel
theorem d_ATree_4 : decode prog_9_method_1_code 4 = .ok (.aload_n 0, 1) := by decide +kernel
theorem d_ATree_5 : decode prog_9_method_1_code 5 = .ok (.new 11, 3) := by decide +kernel
theorem d_ATree_8 : decode prog_9_method_1_code 8 = .ok (.dup, 1) := by decide +kernel
theorem d_ATree_9 : decode prog_9_method_1_code 9 = .ok (.invokespecial 13, 3) := by decide +kernel
theorem d_ATree_12 : decode prog_9_method_1_code 12 = .ok (.putfield 14, 3) := by decide +kernel
theorem d_ATree_15 : decode prog_9_method_1_code 15 = .ok (.aload_n 0, 1) := by decide +kernel
theorem d_ATree_16 : decode prog_9_method_1_code 16 = .ok (.new 18, 3) := by decide +kernel
theorem d_ATree_19 : decode prog_9_method_1_code 19 = .ok (.dup, 1) := by decide +kernel
theorem d_ATree_20 : decode prog_9_method_1_code 20 = .ok (.invokespecial 20, 3) := by decide +kernel
theorem d_ATree_23 : decode prog_9_method_1_code 23 = .ok (.putfield 21, 3) := by decide +kernel
theorem d_ATree_26 : decode prog_9_method_1_code 26 = .ok (.aload_n 0, 1) := by decide +kernel
theorem d_ATree_27 : decode prog_9_method_1_code 27 = .ok (.sipush 192, 3) := by decide +kernel
theorem d_ATree_30 : decode prog_9_method_1_code 30 = .ok (.newarray .long, 2) := by decide +kernel
theorem d_ATree_32 : decode prog_9_method_1_code 32 = .ok (.putfield 25, 3) := by decide +kernel
theorem d_ATree_35 : decode prog_9_method_1_code 35 = .ok (.aload_n 0, 1) := by decide +kernel
theorem d_ATree_36 : decode prog_9_method_1_code 36 = .ok (.sipush 192, 3) := by decide +kernel
theorem d_ATree_39 : decode prog_9_method_1_code 39 = .ok (.newarray .int, 2) := by decide +kernel
theorem d_ATree_41 : decode prog_9_method_1_code 41 = .ok (.putfield 29, 3) := by decide +kernel
theorem d_ATree_44 : decode prog_9_method_1_code 44 = .ok (.aload_n 0, 1) := by decide +kernel
theorem d_ATree_45 : decode prog_9_method_1_code 45 = .ok (.bipush 64, 2) := by decide +kernel
theorem d_ATree_47 : decode prog_9_method_1_code 47 = .ok (.newarray .long, 2) := by decide +kernel
theorem d_ATree_49 : decode prog_9_method_1_code 49 = .ok (.putfield 33, 3) := by decide +kernel
theorem d_ATree_52 : decode prog_9_method_1_code 52 = .ok (.return_, 1) := by decide +kernel
theorem cv_ATree : CalI y_ATree prog_9_method_1_code 1 := ⟨⟨k456, k114, (by decide +kernel), (by decide)⟩, k455, rfl⟩
def wi_Tree (g : GX) (q : Nat → Nat) : va_W := [((q 0), .inr (6, [.ref (q 1), .ref (q 3), .long 0, .long 0, .long 0, .long 0, .int 0, .int 0, .int 0, .long 0, .ref (q 6), .ref (q 7), .ref (q 8)])), ((q 1), .inr (7, [.int 0, .int 0, .int 0, .int 0, .int 0, .int 0, .int 0, .int 0, .int 0, .int 0, .int 0, .int 0, .ref (q 2)])), ((q 2), .inl (g.2.1.1, 3, .inl (fun _ => 0))), ((q 3), .inr (4, [.ref (q 4), .ref (q 5)])), ((q 4), .inl (g.2.1.1, 6, .inl (fun _ => 0))), ((q 5), .inl (g.2.1.1, 64, .inl (fun _ => 0))), ((q 6), .inl (g.2.1.2.1, 192, .inr (.inl (fun _ => 0)))), ((q 7), .inl (g.2.1.1, 192, .inl (fun _ => 0))), ((q 8), .inl (g.2.1.2.1, 64, .inr (.inl (fun _ => 0))))]
set_option maxHeartbeats 4000000 in
set_option maxRecDepth 20000 in
theorem a_Tree {l : Launch} {g : GX} {h0 : Nat} : KA l y_ATree prog_9_method_1_code 1 3 8 536 g [(h0, .inr (6, [.null, .null, .long 0, .long 0, .long 0, .long 0, .int 0, .int 0, .int 0, .long 0, .null, .null, .null]))] [.ref h0] (fun w => ∃ q : Nat → Nat, q 0 = h0 ∧ w = wi_Tree g q) := by
  refine KA_of (plainFor_of_name (by decide)) (Nat.le_of_ble_eq_true rfl) (fun p e s m below meth c A ls C hin h hl => ?_)
  have hl : lv_has ls 1 [(0, .ref h0)] := hl
  obtain ⟨hx, hb, hml, hown, hts, hK, hA, hZ, hlocks, hr, hN⟩ := id C
  generalize ([] : List Loc) = locs at h ⊢
  refine lv_aload_n hx hb d_ATree_0 rfl (lv_at hl 0 rfl) ?_
  refine k_init C hl.1 k457 d_ATree_1 (Nat.le_of_ble_eq_true rfl) (Nat.le_of_ble_eq_true rfl) ?_
  refine lv_aload_n hx hb d_ATree_4 rfl (lv_at hl 0 rfl) ?_
  refine cn_Turn C h k458 (Nat.le_of_ble_eq_true rfl) (Nat.le_of_ble_eq_true rfl) d_ATree_5 (fun b0 H h => ?_)
  refine lv_dup hx hb d_ATree_8 rfl ?_
  refine k_callAN C h (a_Turn (l := l)) cv_ATurn (List.mem_of_getElem? (l := nestM) (i := 5) rfl) (Nat.le_of_ble_eq_true rfl) (Nat.le_of_ble_eq_true rfl) ⟨(Nat.le_of_ble_eq_true rfl), (Nat.le_of_ble_eq_true rfl)⟩ hl.1 (Nat.le_of_ble_eq_true rfl) d_ATree_9 (fun w1 H locs hw h => ?_)
  obtain ⟨z1, rfl, rfl⟩ := hw
  have h : Wl g [(h0, .inr (6, [.null, .null, .long 0, .long 0, .long 0, .long 0, .int 0, .int 0, .int 0, .long 0, .null, .null, .null])), ((z1 0), .inr (7, [.int 0, .int 0, .int 0, .int 0, .int 0, .int 0, .int 0, .int 0, .int 0, .int 0, .int 0, .int 0, .ref (z1 1)])), ((z1 1), .inl (g.2.1.1, 3, .inl (fun _ => 0)))] A s H locs := h
  refine cp_Tree_turn C hin h (Nat.le_of_ble_eq_true rfl) k462 d_ATree_12 (fun H locs h => ?_)
  have h : Wl g [(h0, .inr (6, [.ref (z1 0), .null, .long 0, .long 0, .long 0, .long 0, .int 0, .int 0, .int 0, .long 0, .null, .null, .null])), ((z1 0), .inr (7, [.int 0, .int 0, .int 0, .int 0, .int 0, .int 0, .int 0, .int 0, .int 0, .int 0, .int 0, .int 0, .ref (z1 1)])), ((z1 1), .inl (g.2.1.1, 3, .inl (fun _ => 0)))] A s H locs := h
  refine lv_aload_n hx hb d_ATree_15 rfl (lv_at hl 0 rfl) ?_
  refine cn_Showman C h k460 (Nat.le_of_ble_eq_true rfl) (Nat.le_of_ble_eq_true rfl) d_ATree_16 (fun b2 H h => ?_)
  refine lv_dup hx hb d_ATree_19 rfl ?_
  refine k_callAN C h (a_Showman (l := l)) cv_AShowman (List.mem_of_getElem? (l := nestM) (i := 6) rfl) (Nat.le_of_ble_eq_true rfl) (Nat.le_of_ble_eq_true rfl) ⟨(Nat.le_of_ble_eq_true rfl), (Nat.le_of_ble_eq_true rfl)⟩ hl.1 (Nat.le_of_ble_eq_true rfl) d_ATree_20 (fun w1 H locs hw h => ?_)
  obtain ⟨z3, rfl, rfl⟩ := hw
  have h : Wl g [(h0, .inr (6, [.ref (z1 0), .null, .long 0, .long 0, .long 0, .long 0, .int 0, .int 0, .int 0, .long 0, .null, .null, .null])), ((z1 0), .inr (7, [.int 0, .int 0, .int 0, .int 0, .int 0, .int 0, .int 0, .int 0, .int 0, .int 0, .int 0, .int 0, .ref (z1 1)])), ((z1 1), .inl (g.2.1.1, 3, .inl (fun _ => 0))), ((z3 0), .inr (4, [.ref (z3 1), .ref (z3 2)])), ((z3 1), .inl (g.2.1.1, 6, .inl (fun _ => 0))), ((z3 2), .inl (g.2.1.1, 64, .inl (fun _ => 0)))] A s H locs := h
  refine cp_Tree_showman C hin h (Nat.le_of_ble_eq_true rfl) k464 d_ATree_23 (fun H locs h => ?_)
  have h : Wl g [(h0, .inr (6, [.ref (z1 0), .ref (z3 0), .long 0, .long 0, .long 0, .long 0, .int 0, .int 0, .int 0, .long 0, .null, .null, .null])), ((z1 0), .inr (7, [.int 0, .int 0, .int 0, .int 0, .int 0, .int 0, .int 0, .int 0, .int 0, .int 0, .int 0, .int 0, .ref (z1 1)])), ((z1 1), .inl (g.2.1.1, 3, .inl (fun _ => 0))), ((z3 0), .inr (4, [.ref (z3 1), .ref (z3 2)])), ((z3 1), .inl (g.2.1.1, 6, .inl (fun _ => 0))), ((z3 2), .inl (g.2.1.1, 64, .inl (fun _ => 0)))] A s H locs := h
  refine lv_aload_n hx hb d_ATree_26 rfl (lv_at hl 0 rfl) ?_
  refine lv_sipush (v := 192) hx hb d_ATree_27 (by decide) ?_
  refine k_newj C h (by decide) rfl (Nat.le_of_ble_eq_true rfl) (Nat.le_of_ble_eq_true rfl) (Nat.le_of_ble_eq_true rfl) d_ATree_30 (fun b4 H h => ?_)
  have h : Wl g [(h0, .inr (6, [.ref (z1 0), .ref (z3 0), .long 0, .long 0, .long 0, .long 0, .int 0, .int 0, .int 0, .long 0, .null, .null, .null])), ((z1 0), .inr (7, [.int 0, .int 0, .int 0, .int 0, .int 0, .int 0, .int 0, .int 0, .int 0, .int 0, .int 0, .int 0, .ref (z1 1)])), ((z1 1), .inl (g.2.1.1, 3, .inl (fun _ => 0))), ((z3 0), .inr (4, [.ref (z3 1), .ref (z3 2)])), ((z3 1), .inl (g.2.1.1, 6, .inl (fun _ => 0))), ((z3 2), .inl (g.2.1.1, 64, .inl (fun _ => 0))), (b4, .inl (g.2.1.2.1, 192, .inr (.inl (fun _ => 0))))] A s H locs := h
  refine cp_Tree_knownBlows C hin h (Nat.le_of_ble_eq_true rfl) k474 d_ATree_32 (fun H locs h => ?_)
  have h : Wl g [(h0, .inr (6, [.ref (z1 0), .ref (z3 0), .long 0, .long 0, .long 0, .long 0, .int 0, .int 0, .int 0, .long 0, .ref b4, .null, .null])), ((z1 0), .inr (7, [.int 0, .int 0, .int 0, .int 0, .int 0, .int 0, .int 0, .int 0, .int 0, .int 0, .int 0, .int 0, .ref (z1 1)])), ((z1 1), .inl (g.2.1.1, 3, .inl (fun _ => 0))), ((z3 0), .inr (4, [.ref (z3 1), .ref (z3 2)])), ((z3 1), .inl (g.2.1.1, 6, .inl (fun _ => 0))), ((z3 2), .inl (g.2.1.1, 64, .inl (fun _ => 0))), (b4, .inl (g.2.1.2.1, 192, .inr (.inl (fun _ => 0))))] A s H locs := h
  refine lv_aload_n hx hb d_ATree_35 rfl (lv_at hl 0 rfl) ?_
  refine lv_sipush (v := 192) hx hb d_ATree_36 (by decide) ?_
  refine k_newi C h (by decide) rfl (Nat.le_of_ble_eq_true rfl) (Nat.le_of_ble_eq_true rfl) (Nat.le_of_ble_eq_true rfl) d_ATree_39 (fun b5 H h => ?_)
  have h : Wl g [(h0, .inr (6, [.ref (z1 0), .ref (z3 0), .long 0, .long 0, .long 0, .long 0, .int 0, .int 0, .int 0, .long 0, .ref b4, .null, .null])), ((z1 0), .inr (7, [.int 0, .int 0, .int 0, .int 0, .int 0, .int 0, .int 0, .int 0, .int 0, .int 0, .int 0, .int 0, .ref (z1 1)])), ((z1 1), .inl (g.2.1.1, 3, .inl (fun _ => 0))), ((z3 0), .inr (4, [.ref (z3 1), .ref (z3 2)])), ((z3 1), .inl (g.2.1.1, 6, .inl (fun _ => 0))), ((z3 2), .inl (g.2.1.1, 64, .inl (fun _ => 0))), (b4, .inl (g.2.1.2.1, 192, .inr (.inl (fun _ => 0)))), (b5, .inl (g.2.1.1, 192, .inl (fun _ => 0)))] A s H locs := h
  refine cp_Tree_knownRules C hin h (Nat.le_of_ble_eq_true rfl) k475 d_ATree_41 (fun H locs h => ?_)
  have h : Wl g [(h0, .inr (6, [.ref (z1 0), .ref (z3 0), .long 0, .long 0, .long 0, .long 0, .int 0, .int 0, .int 0, .long 0, .ref b4, .ref b5, .null])), ((z1 0), .inr (7, [.int 0, .int 0, .int 0, .int 0, .int 0, .int 0, .int 0, .int 0, .int 0, .int 0, .int 0, .int 0, .ref (z1 1)])), ((z1 1), .inl (g.2.1.1, 3, .inl (fun _ => 0))), ((z3 0), .inr (4, [.ref (z3 1), .ref (z3 2)])), ((z3 1), .inl (g.2.1.1, 6, .inl (fun _ => 0))), ((z3 2), .inl (g.2.1.1, 64, .inl (fun _ => 0))), (b4, .inl (g.2.1.2.1, 192, .inr (.inl (fun _ => 0)))), (b5, .inl (g.2.1.1, 192, .inl (fun _ => 0)))] A s H locs := h
  refine lv_aload_n hx hb d_ATree_44 rfl (lv_at hl 0 rfl) ?_
  refine lv_bipush (v := 64) hx hb d_ATree_45 (by decide) ?_
  refine k_newj C h (by decide) rfl (Nat.le_of_ble_eq_true rfl) (Nat.le_of_ble_eq_true rfl) (Nat.le_of_ble_eq_true rfl) d_ATree_47 (fun b6 H h => ?_)
  have h : Wl g [(h0, .inr (6, [.ref (z1 0), .ref (z3 0), .long 0, .long 0, .long 0, .long 0, .int 0, .int 0, .int 0, .long 0, .ref b4, .ref b5, .null])), ((z1 0), .inr (7, [.int 0, .int 0, .int 0, .int 0, .int 0, .int 0, .int 0, .int 0, .int 0, .int 0, .int 0, .int 0, .ref (z1 1)])), ((z1 1), .inl (g.2.1.1, 3, .inl (fun _ => 0))), ((z3 0), .inr (4, [.ref (z3 1), .ref (z3 2)])), ((z3 1), .inl (g.2.1.1, 6, .inl (fun _ => 0))), ((z3 2), .inl (g.2.1.1, 64, .inl (fun _ => 0))), (b4, .inl (g.2.1.2.1, 192, .inr (.inl (fun _ => 0)))), (b5, .inl (g.2.1.1, 192, .inl (fun _ => 0))), (b6, .inl (g.2.1.2.1, 64, .inr (.inl (fun _ => 0))))] A s H locs := h
  refine cp_Tree_blowsByRules C hin h (Nat.le_of_ble_eq_true rfl) k476 d_ATree_49 (fun H locs h => ?_)
  have h : Wl g [(h0, .inr (6, [.ref (z1 0), .ref (z3 0), .long 0, .long 0, .long 0, .long 0, .int 0, .int 0, .int 0, .long 0, .ref b4, .ref b5, .ref b6])), ((z1 0), .inr (7, [.int 0, .int 0, .int 0, .int 0, .int 0, .int 0, .int 0, .int 0, .int 0, .int 0, .int 0, .int 0, .ref (z1 1)])), ((z1 1), .inl (g.2.1.1, 3, .inl (fun _ => 0))), ((z3 0), .inr (4, [.ref (z3 1), .ref (z3 2)])), ((z3 1), .inl (g.2.1.1, 6, .inl (fun _ => 0))), ((z3 2), .inl (g.2.1.1, 64, .inl (fun _ => 0))), (b4, .inl (g.2.1.2.1, 192, .inr (.inl (fun _ => 0)))), (b5, .inl (g.2.1.1, 192, .inl (fun _ => 0))), (b6, .inl (g.2.1.2.1, 64, .inr (.inl (fun _ => 0))))] A s H locs := h
  refine W.widen (k := 8) (n := 536) (Nat.le_of_ble_eq_true rfl) (Nat.le_of_ble_eq_true rfl) ?_
  exact k_vretA C h ⟨fun k => [h0, (z1 0), (z1 1), (z3 0), (z3 1), (z3 2), b4, b5, b6].getD k 0, rfl, rfl⟩ d_ATree_52
