theorem subL1 {w : Cond} (h : w ∈ tables_1_1) : w ∈ lw_tbl := List.mem_append_right (k2_sels lw_privs) (List.mem_append_left _ (h) : w ∈ tables_1)
theorem subL2 {w : Cond} (h : w ∈ tables_1_2) : w ∈ lw_tbl := List.mem_append_right (k2_sels lw_privs) (List.mem_append_right _ (List.mem_append_left _ (h)) : w ∈ tables_1)
theorem subL3 {w : Cond} (h : w ∈ tables_1_3) : w ∈ lw_tbl := List.mem_append_right (k2_sels lw_privs) (List.mem_append_right _ (List.mem_append_right _ (List.mem_append_left _ (h))) : w ∈ tables_1)
theorem subL4 {w : Cond} (h : w ∈ tables_1_4) : w ∈ lw_tbl := List.mem_append_right (k2_sels lw_privs) (List.mem_append_right _ (List.mem_append_right _ (List.mem_append_right _ (List.mem_append_left _ (h)))) : w ∈ tables_1)
theorem subL5 {w : Cond} (h : w ∈ tables_1_5) : w ∈ lw_tbl := List.mem_append_right (k2_sels lw_privs) (List.mem_append_right _ (List.mem_append_right _ (List.mem_append_right _ (List.mem_append_right _ (List.mem_append_left _ (h))))) : w ∈ tables_1)
theorem subL6 {w : Cond} (h : w ∈ tables_1_6) : w ∈ lw_tbl := List.mem_append_right (k2_sels lw_privs) (List.mem_append_right _ (List.mem_append_right _ (List.mem_append_right _ (List.mem_append_right _ (List.mem_append_right _ (List.mem_append_left _ (h)))))) : w ∈ tables_1)
theorem subL7 {w : Cond} (h : w ∈ tables_1_7) : w ∈ lw_tbl := List.mem_append_right (k2_sels lw_privs) (List.mem_append_right _ (List.mem_append_right _ (List.mem_append_right _ (List.mem_append_right _ (List.mem_append_right _ (List.mem_append_right _ (h)))))) : w ∈ tables_1)
abbrev gvL : List Cond := flatC (Jvm.Cond.and given_1 narrow_1)
theorem gv_at {args : Array Value} {s : State} (h : (Jvm.Cond.and given_1 narrow_1).before args s = true) (i : Nat) {c : Cond} (hc : gvL[i]? = some c) : c.before args s = true := flat_of_before _ h c (List.mem_of_getElem? hc)
theorem stat_one {args : Array Value} {s : State} {tm : Term} {N : Nat} {f : Nat → Int32} {A : Nat → Prop} (hN : N < 2 ^ 31) (harr : (Cond.arrayOf tm .int).before args s = true) (hlen : (Cond.eq (.length tm) (.int (Int32.ofNat N))).before args s = true) (hel : ∀ j : Nat, j < N → (Cond.eq (.elem tm (.int (Int32.ofNat j))) (.int (f j))).before args s = true) (hA : ∀ a : Nat, a < s.heap.size → ¬ A a) : ∃ t : Nat, tm.eval args s none [] s = some (.ref t) ∧ va_T .int t N (fun j => .int (f j)) A s s.heap ∧ va_X t N f s s.heap := by
  obtain ⟨t, ht, hT⟩ := va_Tof (f := fun j => .int (f j)) (A := A) hN harr (va_eqt hlen) (fun j hj => va_eqt (hel j hj)) hA
  refine ⟨t, ht, hT, ?_⟩
  have hv := va_eqt hlen
  obtain ⟨a, cell, h1, h2, h3⟩ := Term.length_spec hv
  cases ht.symm.trans h1
  have hsz : cell.slots.size < 2 ^ 31 := by
    simp only [Term.eval, ht, h2, Option.bind_eq_bind, Option.bind_some] at hv
    by_cases hlt : cell.slots.size < 2147483648
    · exact hlt
    · simp [hlt] at hv
  obtain ⟨cell2, g1, g2, g3, g4, g5, g6, g7⟩ := hT
  have hc1 := (State.arrayAt?_spec h2).1
  cases g1.symm.trans hc1
  have hN2 : cell.slots.size = N := (nI_eq hsz hN).mp g5
  exact ⟨cell, g1, g2, g3, hN2, g6⟩
theorem arr_one {args : Array Value} {s : State} {ty : FieldType} (hp : ∀ C, ty ≠ .object C) (h : (Cond.arrayClass ty).before args s = true) : ∃ cA : ClassId, ArrOfT s cA ty ∧ va_RA s cA ty := by
  obtain ⟨cA, kA, comp, h1, h2, h3⟩ := Cond.arrayClass_spec (args := args) (first := s) (o := none) (s := s) (idx := []) h
  refine ⟨cA, fun n z => ⟨fun k h => (by cases h), kA, h2, comp, h3⟩, ?_⟩
  cases ty <;> first | exact h1 | exact absurd rfl (hp _)
set_option maxRecDepth 100000 in
theorem stE_0 : ∀ j, j < 5 → gvL[24 + j]? = some (Cond.eq (.elem (.static "BellHammer" "TRAIT_LEAST" "[I") (.int (Int32.ofNat j))) (.int (stF 0 j))) := by decide +kernel
set_option maxRecDepth 100000 in
theorem stL_0 : gvL[22]? = some (Cond.arrayOf (.static "BellHammer" "TRAIT_LEAST" "[I") .int) ∧ gvL[23]? = some (Cond.eq (.length (.static "BellHammer" "TRAIT_LEAST" "[I")) (.int (Int32.ofNat 5))) := by decide +kernel
set_option maxRecDepth 100000 in
theorem stE_1 : ∀ j, j < 5 → gvL[32 + j]? = some (Cond.eq (.elem (.static "BellHammer" "TRAIT_MOST" "[I") (.int (Int32.ofNat j))) (.int (stF 1 j))) := by decide +kernel
set_option maxRecDepth 100000 in
theorem stL_1 : gvL[30]? = some (Cond.arrayOf (.static "BellHammer" "TRAIT_MOST" "[I") .int) ∧ gvL[31]? = some (Cond.eq (.length (.static "BellHammer" "TRAIT_MOST" "[I")) (.int (Int32.ofNat 5))) := by decide +kernel
set_option maxRecDepth 100000 in
theorem stE_2 : ∀ j, j < 9 → gvL[12 + j]? = some (Cond.eq (.elem (.static "BellHammer" "SETTING_UNTOLD" "[I") (.int (Int32.ofNat j))) (.int (stF 2 j))) := by decide +kernel
set_option maxRecDepth 100000 in
theorem stL_2 : gvL[10]? = some (Cond.arrayOf (.static "BellHammer" "SETTING_UNTOLD" "[I") .int) ∧ gvL[11]? = some (Cond.eq (.length (.static "BellHammer" "SETTING_UNTOLD" "[I")) (.int (Int32.ofNat 9))) := by decide +kernel
set_option maxRecDepth 100000 in
theorem stE_3 : ∀ j, j < 9 → gvL[49 + j]? = some (Cond.eq (.elem (.static "BellHammer" "SETTING_LEAST" "[I") (.int (Int32.ofNat j))) (.int (stF 3 j))) := by decide +kernel
set_option maxRecDepth 100000 in
theorem stL_3 : gvL[47]? = some (Cond.arrayOf (.static "BellHammer" "SETTING_LEAST" "[I") .int) ∧ gvL[48]? = some (Cond.eq (.length (.static "BellHammer" "SETTING_LEAST" "[I")) (.int (Int32.ofNat 9))) := by decide +kernel
set_option maxRecDepth 100000 in
theorem stE_4 : ∀ j, j < 9 → gvL[61 + j]? = some (Cond.eq (.elem (.static "BellHammer" "SETTING_MOST" "[I") (.int (Int32.ofNat j))) (.int (stF 4 j))) := by decide +kernel
set_option maxRecDepth 100000 in
theorem stL_4 : gvL[59]? = some (Cond.arrayOf (.static "BellHammer" "SETTING_MOST" "[I") .int) ∧ gvL[60]? = some (Cond.eq (.length (.static "BellHammer" "SETTING_MOST" "[I")) (.int (Int32.ofNat 9))) := by decide +kernel
set_option maxRecDepth 100000 in
theorem stE_5 : ∀ j, j < 6 → gvL[73 + j]? = some (Cond.eq (.elem (.static "BellHammer$Words" "OF_SETTING" "[I") (.int (Int32.ofNat j))) (.int (stF 5 j))) := by decide +kernel
set_option maxRecDepth 100000 in
theorem stL_5 : gvL[71]? = some (Cond.arrayOf (.static "BellHammer$Words" "OF_SETTING" "[I") .int) ∧ gvL[72]? = some (Cond.eq (.length (.static "BellHammer$Words" "OF_SETTING" "[I")) (.int (Int32.ofNat 6))) := by decide +kernel
set_option maxRecDepth 100000 in
theorem stE_6 : ∀ j, j < 6 → gvL[40 + j]? = some (Cond.eq (.elem (.static "BellHammer$Words" "OF_FACT" "[I") (.int (Int32.ofNat j))) (.int (stF 6 j))) := by decide +kernel
set_option maxRecDepth 100000 in
theorem stL_6 : gvL[38]? = some (Cond.arrayOf (.static "BellHammer$Words" "OF_FACT" "[I") .int) ∧ gvL[39]? = some (Cond.eq (.length (.static "BellHammer$Words" "OF_FACT" "[I")) (.int (Int32.ofNat 6))) := by decide +kernel
set_option maxRecDepth 100000 in
theorem ssE : ∀ j, j < 162 → gvL[83 + j]? = some (Cond.eq (.elem (.field (Term.string "BellHammer$Reader" 20) "java/lang/String" "value" "[B") (.int (Int32.ofNat j))) (.int (sBytes.getD j 0))) := by decide +kernel
set_option maxRecDepth 100000 in
theorem ssL : gvL[79]? = some (Cond.exactly (Term.string "BellHammer$Reader" 20) "java/lang/String") ∧ gvL[80]? = some (Cond.eq (.field (Term.string "BellHammer$Reader" 20) "java/lang/String" "coder" "B") (.int 0)) ∧ gvL[81]? = some (Cond.arrayOf (.field (Term.string "BellHammer$Reader" 20) "java/lang/String" "value" "[B") .byte) ∧ gvL[82]? = some (Cond.eq (.length (.field (Term.string "BellHammer$Reader" 20) "java/lang/String" "value" "[B")) (.int (Int32.ofNat 162))) := by decide +kernel
set_option maxRecDepth 100000 in
theorem ssZ : gvL[4]? = some (Cond.eq (.static "java/lang/String" "COMPACT_STRINGS" "Z") (.int 1)) ∧ gvL[5]? = some (Cond.isRef (.static "jdk/internal/util/Preconditions" "SIOOBE_FORMATTER" "Ljava/util/function/BiFunction;")) := by decide +kernel
set_option maxHeartbeats 4000000 in
set_option maxRecDepth 20000 in
theorem start_g {b : Nat} {s : State} (hts : ∀ w ∈ lw_tbl, w.before #[Value.ref b] s = true) (hgv : (Jvm.Cond.and given_1 narrow_1).before #[Value.ref b] s = true) : ∃ g : GX, va_K g.1 vwCl (tyG g) s ∧ stZ g (fun q => s.heap.size ≤ q) s s.heap ∧ nsK g s := by
  have hA : ∀ a : Nat, a < s.heap.size → ¬ (fun q : Nat => s.heap.size ≤ q) a := fun a h z => absurd h (Nat.not_lt.mpr z)
  obtain ⟨c0, iS0, hKn0⟩ := u_known (C := RX0) (T := TX0) (N := 13) (n := 13) hts (fun w h => (List.mem_filter.mp (inX0 w h)).1) (hts (.instantiable "BellHammer$Book" 13) (subL1 (List.mem_of_getElem? (l := tables_1_1) (i := 230) rfl)))
  obtain ⟨c1, iS1, hKn1⟩ := u_known (C := RX1) (T := TX1) (N := 12) (n := 12) hts (fun w h => (List.mem_filter.mp (inX1 w h)).1) (hts (.instantiable "BellHammer$Fair" 12) (subL1 (List.mem_of_getElem? (l := tables_1_1) (i := 135) rfl)))
  obtain ⟨c2, iS2, hKn2⟩ := u_known (C := RX3) (T := TX3) (N := 4) (n := 4) hts (fun w h => (List.mem_filter.mp (inX3 w h)).1) (hts (.instantiable "BellHammer$Parser" 4) (subL1 (List.mem_of_getElem? (l := tables_1_1) (i := 44) rfl)))
  obtain ⟨c3, iS3, hKn3⟩ := u_known (C := RX4) (T := TX4) (N := 8) (n := 8) hts (fun w h => (List.mem_filter.mp (inX4 w h)).1) (hts (.instantiable "BellHammer$Reader" 8) (subL1 (List.mem_of_getElem? (l := tables_1_1) (i := 50) rfl)))
  obtain ⟨c4, iS4, hKn4⟩ := u_known (C := RX5) (T := TX5) (N := 2) (n := 2) hts (fun w h => (List.mem_filter.mp (inX5 w h)).1) (hts (.instantiable "BellHammer$Showman" 2) (subL2 (List.mem_of_getElem? (l := tables_1_2) (i := 46) rfl)))
  obtain ⟨c5, iS5, hKn5⟩ := u_known (C := RX6) (T := TX6) (N := 2) (n := 2) hts (fun w h => (List.mem_filter.mp (inX6 w h)).1) (hts (.instantiable "BellHammer$Tape" 2) (subL1 (List.mem_of_getElem? (l := tables_1_1) (i := 28) rfl)))
  obtain ⟨c6, iS6, hKn6⟩ := u_known (C := RX7) (T := TX7) (N := 13) (n := 13) hts (fun w h => (List.mem_filter.mp (inX7 w h)).1) (hts (.instantiable "BellHammer$Tree" 13) (subL2 (List.mem_of_getElem? (l := tables_1_2) (i := 113) rfl)))
  obtain ⟨c7, iS7, hKn7⟩ := u_known (C := RX8) (T := TX8) (N := 13) (n := 13) hts (fun w h => (List.mem_filter.mp (inX8 w h)).1) (hts (.instantiable "BellHammer$Turn" 13) (subL2 (List.mem_of_getElem? (l := tables_1_2) (i := 59) rfl)))
  obtain ⟨c8, iS8, hKn8⟩ := u_known (C := RX10) (T := TX10) (N := 13) (n := 13) hts (fun w h => (List.mem_filter.mp (inX10 w h)).1) (hts (.instantiable "BellHammer" 13) (subL1 (List.mem_of_getElem? (l := tables_1_1) (i := 20) rfl)))
  obtain ⟨c9, iS9, hKn9⟩ := u_known (C := RX11) (T := TX11) (N := 82) (n := 82) hts (fun w h => (List.mem_filter.mp (inX11 w h)).1) (hts (.instantiable "BellHammerModel" 82) (subL5 (List.mem_of_getElem? (l := tables_1_5) (i := 29) rfl)))
  obtain ⟨cI, hAI, hRI⟩ := arr_one (ty := .int) (fun C h => by cases h) (hts _ (subL1 (List.mem_of_getElem? (l := tables_1_1) (i := 42) rfl)))
  obtain ⟨cJ, hAJ, hRJ⟩ := arr_one (ty := .long) (fun C h => by cases h) (hts _ (subL2 (List.mem_of_getElem? (l := tables_1_2) (i := 164) rfl)))
  obtain ⟨cC, hAC, hRC⟩ := arr_one (ty := .char) (fun C h => by cases h) (hts _ (subL6 (List.mem_of_getElem? (l := tables_1_6) (i := 41) rfl)))
  obtain ⟨t0, ht0, hT0, hX0⟩ := stat_one (f := stF 0) (A := fun q : Nat => s.heap.size ≤ q) (N := 5) (by decide) (gv_at hgv _ stL_0.1) (gv_at hgv _ stL_0.2) (fun j hj => gv_at hgv _ (stE_0 j hj)) hA
  obtain ⟨t1, ht1, hT1, hX1⟩ := stat_one (f := stF 1) (A := fun q : Nat => s.heap.size ≤ q) (N := 5) (by decide) (gv_at hgv _ stL_1.1) (gv_at hgv _ stL_1.2) (fun j hj => gv_at hgv _ (stE_1 j hj)) hA
  obtain ⟨t2, ht2, hT2, hX2⟩ := stat_one (f := stF 2) (A := fun q : Nat => s.heap.size ≤ q) (N := 9) (by decide) (gv_at hgv _ stL_2.1) (gv_at hgv _ stL_2.2) (fun j hj => gv_at hgv _ (stE_2 j hj)) hA
  obtain ⟨t3, ht3, hT3, hX3⟩ := stat_one (f := stF 3) (A := fun q : Nat => s.heap.size ≤ q) (N := 9) (by decide) (gv_at hgv _ stL_3.1) (gv_at hgv _ stL_3.2) (fun j hj => gv_at hgv _ (stE_3 j hj)) hA
  obtain ⟨t4, ht4, hT4, hX4⟩ := stat_one (f := stF 4) (A := fun q : Nat => s.heap.size ≤ q) (N := 9) (by decide) (gv_at hgv _ stL_4.1) (gv_at hgv _ stL_4.2) (fun j hj => gv_at hgv _ (stE_4 j hj)) hA
  obtain ⟨t5, ht5, hT5, hX5⟩ := stat_one (f := stF 5) (A := fun q : Nat => s.heap.size ≤ q) (N := 6) (by decide) (gv_at hgv _ stL_5.1) (gv_at hgv _ stL_5.2) (fun j hj => gv_at hgv _ (stE_5 j hj)) hA
  obtain ⟨t6, ht6, hT6, hX6⟩ := stat_one (f := stF 6) (A := fun q : Nat => s.heap.size ≤ q) (N := 6) (by decide) (gv_at hgv _ stL_6.1) (gv_at hgv _ stL_6.2) (fun j hj => gv_at hgv _ (stE_6 j hj)) hA
  obtain ⟨adK, adV, hSS, hSE⟩ := vk_Sof (N := 1) (tm := fun _ => (Term.string "BellHammer$Reader" 20)) (len := [162]) (byt := [sBytes]) (A := fun q : Nat => s.heap.size ≤ q) (fun i hi => by rw [show i = 0 by omega]; decide) (fun i hi => gv_at hgv _ ssL.1) (fun i hi => gv_at hgv _ ssL.2.1) (fun i hi => gv_at hgv _ ssL.2.2.1) (fun i hi => by rw [show i = 0 by omega]; exact gv_at hgv _ ssL.2.2.2) (fun i hi j hj => by have h0 : i = 0 := (by omega); subst h0; exact gv_at hgv _ (ssE j hj)) (fun i j hi hj h => absurd (show i = j by omega) h) hA
  refine ⟨((fun k => if k = 0 then c0 else if k = 1 then c1 else if k = 2 then c2 else if k = 3 then c3 else if k = 4 then c4 else if k = 5 then c5 else if k = 6 then c6 else if k = 7 then c7 else if k = 8 then c8 else c9, fun k => if k = 0 then iS0 else if k = 1 then iS1 else if k = 2 then iS2 else if k = 3 then iS3 else if k = 4 then iS4 else if k = 5 then iS5 else if k = 6 then iS6 else if k = 7 then iS7 else if k = 8 then iS8 else iS9), (cI, cJ, cC), fun k => if k = 0 then t0 else if k = 1 then t1 else if k = 2 then t2 else if k = 3 then t3 else if k = 4 then t4 else if k = 5 then t5 else if k = 6 then t6 else if k = 100 then adK 0 else adV 0), ⟨?_, ?_⟩, ⟨?_, ?_, ?_, ?_⟩, ⟨⟨?_, ?_⟩, ?_⟩⟩
  · intro k q hq
    match k, hq with
    | 0, hq => cases hq; exact hKn0
    | 1, hq => cases hq; exact hKn1
    | 2, hq => cases hq; exact hKn2
    | 3, hq => cases hq; exact hKn3
    | 4, hq => cases hq; exact hKn4
    | 5, hq => cases hq; exact hKn5
    | 6, hq => cases hq; exact hKn6
    | 7, hq => cases hq; exact hKn7
    | 8, hq => cases hq; exact hKn8
    | 9, hq => cases hq; exact hKn9
    | k + 10, hq => simp [vwCl] at hq
  · intro k q hq
    match k, hq with
    | 0, hq => cases hq; exact ⟨hAI, hRI⟩
    | 1, hq => cases hq; exact ⟨hAJ, hRJ⟩
    | 2, hq => cases hq; exact ⟨hAC, hRC⟩
    | k + 3, hq => simp [tyG] at hq
  · intro k x hx
    match k, hx with
    | 0, hx => cases hx; exact ⟨va_Zref (hts _ (subL3 (List.mem_of_getElem? (l := tables_1_3) (i := 57) rfl))) (hts _ (subL1 (List.mem_of_getElem? (l := tables_1_1) (i := 1) rfl))) ht0 hA, hT0, hX0⟩
    | 1, hx => cases hx; exact ⟨va_Zref (hts _ (subL3 (List.mem_of_getElem? (l := tables_1_3) (i := 59) rfl))) (hts _ (subL1 (List.mem_of_getElem? (l := tables_1_1) (i := 1) rfl))) ht1 hA, hT1, hX1⟩
    | 2, hx => cases hx; exact ⟨va_Zref (hts _ (subL1 (List.mem_of_getElem? (l := tables_1_1) (i := 145) rfl))) (hts _ (subL1 (List.mem_of_getElem? (l := tables_1_1) (i := 1) rfl))) ht2 hA, hT2, hX2⟩
    | 3, hx => cases hx; exact ⟨va_Zref (hts _ (subL3 (List.mem_of_getElem? (l := tables_1_3) (i := 123) rfl))) (hts _ (subL1 (List.mem_of_getElem? (l := tables_1_1) (i := 1) rfl))) ht3 hA, hT3, hX3⟩
    | 4, hx => cases hx; exact ⟨va_Zref (hts _ (subL3 (List.mem_of_getElem? (l := tables_1_3) (i := 125) rfl))) (hts _ (subL1 (List.mem_of_getElem? (l := tables_1_1) (i := 1) rfl))) ht4 hA, hT4, hX4⟩
    | 5, hx => cases hx; exact ⟨va_Zref (hts _ (subL3 (List.mem_of_getElem? (l := tables_1_3) (i := 127) rfl))) (hts _ (subL1 (List.mem_of_getElem? (l := tables_1_1) (i := 17) rfl))) ht5 hA, hT5, hX5⟩
    | 6, hx => cases hx; exact ⟨va_Zref (hts _ (subL3 (List.mem_of_getElem? (l := tables_1_3) (i := 109) rfl))) (hts _ (subL1 (List.mem_of_getElem? (l := tables_1_1) (i := 17) rfl))) ht6 hA, hT6, hX6⟩
    | k + 7, hx => simp [stTab] at hx
  · exact ⟨fun i hi => by have h0 : i = 0 := (by omega); subst h0; exact hSS.1 0 (by decide), fun i j hi hj _ => by omega⟩
  · exact va_Zof (hts _ (subL1 (List.mem_of_getElem? (l := tables_1_1) (i := 65) rfl))) (hts _ (subL1 (List.mem_of_getElem? (l := tables_1_1) (i := 5) rfl))) (va_eqi (gv_at hgv _ ssZ.1)) hA
  · exact va_Zqof (hts _ (subL1 (List.mem_of_getElem? (l := tables_1_1) (i := 81) rfl))) (hts _ (subL1 (List.mem_of_getElem? (l := tables_1_1) (i := 7) rfl))) (gv_at hgv _ ssZ.2) hA
  · intro x hx
    simp only [nestF, List.mem_cons, List.not_mem_nil, or_false] at hx
    rcases hx with rfl | rfl | rfl | rfl | rfl | rfl | rfl | rfl
    · exact va_Nw.of rfl (hts _ (subL1 (List.mem_of_getElem? (l := tables_1_1) (i := 144) rfl)))
    · exact va_Nw.of rfl (hts _ (subL1 (List.mem_of_getElem? (l := tables_1_1) (i := 235) rfl)))
    · exact va_Nw.of rfl (hts _ (subL3 (List.mem_of_getElem? (l := tables_1_3) (i := 56) rfl)))
    · exact va_Nw.of rfl (hts _ (subL3 (List.mem_of_getElem? (l := tables_1_3) (i := 58) rfl)))
    · exact va_Nw.of rfl (hts _ (subL3 (List.mem_of_getElem? (l := tables_1_3) (i := 122) rfl)))
    · exact va_Nw.of rfl (hts _ (subL3 (List.mem_of_getElem? (l := tables_1_3) (i := 124) rfl)))
    · exact va_Nw.of rfl (hts _ (subL5 (List.mem_of_getElem? (l := tables_1_5) (i := 22) rfl)))
    · exact va_Nw.of rfl (hts _ (subL5 (List.mem_of_getElem? (l := tables_1_5) (i := 23) rfl)))
  · intro x hx
    simp only [nestM, List.mem_cons, List.not_mem_nil, or_false] at hx
    rcases hx with rfl | rfl | rfl | rfl | rfl | rfl | rfl | rfl
    · exact va_Nw.of rfl (hts _ (subL1 (List.mem_of_getElem? (l := tables_1_1) (i := 29) rfl)))
    · exact va_Nw.of rfl (hts _ (subL1 (List.mem_of_getElem? (l := tables_1_1) (i := 45) rfl)))
    · exact va_Nw.of rfl (hts _ (subL2 (List.mem_of_getElem? (l := tables_1_2) (i := 47) rfl)))
    · exact va_Nw.of rfl (hts _ (subL2 (List.mem_of_getElem? (l := tables_1_2) (i := 60) rfl)))
    · exact va_Nw.of rfl (hts _ (subL2 (List.mem_of_getElem? (l := tables_1_2) (i := 114) rfl)))
    · exact va_Nw.of rfl (hts _ (subL2 (List.mem_of_getElem? (l := tables_1_2) (i := 119) rfl)))
    · exact va_Nw.of rfl (hts _ (subL2 (List.mem_of_getElem? (l := tables_1_2) (i := 121) rfl)))
    · exact va_Nw.of rfl (hts _ (subL3 (List.mem_of_getElem? (l := tables_1_3) (i := 203) rfl)))
  · exact vk_R.of (hts _ (subL1 (List.mem_of_getElem? (l := tables_1_1) (i := 55) rfl))) (hSE 0 (by decide))
