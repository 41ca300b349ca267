
section ROWSW
variable {p : Program} {l : Launch} {e : Env} {R : Room} {s : State} {m : MethodId} {av : Array Value} {below : List Frame} {meth : Method} {c : Code} {H : Heap} {locs : List Loc} {cells slots : Nat} {Q : State → Prop}
variable {g : GX} {q : Nat → Nat} {A : Nat → Prop} {σ : St} {cc : ByteArray} {nL : Nat} {own : String} {ret0 : Option FieldType} {pc index : Nat} {ls : Array Slot} {rest : List Value}

def swN (a b n k : Nat) : Nat := if a ≤ k ∧ k < a + n then b + (k - a) else if b ≤ k ∧ k < b + n then a + (k - b) else k
def sw (σ : St) : St := (fun k => σ.1 (swN 12 52 5 k), σ.2.1, fun k => σ.2.2.1 (swN 2 21 7 k), σ.2.2.2)
def qs (q : Nat → Nat) : Nat → Nat := fun k => q (swN 6 34 8 k)
def wS1 (g : GX) (q : Nat → Nat) (σ : St) : va_W := (q 0, .inr (8, [.ref (q 1), .ref (q 3), .ref (q 14), .ref (q 20), .ref (q 23), .ref (q 25), .ref (q 6), .ref (q 42), .int (sI σ 0), .int (sI σ 1), .ref (q 43), .int (sI σ 2), .ref (q 44)])) :: (wX g q σ).tail
theorem xp_swap1 (C : Cx g A p s m av meth c cc nL own ret0) (h : Wd g (wX g q) A s σ H locs) (hlink : Cond.fieldLink own index "BellHammer" "fair" "LBellHammer$Fair;" ∈ tb) (hdg : decode cc pc = .ok (.putfield index, 3)) (kk : ∀ (H1 : Heap) (locs1 : List Loc), Wd g (wS1 g q) A s σ H1 locs1 → W p l e R s m av below meth c H1 locs1 cells slots Q (F0 m (pc + 3) ls rest)) : W p l e R s m av below meth c H locs cells slots Q (F0 m pc ls (.ref (q 6) :: .ref (q 0) :: rest)) := va_put (C := RX10) (T := TX10) (N := 13) (ci := 8) (ty := .object "BellHammer$Fair") C.1 C.2.1 C.2.2.2.2.1 inX10 tyX10 tyX10_ok nmX10 C.2.2.2.1 C.2.2.2.2.2.1 h.1 h.2.1 h.2.2 0 rfl rfl 6 (by decide) (C.2.2.2.2.1 _ hlink) (fun _ z => z) rfl (by decide +kernel) rfl rfl (Nat.le_of_ble_eq_true rfl) hdg (fun H1 locs1 hP hD hS => kk H1 locs1 ⟨hP, hD, hS⟩)
theorem xg_swap (C : Cx g A p s m av meth c cc nL own ret0) (h : Wd g (wS1 g q) A s σ H locs) (hlink : Cond.fieldLink own index "BellHammer" "parser" "LBellHammer$Parser;" ∈ tb) (hdg : decode cc pc = .ok (.getfield index, 3)) (kk : W p l e R s m av below meth c H locs cells slots Q (F0 m (pc + 3) ls (.ref (q 3) :: rest))) : W p l e R s m av below meth c H locs cells slots Q (F0 m pc ls (.ref (q 0) :: rest)) := va_get (C := RX10) (T := TX10) (N := 13) (ci := 8) C.1 C.2.1 C.2.2.2.2.1 inX10 C.2.2.2.1 C.2.2.2.2.2.1 h.1 0 rfl rfl 1 (by decide) (C.2.2.2.2.1 _ hlink) (fun _ z => z) rfl hdg kk
theorem xp_swap2 (C : Cx g A p s m av meth c cc nL own ret0) (h : Wd g (wS1 g q) A s σ H locs) (hlink : Cond.fieldLink own index "BellHammer$Parser" "draft" "LBellHammer$Fair;" ∈ tb) (hdg : decode cc pc = .ok (.putfield index, 3)) (kk : ∀ (σ1 : St) (H1 : Heap) (locs1 : List Loc), σ1 = sw σ → Wd g (wX g (qs q)) A s σ1 H1 locs1 → W p l e R s m av below meth c H1 locs1 cells slots Q (F0 m (pc + 3) ls rest)) : W p l e R s m av below meth c H locs cells slots Q (F0 m pc ls (.ref (q 34) :: .ref (q 3) :: rest)) := va_put (C := RX3) (T := TX3) (N := 4) (ci := 2) (ty := .object "BellHammer$Fair") C.1 C.2.1 C.2.2.2.2.1 inX3 tyX3 tyX3_ok nmX3 C.2.2.2.1 C.2.2.2.2.2.1 h.1 h.2.1 h.2.2 3 rfl rfl 1 (by decide) (C.2.2.2.2.1 _ hlink) (fun _ z => z) rfl (by decide +kernel) rfl rfl (Nat.le_of_ble_eq_true rfl) hdg (fun H1 locs1 hP hD hS => kk (sw σ) H1 locs1 rfl ⟨hP.sub (ws' := wX g (qs q) (sw σ)) [0, 1, 2, 3, 4, 5, 34, 35, 36, 37, 38, 39, 40, 41, 14, 15, 16, 17, 18, 19, 20, 21, 22, 23, 24, 25, 26, 27, 28, 29, 30, 31, 32, 33, 6, 7, 8, 9, 10, 11, 12, 13, 42, 43, 44] rfl, hD.sub (ws' := wX g (qs q) (sw σ)) [0, 1, 2, 3, 4, 5, 34, 35, 36, 37, 38, 39, 40, 41, 14, 15, 16, 17, 18, 19, 20, 21, 22, 23, 24, 25, 26, 27, 28, 29, 30, 31, 32, 33, 6, 7, 8, 9, 10, 11, 12, 13, 42, 43, 44] (by decide) rfl, hS⟩)
end ROWSW
variable {p : Program} {l : Launch} {e : Env} {s : State} {m : MethodId} {av : Array Value} {below : List Frame} {meth : Method} {c : Code} {g : GX} {q : Nat → Nat} {A : Nat → Prop}
theorem d_BH_fair_0 : decode prog_1_method_4_code 0 = .ok (.aload_n 0, 1) := by decide +kernel
theorem d_BH_fair_1 : decode prog_1_method_4_code 1 = .ok (.getfield 19, 3) := by decide +kernel
theorem d_BH_fair_4 : decode prog_1_method_4_code 4 = .ok (.aload_n 0, 1) := by decide +kernel
theorem d_BH_fair_5 : decode prog_1_method_4_code 5 = .ok (.getfield 10, 3) := by decide +kernel
theorem d_BH_fair_8 : decode prog_1_method_4_code 8 = .ok (.getfield 76, 3) := by decide +kernel
theorem d_BH_fair_11 : decode prog_1_method_4_code 11 = .ok (.aload_n 0, 1) := by decide +kernel
theorem d_BH_fair_12 : decode prog_1_method_4_code 12 = .ok (.getfield 10, 3) := by decide +kernel
theorem d_BH_fair_15 : decode prog_1_method_4_code 15 = .ok (.getfield 68, 3) := by decide +kernel
theorem d_BH_fair_18 : decode prog_1_method_4_code 18 = .ok (.invokevirtual 79, 3) := by decide +kernel
theorem d_BH_fair_21 : decode prog_1_method_4_code 21 = .ok (.istore_n 1, 1) := by decide +kernel
theorem d_BH_fair_22 : decode prog_1_method_4_code 22 = .ok (.aload_n 0, 1) := by decide +kernel
theorem d_BH_fair_23 : decode prog_1_method_4_code 23 = .ok (.getfield 10, 3) := by decide +kernel
theorem d_BH_fair_26 : decode prog_1_method_4_code 26 = .ok (.iconst 0, 1) := by decide +kernel
theorem d_BH_fair_27 : decode prog_1_method_4_code 27 = .ok (.putfield 68, 3) := by decide +kernel
theorem d_BH_fair_30 : decode prog_1_method_4_code 30 = .ok (.iload_n 1, 1) := by decide +kernel
theorem d_BH_fair_31 : decode prog_1_method_4_code 31 = .ok (.ifCond .ne 15, 3) := by decide +kernel
theorem d_BH_fair_34 : decode prog_1_method_4_code 34 = .ok (.aload_n 0, 1) := by decide +kernel
theorem d_BH_fair_35 : decode prog_1_method_4_code 35 = .ok (.getfield 65, 3) := by decide +kernel
theorem d_BH_fair_38 : decode prog_1_method_4_code 38 = .ok (.iconst 1, 1) := by decide +kernel
theorem d_BH_fair_39 : decode prog_1_method_4_code 39 = .ok (.dup2, 1) := by decide +kernel
theorem d_BH_fair_40 : decode prog_1_method_4_code 40 = .ok (.iaload, 1) := by decide +kernel
theorem d_BH_fair_41 : decode prog_1_method_4_code 41 = .ok (.iconst 1, 1) := by decide +kernel
theorem d_BH_fair_42 : decode prog_1_method_4_code 42 = .ok (.iadd, 1) := by decide +kernel
theorem d_BH_fair_43 : decode prog_1_method_4_code 43 = .ok (.iastore, 1) := by decide +kernel
theorem d_BH_fair_44 : decode prog_1_method_4_code 44 = .ok (.iconst (-1), 1) := by decide +kernel
theorem d_BH_fair_45 : decode prog_1_method_4_code 45 = .ok (.ireturn, 1) := by decide +kernel
theorem d_BH_fair_46 : decode prog_1_method_4_code 46 = .ok (.aload_n 0, 1) := by decide +kernel
theorem d_BH_fair_47 : decode prog_1_method_4_code 47 = .ok (.getfield 54, 3) := by decide +kernel
theorem d_BH_fair_50 : decode prog_1_method_4_code 50 = .ok (.astore_n 2, 1) := by decide +kernel
theorem d_BH_fair_51 : decode prog_1_method_4_code 51 = .ok (.aload_n 0, 1) := by decide +kernel
theorem d_BH_fair_52 : decode prog_1_method_4_code 52 = .ok (.aload_n 0, 1) := by decide +kernel
theorem d_BH_fair_53 : decode prog_1_method_4_code 53 = .ok (.getfield 19, 3) := by decide +kernel
theorem d_BH_fair_56 : decode prog_1_method_4_code 56 = .ok (.getfield 83, 3) := by decide +kernel
theorem d_BH_fair_59 : decode prog_1_method_4_code 59 = .ok (.putfield 54, 3) := by decide +kernel
theorem d_BH_fair_62 : decode prog_1_method_4_code 62 = .ok (.aload_n 0, 1) := by decide +kernel
theorem d_BH_fair_63 : decode prog_1_method_4_code 63 = .ok (.getfield 19, 3) := by decide +kernel
theorem d_BH_fair_66 : decode prog_1_method_4_code 66 = .ok (.aload_n 2, 1) := by decide +kernel
theorem d_BH_fair_67 : decode prog_1_method_4_code 67 = .ok (.putfield 83, 3) := by decide +kernel
theorem d_BH_fair_70 : decode prog_1_method_4_code 70 = .ok (.aload_n 0, 1) := by decide +kernel
theorem d_BH_fair_71 : decode prog_1_method_4_code 71 = .ok (.getfield 26, 3) := by decide +kernel
theorem d_BH_fair_74 : decode prog_1_method_4_code 74 = .ok (.aload_n 0, 1) := by decide +kernel
theorem d_BH_fair_75 : decode prog_1_method_4_code 75 = .ok (.getfield 54, 3) := by decide +kernel
theorem d_BH_fair_78 : decode prog_1_method_4_code 78 = .ok (.invokevirtual 86, 3) := by decide +kernel
theorem d_BH_fair_81 : decode prog_1_method_4_code 81 = .ok (.aload_n 0, 1) := by decide +kernel
theorem d_BH_fair_82 : decode prog_1_method_4_code 82 = .ok (.iconst 0, 1) := by decide +kernel
theorem d_BH_fair_83 : decode prog_1_method_4_code 83 = .ok (.putfield 90, 3) := by decide +kernel
theorem d_BH_fair_86 : decode prog_1_method_4_code 86 = .ok (.aload_n 0, 1) := by decide +kernel
theorem d_BH_fair_87 : decode prog_1_method_4_code 87 = .ok (.getfield 54, 3) := by decide +kernel
theorem d_BH_fair_90 : decode prog_1_method_4_code 90 = .ok (.getfield 93, 3) := by decide +kernel
theorem d_BH_fair_93 : decode prog_1_method_4_code 93 = .ok (.ireturn, 1) := by decide +kernel
def f_BH_fair (σ : St) : Option (Int32 × St) :=
  bd (f_Parser_parse (sI σ 3) σ) fun r_2 σ_3 =>
  lt (uI σ_3 3 0) fun σ_4 =>
  if r_2 = 0 then
    lt (uA σ_4 30 (upd (sA σ_4 30) (1 : Int32).toNatClampNeg ((sA σ_4 30 (1 : Int32).toNatClampNeg) + 1))) fun σ_9 =>
    some ((-1), σ_9)
  else
    lt (sw σ_4) fun σ_5 =>
    bp (f_Book_open σ_5) fun σ_7 =>
    lt (uI σ_7 0 0) fun σ_8 =>
    some ((sI σ_8 56), σ_8)
set_option maxHeartbeats 4000000 in
set_option maxRecDepth 20000 in
theorem c_BH_fairA {l : Launch} {g : GX} {q : Nat → Nat}  {σ : St} {r : Int32} {σ2 : St} (hpar : ∀ (r1 : Int32) (σ1 : St), f_Parser_parse (sI σ 3) σ = some (r1, σ1) → r1 = 0) (hf : f_BH_fair   σ = some (r, σ2)) : KK l y_BH_fair prog_1_method_4_code 3 (some .int) 81 g (wX g q) σ [.ref (q 0)] (some (.int r)) (wX g (qt q)) σ2 := by
  refine KK_of (plainFor_of_name (by decide)) (Nat.le_of_ble_eq_true rfl) (fun p e s m below meth c A ls C w hl => ?_)
  have hl : lv_has ls 3 [(0, .ref (q 0))] := hl
  obtain ⟨hx, hb, hml, hown, hts, hK, hA, hZ, hlocks, hr, hN⟩ := id C
  unfold f_BH_fair at hf
  refine lv_aload_n hx hb d_BH_fair_0 rfl (lv_at hl 0 rfl) ?_
  refine xg_0_parser C w k508 d_BH_fair_1 ?_
  refine lv_aload_n hx hb d_BH_fair_4 rfl (lv_at hl 0 rfl) ?_
  refine xg_0_tape C w k507 d_BH_fair_5 ?_
  refine xg_1_bytes C w k134 d_BH_fair_8 ?_
  refine lv_aload_n hx hb d_BH_fair_11 rfl (lv_at hl 0 rfl) ?_
  refine xg_0_tape C w k507 d_BH_fair_12 ?_
  refine xg_1_size C w k135 d_BH_fair_15 ?_
  obtain ⟨r_2, σ_3, h_1, hf⟩ := bd_e hf
  refine k_callV (As := [.ref (q 2), .int (sI σ 3)]) (rest := []) C w (c_Parser_parse (q := q) h_1) cv_Parser_parse k563 (xr_3 C w) (by decide) hl.1 rfl (Nat.le_of_ble_eq_true rfl) d_BH_fair_18 (fun H locs w => ?_)
  have hl : lv_has ls 3 [(0, .ref (qt q 0))] := hl
  show WK p l e s m _ below meth c 81 g (wX g (qt q)) A (some (.int r)) σ2 H locs (F0 m 21 ls [.int r_2])
  refine lv_istore_n (lv' := [(1, .int r_2), (0, .ref (qt q 0))]) hx hb d_BH_fair_21 rfl hl (by decide) rfl (fun ls hl => ?_)
  refine lv_aload_n hx hb d_BH_fair_22 rfl (lv_at hl 1 rfl) ?_
  refine xg_0_tape C w k507 d_BH_fair_23 ?_
  refine lv_iconst (v := 0) hx hb d_BH_fair_26 (by decide) ?_
  refine xp_1_size C w k135 d_BH_fair_27 (fun σ_4 H locs eσ_4 w => ?_)
  have hf := lt_e eσ_4 hf
  refine lv_iload_n hx hb d_BH_fair_30 rfl (lv_at hl 0 rfl) ?_
  refine lv_if_ne (tgt := 46) hx hb d_BH_fair_31 (by decide) (fun cd => ?_) (fun cd => ?_)
  · have hf := if_e cd hf
    exact absurd (hpar _ _ h_1) cd
  · have hf := it_e cd hf
    refine lv_aload_n hx hb d_BH_fair_34 rfl (lv_at hl 1 rfl) ?_
    refine xg_0_refused C w k519 d_BH_fair_35 ?_
    refine lv_iconst (v := 1) hx hb d_BH_fair_38 (by decide) ?_
    refine lv_dup2_11 hx hb d_BH_fair_39 rfl rfl ?_
    refine xl_44 C w (by decide) d_BH_fair_40 ?_
    refine lv_iconst (v := 1) hx hb d_BH_fair_41 (by decide) ?_
    refine lv_iadd hx hb d_BH_fair_42 ?_
    refine xs_44 C w (by decide) d_BH_fair_43 (fun σ_5 H locs eσ_5 w => ?_)
    have hf := lt_e eσ_5 hf
    refine lv_iconst (v := (-1)) hx hb d_BH_fair_44 (by decide) ?_
    obtain ⟨rfl, rfl⟩ := some2_e hf
    exact k_iret C w d_BH_fair_45
set_option maxHeartbeats 4000000 in
set_option maxRecDepth 20000 in
theorem c_BH_fairB {l : Launch} {g : GX} {q : Nat → Nat}  {σ : St} {r : Int32} {σ2 : St} (hpar : ∀ (r1 : Int32) (σ1 : St), f_Parser_parse (sI σ 3) σ = some (r1, σ1) → ¬ r1 = 0) (hf : f_BH_fair   σ = some (r, σ2)) : KK l y_BH_fair prog_1_method_4_code 3 (some .int) 81 g (wX g q) σ [.ref (q 0)] (some (.int r)) (wX g (qs (qt q))) σ2 := by
  refine KK_of (plainFor_of_name (by decide)) (Nat.le_of_ble_eq_true rfl) (fun p e s m below meth c A ls C w hl => ?_)
  have hl : lv_has ls 3 [(0, .ref (q 0))] := hl
  obtain ⟨hx, hb, hml, hown, hts, hK, hA, hZ, hlocks, hr, hN⟩ := id C
  unfold f_BH_fair at hf
  refine lv_aload_n hx hb d_BH_fair_0 rfl (lv_at hl 0 rfl) ?_
  refine xg_0_parser C w k508 d_BH_fair_1 ?_
  refine lv_aload_n hx hb d_BH_fair_4 rfl (lv_at hl 0 rfl) ?_
  refine xg_0_tape C w k507 d_BH_fair_5 ?_
  refine xg_1_bytes C w k134 d_BH_fair_8 ?_
  refine lv_aload_n hx hb d_BH_fair_11 rfl (lv_at hl 0 rfl) ?_
  refine xg_0_tape C w k507 d_BH_fair_12 ?_
  refine xg_1_size C w k135 d_BH_fair_15 ?_
  obtain ⟨r_2, σ_3, h_1, hf⟩ := bd_e hf
  refine k_callV (As := [.ref (q 2), .int (sI σ 3)]) (rest := []) C w (c_Parser_parse (q := q) h_1) cv_Parser_parse k563 (xr_3 C w) (by decide) hl.1 rfl (Nat.le_of_ble_eq_true rfl) d_BH_fair_18 (fun H locs w => ?_)
  have hl : lv_has ls 3 [(0, .ref (qt q 0))] := hl
  show WK p l e s m _ below meth c 81 g (wX g (qs (qt q))) A (some (.int r)) σ2 H locs (F0 m 21 ls [.int r_2])
  refine lv_istore_n (lv' := [(1, .int r_2), (0, .ref (qt q 0))]) hx hb d_BH_fair_21 rfl hl (by decide) rfl (fun ls hl => ?_)
  refine lv_aload_n hx hb d_BH_fair_22 rfl (lv_at hl 1 rfl) ?_
  refine xg_0_tape C w k507 d_BH_fair_23 ?_
  refine lv_iconst (v := 0) hx hb d_BH_fair_26 (by decide) ?_
  refine xp_1_size C w k135 d_BH_fair_27 (fun σ_4 H locs eσ_4 w => ?_)
  have hf := lt_e eσ_4 hf
  refine lv_iload_n hx hb d_BH_fair_30 rfl (lv_at hl 0 rfl) ?_
  refine lv_if_ne (tgt := 46) hx hb d_BH_fair_31 (by decide) (fun cd => ?_) (fun cd => ?_)
  · have hf := if_e cd hf
    refine lv_aload_n hx hb d_BH_fair_46 rfl (lv_at hl 1 rfl) ?_
    refine xg_0_fair C w k513 d_BH_fair_47 ?_
    refine lv_astore_n (lv' := [(2, .ref (qt q 34)), (1, .int r_2), (0, .ref (qt q 0))]) hx hb d_BH_fair_50 rfl hl (by decide) rfl (fun ls hl => ?_)
    refine lv_aload_n hx hb d_BH_fair_51 rfl (lv_at hl 2 rfl) ?_
    refine lv_aload_n hx hb d_BH_fair_52 rfl (lv_at hl 2 rfl) ?_
    refine xg_0_parser C w k508 d_BH_fair_53 ?_
    refine xg_3_draft C w k315 d_BH_fair_56 ?_
    refine xp_swap1 C w k513 d_BH_fair_59 (fun H locs w => ?_)
    refine lv_aload_n hx hb d_BH_fair_62 rfl (lv_at hl 2 rfl) ?_
    refine xg_swap C w k508 d_BH_fair_63 ?_
    refine lv_aload_n hx hb d_BH_fair_66 rfl (lv_at hl 0 rfl) ?_
    refine xp_swap2 C w k315 d_BH_fair_67 (fun σ_5 H locs eσ_5 w => ?_)
    have hf := lt_e eσ_5 hf
    have hl : lv_has ls 3 [(2, .ref (qs (qt q) 6)), (1, .int r_2), (0, .ref (qs (qt q) 0))] := hl
    refine lv_aload_n hx hb d_BH_fair_70 rfl (lv_at hl 2 rfl) ?_
    refine xg_0_book C w k509 d_BH_fair_71 ?_
    refine lv_aload_n hx hb d_BH_fair_74 rfl (lv_at hl 2 rfl) ?_
    refine xg_0_fair C w k513 d_BH_fair_75 ?_
    obtain ⟨σ_7, h_6, hf⟩ := bp_e hf
    refine k_callV (As := [.ref (qs (qt q) 34)]) (rest := []) C w (c_Book_open (q := qs (qt q)) h_6) cv_Book_open k708 (xr_14 C w) (by decide) hl.1 rfl (Nat.le_of_ble_eq_true rfl) d_BH_fair_78 (fun H locs w => ?_)
    show WK p l e s m _ below meth c 81 g (wX g (qs (qt q))) A (some (.int r)) σ2 H locs (F0 m 81 ls [])
    refine lv_aload_n hx hb d_BH_fair_81 rfl (lv_at hl 2 rfl) ?_
    refine lv_iconst (v := 0) hx hb d_BH_fair_82 (by decide) ?_
    refine xp_0_seenBlows C w k515 d_BH_fair_83 (fun σ_8 H locs eσ_8 w => ?_)
    have hf := lt_e eσ_8 hf
    refine lv_aload_n hx hb d_BH_fair_86 rfl (lv_at hl 2 rfl) ?_
    refine xg_0_fair C w k513 d_BH_fair_87 ?_
    refine xg_34_statements C w k287 d_BH_fair_90 ?_
    obtain ⟨rfl, rfl⟩ := some2_e hf
    exact k_iret C w d_BH_fair_93
  · have hf := it_e cd hf
    exact absurd cd (hpar _ _ h_1)
