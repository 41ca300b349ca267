/-! THE CLAIM OUT OF ONE WALK OF THE LAW'S BODY. Your part is whole_start (and what it stands on); all else here is the same for every law, but numbers. -/
def R_law : String := "BellHammerLaw"
def lw_P (b : Addr) (xs : List Int32) (args : Array Value) (s : State) : Prop := args = #[.ref b] ∧ s.IntsAt b xs ∧ xs.length ≤ 3072 ∧ (Jvm.Cond.and given_1 narrow_1).before args s = true
def lw_Q (_ : Array Value) (s : State) (o : Outcome) (t : State) : Prop := o = .returned (some (.int 1)) ∧ Framed s o t [] 600000 7302249
def lw_Z (below : List Frame) (a : Array Value) (s : State) : State → Prop := fun t => ∃ o, t.status = .running ∧ Ended t below o ∧ lw_Q a s o t
/-- the law's own end, with 1 on the stack, nothing written that was there before, its room as the claim has it -/
theorem lw_ret {p : Program} {l : Launch} {e : Env} {s : State} {m : MethodId} {below : List Frame} {meth : Method} {c : Code} {b : Nat} (hx : p.tables.exec = Jvm.exec) (hb : c.code = code) (hr : meth.sig.returnType = ret) (hlocks : meth.locks = false) {pc : Nat} {H : Heap} {ls : Array Slot} (hdg : decode code pc = .ok (.ireturn, 1)) : W p l e room_1 s m #[Value.ref b] below meth c H [] 600000 7302249 (lw_Z below #[Value.ref b] s) (F0 m pc ls [.int 1]) := by
  intro T hT X
  obtain ⟨fs, hret, hrun, hended, hW, hframe⟩ := X.leave (v := some (.int 1)) (hlocks := hlocks) (fun h => by rw [hr] at h; cases h)
  have hmeth' : T.vm.method? m = some meth := X.method'
  refine ⟨T.setFrames fs, ?_, .returned (some (.int 1)), hrun, hended, rfl, ⟨_, rfl⟩, hW, hframe⟩
  jvm_step X.here [X.here.top, hx, hb, hdg, hmeth', hr, ret, narrow_b1]
  (try refine ⟨rfl, ?_⟩); (try refine ⟨rfl, ?_⟩)
  first | (intro acts; rw [hret _ acts rfl rfl rfl]) | rw [hret _ _ rfl rfl rfl]
  exact Steps.refl _
/-- what holds at the law's entry: the machine, the code, the tables' words (any of lw_tbl by 'hts w (by decide +kernel)'), the script of L ints xs at the cell b, what the Statement gives of the start (any of its parts by flat_of_before) -/
def lw_At (p : Program) (s : State) (m : MethodId) (meth : Method) (c : Code) (b L : Nat) (xs : Nat → Int32) : Prop :=
  p.tables.exec = Jvm.exec ∧ c.code = code ∧ meth.sig.returnType = ret ∧ c.maxLocals = 4 ∧ s.vm.findClass R_law = some m.cls ∧ (∀ w ∈ lw_tbl, w.before #[Value.ref b] s = true) ∧ va_X b L xs s s.heap ∧ b < s.heap.size ∧ meth.locks = false ∧ (Jvm.Cond.and given_1 narrow_1).before #[Value.ref b] s = true

variable {p : Program} {l : Launch} {e : Env} {s : State} {m : MethodId} {below : List Frame} {meth : Method} {c : Code} {g : GX} {A : Nat → Prop} {b L : Nat} {xs : Nat → Int32} {cells slots : Nat} {Q : State → Prop}

def Sims (Rel : St → St → Prop) : Prop := Sim_feed Rel ∧ Sim_end Rel ∧ Sim_fair Rel ∧ Sim_fault Rel ∧ Sim_has Rel ∧ Sim_letter Rel ∧ Sim_trier Rel ∧ Sim_mark Rel ∧ Sim_past Rel ∧ Sim_high Rel ∧ Sim_hard Rel ∧ Sim_wide Rel ∧ Sim_leans Rel ∧ Sim_tree Rel ∧ Sim_best Rel ∧ Sim_honest Rel ∧ Sim_bet Rel ∧ Sim_night Rel ∧ Sim_rule Rel ∧ Sim_set Rel ∧ Sim_undo Rel ∧ Sim_seed Rel ∧ Sim_kept Rel ∧ Sim_see Rel ∧ Sim_was Rel ∧ Sim_strong Rel ∧ Sim_next Rel ∧ Sim_clear Rel ∧ Sim_reach Rel ∧ Sim_image Rel ∧ Sim_octet Rel ∧ Sim_on Rel ∧ Sim_status Rel
theorem lw_room {i L : Nat} (hL : L ≤ 3072) (hi : i ≤ 3100) (h : ¬ Int32.ofNat L - 6 < nI i) : i + 6 ≤ L := by
  have e : (Int32.ofNat L - 6 : Int32) = nI L - nI 6 := rfl
  rw [e] at h
  have h1 := pk_sub_toInt (a := L) (b := 6) (by omega) (by omega)
  have h2 := nI_toInt (n := i) (by omega)
  rw [Int32.lt_iff_toInt_lt, h1, h2] at h
  omega
set_option maxHeartbeats 8000000 in
theorem law_loop {Rel : St → St → Prop} (hs : Sims Rel) (C : Cx g A p s m #[Value.ref b] meth c code 4 "BellHammerLaw" (some .boolean)) (hX : va_X b L xs s s.heap) (hbl : b < s.heap.size) (hbA : ¬ A b) (hcs : cells ≤ room_1.cells ∧ slots ≤ room_1.slots) (hL : L ≤ 3072) (fin : ∀ (H : Heap) (locs : List Loc) (ls : Array Slot), va_S A s.heap H locs → W p l e room_1 s m #[Value.ref b] below meth c H locs cells slots Q (F0 m 1205 ls [])) :
    ∀ (n i : Nat), L + 7 ≤ i + n → i ≤ L + 6 → ∀ (qx : Nat → Nat) (σx : St) (qm : Nat → Nat) (σm : St) (H : Heap) (locs : List Loc) (ls : Array Slot), Rel σx σm → Wd2 g A s (wX g qx σx) (wM g qm σm) H locs → lv_has ls 4 [(0, .ref b), (1, .ref (qx 0)), (2, .ref (qm 0)), (3, .int (nI i))] → W p l e room_1 s m #[Value.ref b] below meth c H locs cells slots Q (F0 m 18 ls []) := by
  obtain ⟨hx, hb, hml, hown, hts, hK, hA, hZ, hlocks, hr, hN⟩ := id C
  intro n
  induction n with
  | zero => intro i h1 h2; exact absurd h1 (by omega)
  | succ n ih =>
    intro i h1 h2 qx σx qm σm H locs ls hR hw hl
    have next : ∀ (qx : Nat → Nat) (σx : St) (qm : Nat → Nat) (σm : St) (H : Heap) (locs : List Loc) (ls : Array Slot), i + 6 ≤ L → Rel σx σm → Wd2 g A s (wX g qx σx) (wM g qm σm) H locs → lv_has ls 4 [(0, .ref b), (1, .ref (qx 0)), (2, .ref (qm 0)), (3, .int (nI i))] → W p l e room_1 s m #[Value.ref b] below meth c H locs cells slots Q (F0 m 1199 ls []) := by
      intro qx σx qm σm H locs ls hi hR hw hl
      refine lv_iinc (v := nI (i + 6)) (lv' := [(3, .int (nI (i + 6))), (0, .ref b), (1, .ref (qx 0)), (2, .ref (qm 0))]) hx hb d_law_1199 hl (k := 3) rfl (by rw [← nI_add]; rfl) (by decide) rfl (fun ls hl => ?_)
      refine lv_goto (tgt := 18) hx hb d_law_1202 (by decide) ?_
      exact ih (i + 6) (by omega) (by omega) qx σx qm σm H locs ls hR hw (lv_sub hl [1, 2, 3, 0] rfl)
    refine lv_iload_n hx hb d_law_18 rfl (lv_at hl 3 rfl) ?_
    refine lv_aload_n hx hb d_law_19 rfl (lv_at hl 0 rfl) ?_
    refine va_slen hx hb hX hbl hbA hw.2.2.2.2.2 d_law_20 ?_
    refine lv_bipush (v := 6) hx hb d_law_21 (by decide) ?_
    refine lv_isub hx hb d_law_23 ?_
    refine lv_icmp_gt (tgt := 1205) hx hb d_law_24 (by decide) (fun cd => ?_) (fun cd => ?_)
    · exact fin H locs ls hw.2.2.2.2.2
    have hi : i + 6 ≤ L := lw_room hL (by omega) cd
    refine lv_aload_n hx hb d_law_27 rfl (lv_at hl 0 rfl) ?_
    refine lv_iload_n hx hb d_law_28 rfl (lv_at hl 3 rfl) ?_
    refine va_sld hx hb hX hbl hbA hw.2.2.2.2.2 (vp_in_nI (by omega) (by omega)) d_law_29 ?_
    refine lv_bipush (v := 63) hx hb d_law_30 (by decide) ?_
    refine lv_iand hx hb d_law_32 ?_
    refine lv_topi (fun v ev => ?_)
    by_cases c0 : v = 0
    · refine lv_tableIn (tgt := 180) hx hb d_law_33 (by rw [c0]; decide) (by rw [c0]; decide) (by rw [c0]; rfl) (by decide) ?_
      exact law_feed hs.1 C hX hbl hbA hcs hi hL hR hw hl (fun qx σx qm σm H locs ls => next qx σx qm σm H locs ls hi)
    have n0 := lv_neT c0 (a := 0) rfl
    by_cases c1 : v = 1
    · refine lv_tableIn (tgt := 243) hx hb d_law_33 (by rw [c1]; decide) (by rw [c1]; decide) (by rw [c1]; rfl) (by decide) ?_
      exact law_end hs.2.1 C hX hbl hbA hcs hi hL hR hw hl (fun qx σx qm σm H locs ls => next qx σx qm σm H locs ls hi)
    have n1 := lv_neT c1 (a := 1) rfl
    by_cases c2 : v = 2
    · refine lv_tableIn (tgt := 266) hx hb d_law_33 (by rw [c2]; decide) (by rw [c2]; decide) (by rw [c2]; rfl) (by decide) ?_
      exact law_fair hs.2.2.1 C hX hbl hbA hcs hi hL hR hw hl (fun qx σx qm σm H locs ls => next qx σx qm σm H locs ls hi)
    have n2 := lv_neT c2 (a := 2) rfl
    by_cases c3 : v = 3
    · refine lv_tableIn (tgt := 279) hx hb d_law_33 (by rw [c3]; decide) (by rw [c3]; decide) (by rw [c3]; rfl) (by decide) ?_
      exact law_fault hs.2.2.2.1 C hX hbl hbA hcs hi hL hR hw hl (fun qx σx qm σm H locs ls => next qx σx qm σm H locs ls hi)
    have n3 := lv_neT c3 (a := 3) rfl
    by_cases c4 : v = 4
    · refine lv_tableIn (tgt := 302) hx hb d_law_33 (by rw [c4]; decide) (by rw [c4]; decide) (by rw [c4]; rfl) (by decide) ?_
      exact law_has hs.2.2.2.2.1 C hX hbl hbA hcs hi hL hR hw hl (fun qx σx qm σm H locs ls => next qx σx qm σm H locs ls hi)
    have n4 := lv_neT c4 (a := 4) rfl
    by_cases c5 : v = 5
    · refine lv_tableIn (tgt := 325) hx hb d_law_33 (by rw [c5]; decide) (by rw [c5]; decide) (by rw [c5]; rfl) (by decide) ?_
      exact law_letter hs.2.2.2.2.2.1 C hX hbl hbA hcs hi hL hR hw hl (fun qx σx qm σm H locs ls => next qx σx qm σm H locs ls hi)
    have n5 := lv_neT c5 (a := 5) rfl
    by_cases c6 : v = 6
    · refine lv_tableIn (tgt := 368) hx hb d_law_33 (by rw [c6]; decide) (by rw [c6]; decide) (by rw [c6]; rfl) (by decide) ?_
      exact law_trier hs.2.2.2.2.2.2.1 C hX hbl hbA hcs hi hL hR hw hl (fun qx σx qm σm H locs ls => next qx σx qm σm H locs ls hi)
    have n6 := lv_neT c6 (a := 6) rfl
    by_cases c7 : v = 7
    · refine lv_tableIn (tgt := 401) hx hb d_law_33 (by rw [c7]; decide) (by rw [c7]; decide) (by rw [c7]; rfl) (by decide) ?_
      exact law_mark hs.2.2.2.2.2.2.2.1 C hX hbl hbA hcs hi hL hR hw hl (fun qx σx qm σm H locs ls => next qx σx qm σm H locs ls hi)
    have n7 := lv_neT c7 (a := 7) rfl
    by_cases c8 : v = 8
    · refine lv_tableIn (tgt := 424) hx hb d_law_33 (by rw [c8]; decide) (by rw [c8]; decide) (by rw [c8]; rfl) (by decide) ?_
      exact law_past hs.2.2.2.2.2.2.2.2.1 C hX hbl hbA hcs hi hL hR hw hl (fun qx σx qm σm H locs ls => next qx σx qm σm H locs ls hi)
    have n8 := lv_neT c8 (a := 8) rfl
    by_cases c9 : v = 9
    · refine lv_tableIn (tgt := 447) hx hb d_law_33 (by rw [c9]; decide) (by rw [c9]; decide) (by rw [c9]; rfl) (by decide) ?_
      exact law_high hs.2.2.2.2.2.2.2.2.2.1 C hX hbl hbA hcs hi hL hR hw hl (fun qx σx qm σm H locs ls => next qx σx qm σm H locs ls hi)
    have n9 := lv_neT c9 (a := 9) rfl
    by_cases c10 : v = 10
    · refine lv_tableIn (tgt := 516) hx hb d_law_33 (by rw [c10]; decide) (by rw [c10]; decide) (by rw [c10]; rfl) (by decide) ?_
      exact law_hard hs.2.2.2.2.2.2.2.2.2.2.1 C hX hbl hbA hcs hi hL hR hw hl (fun qx σx qm σm H locs ls => next qx σx qm σm H locs ls hi)
    have n10 := lv_neT c10 (a := 10) rfl
    by_cases c11 : v = 11
    · refine lv_tableIn (tgt := 565) hx hb d_law_33 (by rw [c11]; decide) (by rw [c11]; decide) (by rw [c11]; rfl) (by decide) ?_
      exact law_wide hs.2.2.2.2.2.2.2.2.2.2.2.1 C hX hbl hbA hcs hi hL hR hw hl (fun qx σx qm σm H locs ls => next qx σx qm σm H locs ls hi)
    have n11 := lv_neT c11 (a := 11) rfl
    by_cases c12 : v = 12
    · refine lv_tableIn (tgt := 614) hx hb d_law_33 (by rw [c12]; decide) (by rw [c12]; decide) (by rw [c12]; rfl) (by decide) ?_
      exact law_leans hs.2.2.2.2.2.2.2.2.2.2.2.2.1 C hX hbl hbA hcs hi hL hR hw hl (fun qx σx qm σm H locs ls => next qx σx qm σm H locs ls hi)
    have n12 := lv_neT c12 (a := 12) rfl
    by_cases c13 : v = 13
    · refine lv_tableIn (tgt := 677) hx hb d_law_33 (by rw [c13]; decide) (by rw [c13]; decide) (by rw [c13]; rfl) (by decide) ?_
      exact law_tree hs.2.2.2.2.2.2.2.2.2.2.2.2.2.1 C hX hbl hbA hcs hi hL hR hw hl (fun qx σx qm σm H locs ls => next qx σx qm σm H locs ls hi)
    have n13 := lv_neT c13 (a := 13) rfl
    by_cases c14 : v = 14
    · refine lv_tableIn (tgt := 710) hx hb d_law_33 (by rw [c14]; decide) (by rw [c14]; decide) (by rw [c14]; rfl) (by decide) ?_
      exact law_best hs.2.2.2.2.2.2.2.2.2.2.2.2.2.2.1 C hX hbl hbA hcs hi hL hR hw hl (fun qx σx qm σm H locs ls => next qx σx qm σm H locs ls hi)
    have n14 := lv_neT c14 (a := 14) rfl
    by_cases c15 : v = 15
    · refine lv_tableIn (tgt := 733) hx hb d_law_33 (by rw [c15]; decide) (by rw [c15]; decide) (by rw [c15]; rfl) (by decide) ?_
      exact law_honest hs.2.2.2.2.2.2.2.2.2.2.2.2.2.2.2.1 C hX hbl hbA hcs hi hL hR hw hl (fun qx σx qm σm H locs ls => next qx σx qm σm H locs ls hi)
    have n15 := lv_neT c15 (a := 15) rfl
    by_cases c16 : v = 16
    · refine lv_tableIn (tgt := 756) hx hb d_law_33 (by rw [c16]; decide) (by rw [c16]; decide) (by rw [c16]; rfl) (by decide) ?_
      exact law_bet hs.2.2.2.2.2.2.2.2.2.2.2.2.2.2.2.2.1 C hX hbl hbA hcs hi hL hR hw hl (fun qx σx qm σm H locs ls => next qx σx qm σm H locs ls hi)
    have n16 := lv_neT c16 (a := 16) rfl
    by_cases c17 : v = 17
    · refine lv_tableIn (tgt := 799) hx hb d_law_33 (by rw [c17]; decide) (by rw [c17]; decide) (by rw [c17]; rfl) (by decide) ?_
      exact law_night hs.2.2.2.2.2.2.2.2.2.2.2.2.2.2.2.2.2.1 C hX hbl hbA hcs hi hL hR hw hl (fun qx σx qm σm H locs ls => next qx σx qm σm H locs ls hi)
    have n17 := lv_neT c17 (a := 17) rfl
    by_cases c18 : v = 18
    · refine lv_tableIn (tgt := 812) hx hb d_law_33 (by rw [c18]; decide) (by rw [c18]; decide) (by rw [c18]; rfl) (by decide) ?_
      exact law_rule hs.2.2.2.2.2.2.2.2.2.2.2.2.2.2.2.2.2.2.1 C hX hbl hbA hcs hi hL hR hw hl (fun qx σx qm σm H locs ls => next qx σx qm σm H locs ls hi)
    have n18 := lv_neT c18 (a := 18) rfl
    by_cases c19 : v = 19
    · refine lv_tableIn (tgt := 861) hx hb d_law_33 (by rw [c19]; decide) (by rw [c19]; decide) (by rw [c19]; rfl) (by decide) ?_
      exact law_set hs.2.2.2.2.2.2.2.2.2.2.2.2.2.2.2.2.2.2.2.1 C hX hbl hbA hcs hi hL hR hw hl (fun qx σx qm σm H locs ls => next qx σx qm σm H locs ls hi)
    have n19 := lv_neT c19 (a := 19) rfl
    by_cases c20 : v = 20
    · refine lv_tableIn (tgt := 894) hx hb d_law_33 (by rw [c20]; decide) (by rw [c20]; decide) (by rw [c20]; rfl) (by decide) ?_
      exact law_undo hs.2.2.2.2.2.2.2.2.2.2.2.2.2.2.2.2.2.2.2.2.1 C hX hbl hbA hcs hi hL hR hw hl (fun qx σx qm σm H locs ls => next qx σx qm σm H locs ls hi)
    have n20 := lv_neT c20 (a := 20) rfl
    by_cases c21 : v = 21
    · refine lv_tableIn (tgt := 907) hx hb d_law_33 (by rw [c21]; decide) (by rw [c21]; decide) (by rw [c21]; rfl) (by decide) ?_
      exact law_seed hs.2.2.2.2.2.2.2.2.2.2.2.2.2.2.2.2.2.2.2.2.2.1 C hX hbl hbA hcs hi hL hR hw hl (fun qx σx qm σm H locs ls => next qx σx qm σm H locs ls hi)
    have n21 := lv_neT c21 (a := 21) rfl
    by_cases c22 : v = 22
    · refine lv_tableIn (tgt := 930) hx hb d_law_33 (by rw [c22]; decide) (by rw [c22]; decide) (by rw [c22]; rfl) (by decide) ?_
      exact law_kept hs.2.2.2.2.2.2.2.2.2.2.2.2.2.2.2.2.2.2.2.2.2.2.1 C hX hbl hbA hcs hi hL hR hw hl (fun qx σx qm σm H locs ls => next qx σx qm σm H locs ls hi)
    have n22 := lv_neT c22 (a := 22) rfl
    by_cases c23 : v = 23
    · refine lv_tableIn (tgt := 963) hx hb d_law_33 (by rw [c23]; decide) (by rw [c23]; decide) (by rw [c23]; rfl) (by decide) ?_
      exact law_see hs.2.2.2.2.2.2.2.2.2.2.2.2.2.2.2.2.2.2.2.2.2.2.2.1 C hX hbl hbA hcs hi hL hR hw hl (fun qx σx qm σm H locs ls => next qx σx qm σm H locs ls hi)
    have n23 := lv_neT c23 (a := 23) rfl
    by_cases c24 : v = 24
    · refine lv_tableIn (tgt := 986) hx hb d_law_33 (by rw [c24]; decide) (by rw [c24]; decide) (by rw [c24]; rfl) (by decide) ?_
      exact law_was hs.2.2.2.2.2.2.2.2.2.2.2.2.2.2.2.2.2.2.2.2.2.2.2.2.1 C hX hbl hbA hcs hi hL hR hw hl (fun qx σx qm σm H locs ls => next qx σx qm σm H locs ls hi)
    have n24 := lv_neT c24 (a := 24) rfl
    by_cases c25 : v = 25
    · refine lv_tableIn (tgt := 1009) hx hb d_law_33 (by rw [c25]; decide) (by rw [c25]; decide) (by rw [c25]; rfl) (by decide) ?_
      exact law_strong hs.2.2.2.2.2.2.2.2.2.2.2.2.2.2.2.2.2.2.2.2.2.2.2.2.2.1 C hX hbl hbA hcs hi hL hR hw hl (fun qx σx qm σm H locs ls => next qx σx qm σm H locs ls hi)
    have n25 := lv_neT c25 (a := 25) rfl
    by_cases c26 : v = 26
    · refine lv_tableIn (tgt := 1032) hx hb d_law_33 (by rw [c26]; decide) (by rw [c26]; decide) (by rw [c26]; rfl) (by decide) ?_
      exact law_next hs.2.2.2.2.2.2.2.2.2.2.2.2.2.2.2.2.2.2.2.2.2.2.2.2.2.2.1 C hX hbl hbA hcs hi hL hR hw hl (fun qx σx qm σm H locs ls => next qx σx qm σm H locs ls hi)
    have n26 := lv_neT c26 (a := 26) rfl
    by_cases c27 : v = 27
    · refine lv_tableIn (tgt := 1071) hx hb d_law_33 (by rw [c27]; decide) (by rw [c27]; decide) (by rw [c27]; rfl) (by decide) ?_
      exact law_clear hs.2.2.2.2.2.2.2.2.2.2.2.2.2.2.2.2.2.2.2.2.2.2.2.2.2.2.2.1 C hX hbl hbA hcs hi hL hR hw hl (fun qx σx qm σm H locs ls => next qx σx qm σm H locs ls hi)
    have n27 := lv_neT c27 (a := 27) rfl
    by_cases c28 : v = 28
    · refine lv_tableIn (tgt := 1094) hx hb d_law_33 (by rw [c28]; decide) (by rw [c28]; decide) (by rw [c28]; rfl) (by decide) ?_
      exact law_reach hs.2.2.2.2.2.2.2.2.2.2.2.2.2.2.2.2.2.2.2.2.2.2.2.2.2.2.2.2.1 C hX hbl hbA hcs hi hL hR hw hl (fun qx σx qm σm H locs ls => next qx σx qm σm H locs ls hi)
    have n28 := lv_neT c28 (a := 28) rfl
    by_cases c29 : v = 29
    · refine lv_tableIn (tgt := 1127) hx hb d_law_33 (by rw [c29]; decide) (by rw [c29]; decide) (by rw [c29]; rfl) (by decide) ?_
      exact law_image hs.2.2.2.2.2.2.2.2.2.2.2.2.2.2.2.2.2.2.2.2.2.2.2.2.2.2.2.2.2.1 C hX hbl hbA hcs hi hL hR hw hl (fun qx σx qm σm H locs ls => next qx σx qm σm H locs ls hi)
    have n29 := lv_neT c29 (a := 29) rfl
    by_cases c30 : v = 30
    · refine lv_tableIn (tgt := 1140) hx hb d_law_33 (by rw [c30]; decide) (by rw [c30]; decide) (by rw [c30]; rfl) (by decide) ?_
      exact law_octet hs.2.2.2.2.2.2.2.2.2.2.2.2.2.2.2.2.2.2.2.2.2.2.2.2.2.2.2.2.2.2.1 C hX hbl hbA hcs hi hL hR hw hl (fun qx σx qm σm H locs ls => next qx σx qm σm H locs ls hi)
    have n30 := lv_neT c30 (a := 30) rfl
    by_cases c31 : v = 31
    · refine lv_tableIn (tgt := 1163) hx hb d_law_33 (by rw [c31]; decide) (by rw [c31]; decide) (by rw [c31]; rfl) (by decide) ?_
      exact law_on hs.2.2.2.2.2.2.2.2.2.2.2.2.2.2.2.2.2.2.2.2.2.2.2.2.2.2.2.2.2.2.2.1 C hX hbl hbA hcs hi hL hR hw hl (fun qx σx qm σm H locs ls => next qx σx qm σm H locs ls hi)
    have n31 := lv_neT c31 (a := 31) rfl
    by_cases c32 : v = 32
    · refine lv_tableIn (tgt := 1176) hx hb d_law_33 (by rw [c32]; decide) (by rw [c32]; decide) (by rw [c32]; rfl) (by decide) ?_
      exact law_status hs.2.2.2.2.2.2.2.2.2.2.2.2.2.2.2.2.2.2.2.2.2.2.2.2.2.2.2.2.2.2.2.2 C hX hbl hbA hcs hi hL hR hw hl (fun qx σx qm σm H locs ls => next qx σx qm σm H locs ls hi)
    have n32 := lv_neT c32 (a := 32) rfl
    refine lv_tableOut (tgt := 1199) hx hb d_law_33 (by omega) (by decide) ?_
    exact next qx σx qm σm H locs ls hi hR hw hl
