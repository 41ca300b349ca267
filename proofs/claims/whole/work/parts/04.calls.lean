-- ===== rows over the contract's form =====
def iR (x y : Int32) : Int32 := x - x / y * y
def lR (x y : Int64) : Int64 := x - x / y * y
def iMin (x y : Int32) : Int32 := if y < x then y else x
def iMax (x y : Int32) : Int32 := if x < y then y else x
def nz (y : Int32) : Bool := !(decide (y = 0))
def nzJ (y : Int64) : Bool := !(decide (y = 0))
theorem nz_e {y : Int32} (h : nz y = true) : ¬ y = 0 := by
  unfold nz at h
  simpa using h
theorem nzJ_e {y : Int64} (h : nzJ y = true) : ¬ y = 0 := by
  unfold nzJ at h
  simpa using h
def stF (k : Nat) (j : Nat) : Int32 := ((stTab.getD k ("", "", [])).2.2).getD j 0
/-- what a call of an instance method asks of the tables, but its link -/
def CalV (y : MethodName) (bytes : ByteArray) (nL : Nat) (ret : Option FieldType) (k : Nat) : Prop :=
  (Cond.code y bytes nL ret ∈ tb ∧ Cond.initialized y.cls ∈ tb ∧ (y.cls ≠ "java/lang/invoke/MethodHandle" ∧ y.cls ≠ "java/lang/invoke/VarHandle" ∧ (parseMethodDescriptor y.desc).map (fun d => d.parameters.length) = some k) ∧ nL ≤ 21) ∧ Cond.instanceMethod y ∈ tb ∧ Cond.selects y.cls y y ∈ tb
def CalS (y : MethodName) (bytes : ByteArray) (nL : Nat) (ret : Option FieldType) (k : Nat) : Prop :=
  (Cond.code y bytes nL ret ∈ tb ∧ Cond.initialized y.cls ∈ tb ∧ (y.cls ≠ "java/lang/invoke/MethodHandle" ∧ y.cls ≠ "java/lang/invoke/VarHandle" ∧ (parseMethodDescriptor y.desc).map (fun d => d.parameters.length) = some k) ∧ nL ≤ 21) ∧ Cond.static y ∈ tb
section ROWS
variable {p : Program} {l : Launch} {e : Env} {R : Room} {s : State} {m : MethodId} {av : Array Value} {below : List Frame} {meth : Method} {c : Code} {H : Heap} {locs : List Loc} {cells slots : Nat} {Q : State → Prop}
variable {g : GX} {w w2 : St → va_W} {A : Nat → Prop} {σ σ2 : St} {cc : ByteArray} {nL : Nat} {own : String} {ret0 : Option FieldType} {pc : Nat} {ls : Array Slot} {rest : List Value}
theorem r_irem (hexec : p.tables.exec = Jvm.exec) (hb : c.code = cc) {x y : Int32} (hdg : decode cc pc = .ok (.irem, 1)) (hne : ¬ y = 0) (k : W p l e R s m av below meth c H locs cells slots Q (F0 m (pc + 1) ls (.int (iR x y) :: rest))) : W p l e R s m av below meth c H locs cells slots Q (F0 m pc ls (.int y :: .int x :: rest)) := lv_irem hexec hb hdg hne k
theorem r_lrem (hexec : p.tables.exec = Jvm.exec) (hb : c.code = cc) {x y : Int64} (hdg : decode cc pc = .ok (.lrem, 1)) (hne : ¬ y = 0) (k : W p l e R s m av below meth c H locs cells slots Q (F0 m (pc + 1) ls (.long (lR x y) :: rest))) : W p l e R s m av below meth c H locs cells slots Q (F0 m pc ls (.long y :: .long x :: rest)) := lv_lrem hexec hb hdg hne k
theorem r_min (C : Cx g A p s m av meth c cc nL own ret0) (hsz : ls.size = nL) {n index : Nat} (hn : 1 ≤ n) (hw : (rest.map fun v => v.category).sum ≤ 8) {x y : Int32} (hlink : Cond.methodLink own index Lib.Math.min.name ∈ tb) (hdg : decode cc pc = .ok (.invokestatic index, 3))
    (kk : W p l e (rmv n) s m av below meth c H locs 0 0 Q (F0 m (pc + 3) ls (.int (iMin x y) :: rest))) : W p l e (rmv n) s m av below meth c H locs 0 0 Q (F0 m pc ls (.int y :: .int x :: rest)) := by
  obtain ⟨hx, hb, hml, hown, hts, hK, hA, hZ, hlocks, hr, hN⟩ := C
  exact va_mmin hx hb (hml.trans hsz.symm) hown (hts _ hlink) (hts _ (tb_in 573 (by decide +kernel) (by decide +kernel))) (hts _ (tb_in 116 (by decide +kernel) (by decide +kernel))) (hts _ (tb_in 574 (by decide +kernel) (by decide +kernel))) hn (by show _ ≤ 40 * n; omega) (Nat.le_refl 0) (Nat.le_refl 0) hdg kk
theorem r_max (C : Cx g A p s m av meth c cc nL own ret0) (hsz : ls.size = nL) {n index : Nat} (hn : 1 ≤ n) (hw : (rest.map fun v => v.category).sum ≤ 8) {x y : Int32} (hlink : Cond.methodLink own index Lib.Math.max.name ∈ tb) (hdg : decode cc pc = .ok (.invokestatic index, 3))
    (kk : W p l e (rmv n) s m av below meth c H locs 0 0 Q (F0 m (pc + 3) ls (.int (iMax x y) :: rest))) : W p l e (rmv n) s m av below meth c H locs 0 0 Q (F0 m pc ls (.int y :: .int x :: rest)) := by
  obtain ⟨hx, hb, hml, hown, hts, hK, hA, hZ, hlocks, hr, hN⟩ := C
  exact va_mmax hx hb (hml.trans hsz.symm) hown (hts _ hlink) (hts _ (tb_in 781 (by decide +kernel) (by decide +kernel))) (hts _ (tb_in 116 (by decide +kernel) (by decide +kernel))) (hts _ (tb_in 782 (by decide +kernel) (by decide +kernel))) hn (by show _ ≤ 40 * n; omega) (Nat.le_refl 0) (Nat.le_refl 0) hdg kk
theorem r_gets (C : Cx g A p s m av meth c cc nL own ret0) (h : Wd g w A s σ H locs) (k : Nat) {x : String × String × List Int32} (hk : stTab[k]? = some x) {index : Nat} (hlink : Cond.fieldLink own index x.1 x.2.1 "[I" ∈ tb) (hdg : decode cc pc = .ok (.getstatic index, 3))
    (kk : W p l e R s m av below meth c H locs cells slots Q (F0 m (pc + 3) ls (.ref (g.2.2 k) :: rest))) : W p l e R s m av below meth c H locs cells slots Q (F0 m pc ls rest) := by
  obtain ⟨hx, hb, hml, hown, hts, hK, hA, hZ, hlocks, hr, hN⟩ := C
  exact va_gets hx hb (hZ.1 k x hk).1 h.2.2 hown (hts _ hlink) (fun _ h => h) hdg kk
theorem r_getsN (C : Cx g A p s m av meth c cc nL own ret0) (h : Wd g w A s σ H locs) (k : Nat) {x : String × String × List Int32} (hk : stTab[k]? = some x) {index : Nat} {host : String} (hlink : (own, index, x.1, x.2.1, "[I", host) ∈ nestF) (hdg : decode cc pc = .ok (.getstatic index, 3))
    (kk : W p l e R s m av below meth c H locs cells slots Q (F0 m (pc + 3) ls (.ref (g.2.2 k) :: rest))) : W p l e R s m av below meth c H locs cells slots Q (F0 m pc ls rest) := by
  obtain ⟨hx, hb, hml, hown, hts, hK, hA, hZ, hlocks, hr, hN⟩ := C
  exact va_getsN hx hb (hZ.1 k x hk).1 h.2.2 hown ((hN.1.1 _ hlink).use rfl) (fun _ h => h) hdg kk
def stV (k : Nat) (i : Int32) : Int32 := ((stTab.getD k ("", "", [])).2.2).getD i.toNatClampNeg 0
theorem r_sld (C : Cx g A p s m av meth c cc nL own ret0) (h : Wd g w A s σ H locs) (k : Nat) {x : String × String × List Int32} (hk : stTab[k]? = some x) {i : Int32} (hin : inB i x.2.2.length = true) (hdg : decode cc pc = .ok (.iaload, 1))
    (kk : W p l e R s m av below meth c H locs cells slots Q (F0 m (pc + 1) ls (.int (stV k i) :: rest))) : W p l e R s m av below meth c H locs cells slots Q (F0 m pc ls (.int i :: .ref (g.2.2 k) :: rest)) := by
  obtain ⟨hx, hb, hml, hown, hts, hK, hA, hZ, hlocks, hr, hN⟩ := C
  refine va_ti hx hb (hZ.1 k x hk).2.1 h.2.2 (in_e hin) (v := .int (stV k i)) ?_ hdg kk
  show Value.int _ = Value.int _
  have hg : stTab.getD k ("", "", []) = x := by rw [List.getD_eq_getElem?_getD, hk]; rfl
  unfold stV
  rw [hg]
theorem r_slen (C : Cx g A p s m av meth c cc nL own ret0) (h : Wd g w A s σ H locs) (k : Nat) {x : String × String × List Int32} (hk : stTab[k]? = some x) {v : Int32} (hv : Int32.ofNat x.2.2.length = v) (hdg : decode cc pc = .ok (.arraylength, 1))
    (kk : W p l e R s m av below meth c H locs cells slots Q (F0 m (pc + 1) ls (.int v :: rest))) : W p l e R s m av below meth c H locs cells slots Q (F0 m pc ls (.ref (g.2.2 k) :: rest)) := by
  obtain ⟨hx, hb, hml, hown, hts, hK, hA, hZ, hlocks, hr, hN⟩ := C
  exact va_tlen hx hb (hZ.1 k x hk).2.1 h.2.2 hv hdg kk
theorem k_iret {v : Int32} {n : Nat} (C : Cx g A p s m av meth c cc nL own (some .int)) (h : Wd g w2 A s σ2 H locs) (hdg : decode cc pc = .ok (.ireturn, 1)) : WK p l e s m av below meth c n g w2 A (some (.int v)) σ2 H locs (F0 m pc ls [.int v]) := by
  obtain ⟨hx, hb, hml, hown, hts, hK, hA, hZ, hlocks, hr, hN⟩ := C
  exact W.iret hx hb hr (fun t ht hW => ⟨⟨rfl, by rw [ht]; exact h.1, va_K.moved hW.alike hK, h.2.1⟩, h.2.2.F ht⟩) h.2.2.2.2 hdg hlocks
theorem k_zret {v : Int32} {n : Nat} (C : Cx g A p s m av meth c cc nL own (some .boolean)) (h : Wd g w2 A s σ2 H locs) (hv : isB v = true) (hdg : decode cc pc = .ok (.ireturn, 1)) : WK p l e s m av below meth c n g w2 A (some (.int v)) σ2 H locs (F0 m pc ls [.int v]) := by
  obtain ⟨hx, hb, hml, hown, hts, hK, hA, hZ, hlocks, hr, hN⟩ := C
  exact W.zret hx hb hr (isB_e hv).1 (fun t ht hW => ⟨⟨rfl, by rw [ht]; exact h.1, va_K.moved hW.alike hK, h.2.1⟩, h.2.2.F ht⟩) h.2.2.2.2 hdg hlocks
theorem k_lret {v : Int64} {n : Nat} (C : Cx g A p s m av meth c cc nL own (some .long)) (h : Wd g w2 A s σ2 H locs) (hdg : decode cc pc = .ok (.lreturn, 1)) : WK p l e s m av below meth c n g w2 A (some (.long v)) σ2 H locs (F0 m pc ls [.long v]) := by
  obtain ⟨hx, hb, hml, hown, hts, hK, hA, hZ, hlocks, hr, hN⟩ := C
  exact W.lret hx hb hr (fun t ht hW => ⟨⟨rfl, by rw [ht]; exact h.1, va_K.moved hW.alike hK, h.2.1⟩, h.2.2.F ht⟩) h.2.2.2.2 hdg hlocks
theorem k_vret {n : Nat} (C : Cx g A p s m av meth c cc nL own none) (h : Wd g w2 A s σ2 H locs) (hdg : decode cc pc = .ok (.return_, 1)) : WK p l e s m av below meth c n g w2 A none σ2 H locs (F0 m pc ls []) := by
  obtain ⟨hx, hb, hml, hown, hts, hK, hA, hZ, hlocks, hr, hN⟩ := C
  exact W.vret hx hb hr (fun t ht hW => ⟨⟨rfl, by rw [ht]; exact h.1, va_K.moved hW.alike hK, h.2.1⟩, h.2.2.F ht⟩) h.2.2.2.2 hdg hlocks
theorem wsV_good {idx k : Nat} {y : MethodName} {bytes : ByteArray} {nL1 : Nat} {ret1 : Option FieldType} (hc : CalV y bytes nL1 ret1 k) (hl : Cond.methodLink own idx y ∈ tb) : GoodIn tb (wsV own idx y.cls y (Cond.code y bytes nL1 ret1 :: tb)) := fun x hx => by
  have hm : x ∈ tb := by
    unfold wsV at hx
    rcases List.mem_append.mp hx with hx | hx
    · simp only [List.mem_cons, List.not_mem_nil, or_false] at hx
      rcases hx with rfl | rfl | rfl | rfl
      · exact hl
      · exact hc.2.1
      · exact hc.2.2
      · exact hc.1.2.1
    · exact (tb_good hc.1.1 x hx).1
  exact ⟨hm, good_of_word (List.mem_filter.mp hm).2⟩
theorem wsS_good {idx k : Nat} {y : MethodName} {bytes : ByteArray} {nL1 : Nat} {ret1 : Option FieldType} (hc : CalS y bytes nL1 ret1 k) (hl : Cond.methodLink own idx y ∈ tb) : GoodIn tb (va_wsS own idx y (Cond.code y bytes nL1 ret1 :: tb)) := fun x hx => by
  have hm : x ∈ tb := by
    unfold va_wsS at hx
    rcases List.mem_append.mp hx with hx | hx
    · simp only [List.mem_cons, List.not_mem_nil, or_false] at hx
      rcases hx with rfl | rfl | rfl
      · exact hl
      · exact hc.2
      · exact hc.1.2.1
    · exact (tb_good hc.1.1 x hx).1
  exact ⟨hm, good_of_word (List.mem_filter.mp hm).2⟩
variable {y : MethodName} {bytes : ByteArray} {nL1 n n1 index : Nat} {ret1 : Option FieldType} {b : Nat} {As : List Value} {rv : Option Value} {st0 : List Value}
theorem k_callV (C : Cx g A p s m av meth c cc nL own ret0) (h : Wd g w A s σ H locs) (hM : KK l y bytes nL1 ret1 n1 g w σ (.ref b :: As) rv w2 σ2) (hc : CalV y bytes nL1 ret1 As.length) (hl : Cond.methodLink own index y ∈ tb) (hrecv : ∃ cell : Cell, H[b]? = some cell ∧ cell.vm.isStatics = false ∧ s.vm.findClass y.cls = some cell.cls)
    (hn : n1 + 1 ≤ n) (hsz : ls.size = nL) (hst : st0 = As.reverse ++ .ref b :: rest) (hw : (rest.map fun v => v.category).sum ≤ 8) (hdg : decode cc pc = .ok (.invokevirtual index, 3))
    (kk : ∀ (H1 : Heap) (locs1 : List Loc), Wd g w2 A s σ2 H1 locs1 → W p l e (rmv n) s m av below meth c H1 locs1 0 0 Q (F0 m (pc + 3) ls (rv.toList ++ rest))) : W p l e (rmv n) s m av below meth c H locs 0 0 Q (F0 m pc ls st0) := by
  obtain ⟨hx, hb, hml, hown, hts, hK, hA, hZ, hlocks, hr, hN⟩ := C
  subst hst
  refine call_go (a := (Value.ref b :: As).toArray) (va_runV (As := As) (rest := rest) (b := b) (C := y.cls) (Ts := tb) ⟨hx, hb, hml, hown, hts⟩ (hM H.size) (cwV As.length hts (wsV_good hc hl) rfl rfl rfl ⟨rfl, hc.1.2.2.1⟩ ⟨hn, ?_⟩) ⟨preK_blind _ _ _ _ _, hrecv, h.pre hK hA hZ hN (.ref b :: As)⟩ rfl rfl hsz rfl (lv_room hw) hdg ⟨Nat.le_refl 0, Nat.le_refl 0⟩) hA h kk
  have := hc.1.2.2.2
  show 8 + (nL1 + 11) + 40 * n1 ≤ 40 * n
  omega
theorem k_callS (C : Cx g A p s m av meth c cc nL own ret0) (h : Wd g w A s σ H locs) (hM : KK l y bytes nL1 ret1 n1 g w σ As rv w2 σ2) (hc : CalS y bytes nL1 ret1 As.length) (hl : Cond.methodLink own index y ∈ tb)
    (hn : n1 + 1 ≤ n) (hsz : ls.size = nL) (hst : st0 = As.reverse ++ rest) (hw : (rest.map fun v => v.category).sum ≤ 8) (hdg : decode cc pc = .ok (.invokestatic index, 3))
    (kk : ∀ (H1 : Heap) (locs1 : List Loc), Wd g w2 A s σ2 H1 locs1 → W p l e (rmv n) s m av below meth c H1 locs1 0 0 Q (F0 m (pc + 3) ls (rv.toList ++ rest))) : W p l e (rmv n) s m av below meth c H locs 0 0 Q (F0 m pc ls st0) := by
  obtain ⟨hx, hb, hml, hown, hts, hK, hA, hZ, hlocks, hr, hN⟩ := C
  subst hst
  refine call_go (a := As.toArray) (va_runS (As := As) (rest := rest) (Ts := tb) ⟨hx, hb, hml, hown, hts⟩ (hM H.size) (va_cwS As.length hts (wsS_good hc hl) rfl rfl rfl hc.1.2.2.1 ⟨hn, ?_⟩) ⟨preK_blind _ _ _ _ _, h.pre hK hA hZ hN As⟩ rfl rfl hsz rfl (lv_room hw) hdg ⟨Nat.le_refl 0, Nat.le_refl 0⟩) hA h kk
  have := hc.1.2.2.2
  show 8 + (nL1 + 11) + 40 * n1 ≤ 40 * n
  omega
theorem k_callSN {host : String} (C : Cx g A p s m av meth c cc nL own ret0) (h : Wd g w A s σ H locs) (hM : KK l y bytes nL1 ret1 n1 g w σ As rv w2 σ2) (hc : CalS y bytes nL1 ret1 As.length) (hl : (own, index, y, host) ∈ nestM)
    (hn : n1 + 1 ≤ n) (hsz : ls.size = nL) (hst : st0 = As.reverse ++ rest) (hw : (rest.map fun v => v.category).sum ≤ 8) (hdg : decode cc pc = .ok (.invokestatic index, 3))
    (kk : ∀ (H1 : Heap) (locs1 : List Loc), Wd g w2 A s σ2 H1 locs1 → W p l e (rmv n) s m av below meth c H1 locs1 0 0 Q (F0 m (pc + 3) ls (rv.toList ++ rest))) : W p l e (rmv n) s m av below meth c H locs 0 0 Q (F0 m pc ls st0) := by
  obtain ⟨hx, hb, hml, hown, hts, hK, hA, hZ, hlocks, hr, hN⟩ := C
  subst hst
  refine call_go (a := As.toArray) (va_runSN (As := As) (rest := rest) (Ts := tb) ⟨hx, hb, hml, hown, hts⟩ (hM H.size) ⟨va_cnB As.length hts (tb_good hc.1.1) rfl rfl rfl (hN.1.2 _ hl) (hts _ hc.1.2.1) hc.1.2.2.1 ⟨hn, ?_⟩, hts _ hc.2, trivial⟩ ⟨preK_blind _ _ _ _ _, h.pre hK hA hZ hN As⟩ rfl rfl hsz rfl (lv_room hw) hdg ⟨Nat.le_refl 0, Nat.le_refl 0⟩) hA h kk
  have := hc.1.2.2.2
  show 8 + (nL1 + 11) + 40 * n1 ≤ 40 * n
  omega
end ROWS
