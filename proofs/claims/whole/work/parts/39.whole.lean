theorem k117 : Jvm.Cond.classLink "BellHammerLaw" (7 : Nat) "BellHammer" ∈ tb := sub1 (List.mem_of_getElem? (l := tables_1_1) (i := 19) rfl) rfl
theorem k118 : Jvm.Cond.instantiable "BellHammer" (13 : Nat) ∈ tb := sub1 (List.mem_of_getElem? (l := tables_1_1) (i := 20) rfl) rfl
theorem k119 : Jvm.Cond.methodLink "BellHammerLaw" (9 : Nat) ({ cls := "BellHammer", name := "<init>", desc := "()V" } : Jvm.MethodName) ∈ tb := sub1 (List.mem_of_getElem? (l := tables_1_1) (i := 21) rfl) rfl
theorem k1078 : Jvm.Cond.classLink "BellHammerLaw" (10 : Nat) "BellHammerModel" ∈ tb := sub5 (List.mem_of_getElem? (l := tables_1_5) (i := 20) rfl) rfl
theorem k1079 : Jvm.Cond.instantiable "BellHammerModel" (82 : Nat) ∈ tb := sub5 (List.mem_of_getElem? (l := tables_1_5) (i := 21) rfl) rfl
theorem k1080 : Jvm.Cond.methodLink "BellHammerLaw" (12 : Nat) ({ cls := "BellHammerModel", name := "<init>", desc := "()V" } : Jvm.MethodName) ∈ tb := sub5 (List.mem_of_getElem? (l := tables_1_5) (i := 22) rfl) rfl
section RC
variable {p : Program} {l : Launch} {e : Env} {R : Room} {s : State} {m : MethodId} {av : Array Value} {below : List Frame} {meth : Method} {c : Code} {H : Heap} {locs : List Loc} {cells slots : Nat} {Q : State → Prop}
variable {g : GX} {q : Nat → Nat} {ws tl : va_W} {A : Nat → Prop} {cc : ByteArray} {nL : Nat} {own : String} {ret0 : Option FieldType} {pc index : Nat} {ls : Array Slot} {rest : List Value} {h0 : Nat} {fs : List Value}
theorem cn_BH (C : Cx g A p s m av meth c cc nL own ret0) (h : Wl g ws A s H locs) (hlink : Cond.classLink own index "BellHammer" ∈ tb) (hc : cells + 1 ≤ R.cells) (hs : slots + 13 ≤ R.slots) (hdg : decode cc pc = .ok (.new index, 3)) (kk : ∀ (q : Nat) (H1 : Heap), Wl g (ws ++ [(q, .inr (8, [.null, .null, .null, .null, .null, .null, .null, .null, .int 0, .int 0, .null, .int 0, .null]))]) A s H1 locs → W p l e R s m av below meth c H1 locs (cells + 1) (slots + 13) Q (F0 m (pc + 3) ls (.ref q :: rest))) : W p l e R s m av below meth c H locs cells slots Q (F0 m pc ls rest) := va_new (ci := 8) (C := RX10) (T := TX10) (N := 13) C.1 C.2.1 C.2.2.2.2.1 inX10 tyX10 tyX10_ok C.2.2.2.1 (C.2.2.2.2.1 _ hlink) (C.2.2.2.2.1 _ k118) (C.2.2.2.2.1 _ k99) C.2.2.2.2.2.1 h.1 h.2.1 h.2.2 C.2.2.2.2.2.2.1 rfl (by decide +kernel) hc hs hdg (fun q H1 hP hD hS => kk q H1 ⟨hP, hD, hS⟩)
theorem cn_Model (C : Cx g A p s m av meth c cc nL own ret0) (h : Wl g ws A s H locs) (hlink : Cond.classLink own index "BellHammerModel" ∈ tb) (hc : cells + 1 ≤ R.cells) (hs : slots + 82 ≤ R.slots) (hdg : decode cc pc = .ok (.new index, 3)) (kk : ∀ (q : Nat) (H1 : Heap), Wl g (ws ++ [(q, .inr (9, [.null, .int 0, .int 0, .int 0, .int 0, .int 0, .int 0, .int 0, .int 0, .null, .null, .null, .null, .null, .null, .null, .null, .null, .null, .null, .null, .null, .null, .null, .null, .null, .null, .null, .null, .null, .null, .null, .null, .null, .null, .null, .null, .int 0, .null, .null, .null, .null, .null, .int 0, .null, .int 0, .null, .int 0, .int 0, .null, .null, .int 0, .null, .int 0, .null, .null, .null, .int 0, .int 0, .int 0, .int 0, .int 0, .int 0, .int 0, .int 0, .int 0, .long 0, .long 0, .long 0, .long 0, .long 0, .int 0, .int 0, .null, .int 0, .int 0, .long 0, .int 0, .int 0, .null, .null, .int 0]))]) A s H1 locs → W p l e R s m av below meth c H1 locs (cells + 1) (slots + 82) Q (F0 m (pc + 3) ls (.ref q :: rest))) : W p l e R s m av below meth c H locs cells slots Q (F0 m pc ls rest) := va_new (ci := 9) (C := RX11) (T := TX11) (N := 82) C.1 C.2.1 C.2.2.2.2.1 inX11 tyX11 tyX11_ok C.2.2.2.1 (C.2.2.2.2.1 _ hlink) (C.2.2.2.2.1 _ k1079) (C.2.2.2.2.1 _ k113) C.2.2.2.2.2.1 h.1 h.2.1 h.2.2 C.2.2.2.2.2.2.1 rfl (by decide +kernel) hc hs hdg (fun q H1 hP hD hS => kk q H1 ⟨hP, hD, hS⟩)
end RC
def σX0 : St := (fun k => ([0, 0, 0, 0, 0, (-1), (sI rd0 0), (sI rd0 1), (sI rd0 2), (sI rd0 3), (sI rd0 4), (sI rd0 5), 0, 0, 0, 0, 0, 0, 0, 0, 0, 0, 1, 0, 0, 0, 0, 0, 0, 0, 0, 0, 0, 0, 0, 0, 0, 0, 0, 0, 0, 0, 0, 0, 0, 0, 0, 0, 0, 0, 0, 0, 0, 0, 0, 0, 0] : List Int32).getD k 0, fun k => ([0] : List Int64).getD k 0, fun k => ([(fun _ => 0), (sA rd0 0), (fun _ => 0), (fun _ => 0), (fun _ => 0), (fun _ => 0), (va_cpy (stF 2) (fun _ => 0) (0 : Int32).toNatClampNeg (0 : Int32).toNatClampNeg (9 : Int32).toNatClampNeg), (fun _ => 0), (fun _ => 0), (va_cpy (stF 2) (fun _ => 0) (0 : Int32).toNatClampNeg (0 : Int32).toNatClampNeg (3 : Int32).toNatClampNeg), (fun _ => 0), (fun _ => 0), (fun _ => 0), (fun _ => 0), (fun _ => 0), (fun _ => 0), (fun _ => 0), (fun _ => 0), (fun _ => 0), (fun _ => 0), (fun _ => 0), (fun _ => 0), (fun _ => 0), (fun _ => 0), (fun _ => 0), (va_cpy (stF 2) (fun _ => 0) (0 : Int32).toNatClampNeg (0 : Int32).toNatClampNeg (9 : Int32).toNatClampNeg), (fun _ => 0), (fun _ => 0), (fun _ => 0), (fun _ => 0), (fun _ => 0)] : List (Nat → Int32)).getD k (fun _ => 0), fun _ _ => 0)
def σM0 : St := (fun k => ([0, 0, 0, 0, 0, 0, 0, (-1), 0, 0, 0, 0, 0, 0, 0, 0, 0, 0, 0, 0, 0, 0, 0, 0, 0, 0, 0, 0, 0, 0, 0] : List Int32).getD k 0, fun k => ([0, 0, 0, 0, 0, 1] : List Int64).getD k 0, fun k => ([(fun _ => 0), (fun _ => 0), (fun _ => 0), (fun _ => 0), (fun _ => 0), (upd (upd (upd (upd (upd (upd (upd (upd (upd (upd (upd (upd (upd (upd (upd (upd (upd (upd (fun _ => 0) (0 : Int32).toNatClampNeg 50) (1 : Int32).toNatClampNeg 1) (2 : Int32).toNatClampNeg 3) (3 : Int32).toNatClampNeg 20) (4 : Int32).toNatClampNeg 0) (5 : Int32).toNatClampNeg 3) (6 : Int32).toNatClampNeg 3) (7 : Int32).toNatClampNeg 1) (8 : Int32).toNatClampNeg 0) (9 : Int32).toNatClampNeg 50) (10 : Int32).toNatClampNeg 1) (11 : Int32).toNatClampNeg 3) (12 : Int32).toNatClampNeg 20) (13 : Int32).toNatClampNeg 0) (14 : Int32).toNatClampNeg 3) (15 : Int32).toNatClampNeg 3) (16 : Int32).toNatClampNeg 1) (17 : Int32).toNatClampNeg 0), (fun _ => 0), (fun _ => 0), (fun _ => 0), (fun _ => 0), (fun _ => 0), (upd (upd (upd (upd (upd (upd (upd (upd (upd (upd (fun _ => 0) (0 : Int32).toNatClampNeg 0) (1 : Int32).toNatClampNeg 0) (2 : Int32).toNatClampNeg 0) (3 : Int32).toNatClampNeg 50) (4 : Int32).toNatClampNeg 20) (5 : Int32).toNatClampNeg 1) (6 : Int32).toNatClampNeg 0) (7 : Int32).toNatClampNeg 0) (8 : Int32).toNatClampNeg 0) (9 : Int32).toNatClampNeg 0), (fun _ => 0), (fun _ => 0), (fun _ => 0), (fun _ => 0)] : List (Nat → Int32)).getD k (fun _ => 0), fun _ _ => 0)
def qX (q : Nat → Nat) : Nat → Nat := fun k => if k < 6 then q k else if k = 45 then q 6 else q (k + 1)
def qM (q : Nat → Nat) : Nat → Nat := fun k => q ([0, 3, 4, 5, 6, 7, 8, 9, 10, 11, 12, 13, 14, 15, 16, 17, 18, 19, 20, 21, 22, 23, 24, 25, 26, 27, 28, 29, 1, 2, 30, 31, 32, 33, 34, 35, 36, 37, 38, 39, 40, 41, 42, 43, 44, 45].getD k 0)
theorem sub_mem {ws ws2 : va_W} (is : List Nat) (h : is.filterMap (fun i => ws[i]?) = ws2) {k : Nat} {x : Nat × va_E} (hk : ws2[k]? = some x) : ∃ j : Nat, ws[j]? = some x := by
  have hm := List.mem_of_getElem? hk
  rw [← h] at hm
  obtain ⟨i, -, hi⟩ := List.mem_filterMap.mp hm
  exact ⟨i, hi⟩
set_option maxRecDepth 20000 in
theorem eX1 (g : GX) (q : Nat → Nat) : [0, 1, 2, 3, 4, 5, 7, 8, 9, 10, 11, 12, 13, 14, 15, 16, 17, 18, 19, 20, 21, 22, 23, 24, 25, 26, 27, 28, 29, 30, 31, 32, 33, 34, 35, 36, 37, 38, 39, 40, 41, 42, 43, 44, 45].filterMap (fun i => (wi_BH g q)[i]?) = wX g (qX q) σX0 := rfl
set_option maxRecDepth 20000 in
theorem eX2 (g : GX) (q : Nat → Nat) : [0, 1, 2, 3, 4, 5, 7, 8, 9, 10, 11, 12, 13, 14, 15, 16, 17, 18, 19, 20, 21, 22, 23, 24, 25, 26, 27, 28, 29, 30, 31, 32, 33, 34, 35, 36, 37, 38, 39, 40, 41, 42, 43, 44, 45].map (fun i => (wi_BH g q)[i]?) = (wX g (qX q) σX0).map some := rfl
set_option maxRecDepth 20000 in
theorem eM1 (g : GX) (q : Nat → Nat) : [0, 3, 4, 5, 6, 7, 8, 9, 10, 11, 12, 13, 14, 15, 16, 17, 18, 19, 20, 21, 22, 23, 24, 25, 26, 27, 28, 29, 1, 2, 30, 31, 32, 33, 34, 35, 36, 37, 38, 39, 40, 41, 42, 43, 44, 45].filterMap (fun i => (wi_Model g q)[i]?) = wM g (qM q) σM0 := rfl
set_option maxRecDepth 20000 in
theorem eM2 (g : GX) (q : Nat → Nat) : [0, 3, 4, 5, 6, 7, 8, 9, 10, 11, 12, 13, 14, 15, 16, 17, 18, 19, 20, 21, 22, 23, 24, 25, 26, 27, 28, 29, 1, 2, 30, 31, 32, 33, 34, 35, 36, 37, 38, 39, 40, 41, 42, 43, 44, 45].map (fun i => (wi_Model g q)[i]?) = (wM g (qM q) σM0).map some := rfl
set_option maxHeartbeats 8000000 in
set_option maxRecDepth 20000 in
theorem whole_start_of {Rel : St → St → Prop} (hs : Sims Rel) (hR0 : Rel σX0 σM0) {p : Program} {e : Env} {s : State} {m : MethodId} {below : List Frame} {meth : Method} {c : Code} (l : Launch) {b L : Nat} {xs : Nat → Int32} (hL : L ≤ 3072) (C0 : lw_At p s m meth c b L xs) : W p l e room_1 s m #[Value.ref b] below meth c s.heap [] 0 0 (lw_Z below #[Value.ref b] s) (entryFrame m ([Value.ref b] : List Value).toArray 4) := by
  obtain ⟨hx, hb, hr, hml, hown, hts, hX, hbl, hlocks, hgv⟩ := id C0
  obtain ⟨g, hK, hZ, hN⟩ := start_g hts hgv
  have hbA : ¬ (fun q : Nat => s.heap.size ≤ q) b := Nat.not_le.mpr hbl
  have C : Cx g (fun q : Nat => s.heap.size ≤ q) p s m #[Value.ref b] meth c code 4 "BellHammerLaw" (some .boolean) := ⟨hx, hb, hml, hown, fun w h => hts w (List.mem_filter.mp h).1, hK, fun _ h => h, hZ, hlocks, hr, hN⟩
  have hl := lv_entry ([.ref b]) (n := 4) (Nat.le_of_ble_eq_true rfl)
  rw [lg_entry_eq]
  generalize (lg_sl ([.ref b]) ++ List.replicate (4 - (lg_sl ([.ref b])).length) Slot.unset).toArray = ls at hl ⊢
  have hl : lv_has ls 4 [(0, .ref b)] := hl
  have h : Wl g [] (fun q : Nat => s.heap.size ≤ q) s s.heap [] := ⟨fun k q h => by simp at h, ⟨fun i j p q h => by simp at h, fun k q h => by simp at h⟩, va_S.rf⟩
  refine cn_BH C h k117 (Nat.le_of_ble_eq_true rfl) (Nat.le_of_ble_eq_true rfl) d_law_0 (fun b0 H h => ?_)
  refine lv_dup hx hb d_law_3 rfl ?_
  refine k_callA (ws := []) C h (a_BH (l := l)) cv_ABH k119 (Nat.le_of_ble_eq_true rfl) (Nat.le_of_ble_eq_true rfl) ⟨(Nat.le_of_ble_eq_true rfl), (Nat.le_of_ble_eq_true rfl)⟩ hl.1 (Nat.le_of_ble_eq_true rfl) d_law_4 (fun w1 H locs hw h => ?_)
  obtain ⟨z0, rfl, rfl⟩ := hw
  refine lv_astore_n (lv' := [(1, .ref (z0 0)), (0, .ref b)]) hx hb d_law_7 rfl hl (by decide) rfl (fun ls hl => ?_)
  refine cn_Model C h k1078 (Nat.le_of_ble_eq_true rfl) (Nat.le_of_ble_eq_true rfl) d_law_8 (fun b1 H h => ?_)
  refine lv_dup hx hb d_law_11 rfl ?_
  refine k_callA C h (a_Model (l := l)) cv_AModel k1080 (Nat.le_of_ble_eq_true rfl) (Nat.le_of_ble_eq_true rfl) ⟨(Nat.le_of_ble_eq_true rfl), (Nat.le_of_ble_eq_true rfl)⟩ hl.1 (Nat.le_of_ble_eq_true rfl) d_law_12 (fun w1 H locs hw h => ?_)
  obtain ⟨z1, rfl, rfl⟩ := hw
  refine lv_astore_n (lv' := [(2, .ref (z1 0)), (1, .ref (z0 0)), (0, .ref b)]) hx hb d_law_15 rfl hl (by decide) rfl (fun ls hl => ?_)
  refine lv_iconst (v := 0) hx hb d_law_16 (by decide) ?_
  refine lv_istore_n (lv' := [(3, .int 0), (2, .ref (z1 0)), (1, .ref (z0 0)), (0, .ref b)]) hx hb d_law_17 rfl hl (by decide) rfl (fun ls hl => ?_)
  refine W.widen (k := 92) (n := 21533) (Nat.le_of_ble_eq_true rfl) (Nat.le_of_ble_eq_true rfl) ?_
  obtain ⟨hPm, hPx, hDm, hDx, hdis, hS⟩ := (show Wl g (wi_BH g z0 ++ wi_Model g z1) (fun q : Nat => s.heap.size ≤ q) s H locs from h).split
  have hw2 : Wd2 g (fun q : Nat => s.heap.size ≤ q) s (wX g (qX z0) σX0) (wM g (qM z1) σM0) H locs := ⟨hPx.sub _ (eX1 g z0), hPm.sub _ (eM1 g z1), hDx.sub _ (by decide) (eX2 g z0), hDm.sub _ (by decide) (eM2 g z1), fun i j p q hp hq e => by
    obtain ⟨i2, hi2⟩ := sub_mem _ (eX1 g z0) hp
    obtain ⟨j2, hj2⟩ := sub_mem _ (eM1 g z1) hq
    exact hdis j2 i2 q p hj2 hi2 e.symm, hS⟩
  refine law_loop hs C hX hbl hbA ⟨(Nat.le_of_ble_eq_true rfl), (Nat.le_of_ble_eq_true rfl)⟩ hL (fun H locs ls hS => ?_) (L + 7) 0 (by omega) (by omega) (qX z0) σX0 (qM z1) σM0 H locs ls hR0 hw2 (lv_sub hl [3, 2, 1, 0] rfl)
  refine lv_iconst (v := 1) hx hb d_law_1205 (by decide) ?_
  refine va_forget (fun q hq => hS.2.2 q hq) ?_
  refine W.widen (k := 600000) (n := 7302249) (Nat.le_of_ble_eq_true rfl) (Nat.le_of_ble_eq_true rfl) ?_
  exact lw_ret hx hb hr hlocks d_law_1206
