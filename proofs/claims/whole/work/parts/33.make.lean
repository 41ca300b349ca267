theorem k125 : Jvm.Cond.instanceMethod ({ cls := "java/lang/Object", name := "<init>", desc := "()V" } : Jvm.MethodName) ∈ tb := sub1 (List.mem_of_getElem? (l := tables_1_1) (i := 25) rfl) rfl
theorem k126 : Jvm.Cond.code ({ cls := "java/lang/Object", name := "<init>", desc := "()V" } : Jvm.MethodName) object_method_1_code (1 : Nat) (Option.none : Option Jvm.ClassFile.FieldType) ∈ tb := sub1 (List.mem_of_getElem? (l := tables_1_1) (i := 26) rfl) rfl
theorem k142 : Jvm.Cond.arrayClass Jvm.ClassFile.FieldType.int ∈ tb := sub1 (List.mem_of_getElem? (l := tables_1_1) (i := 42) rfl) rfl
theorem k504 : Jvm.Cond.arrayClass Jvm.ClassFile.FieldType.long ∈ tb := sub2 (List.mem_of_getElem? (l := tables_1_2) (i := 164) rfl) rfl
theorem k1341 : Jvm.Cond.arrayClass Jvm.ClassFile.FieldType.char ∈ tb := sub6 (List.mem_of_getElem? (l := tables_1_6) (i := 41) rfl) rfl
-- ===== constructors: contracts that make cells =====
def rmA (n mc ms : Nat) : Room := { frames := n, cells := mc, slots := ms, locals := 40 * n }
def dSt : St := (fun _ => 0, fun _ => 0, fun _ _ => 0, fun _ _ => 0)
def qA (g : GX) (post : va_W → Prop) (A : Nat → Prop) : Array Value → State → Outcome → State → Prop := fun _ st oc t => (oc = .returned none ∧ ∃ w1, post w1 ∧ va_P g.1 vwCl w1 t.heap ∧ va_K g.1 vwCl (tyG g) t ∧ va_D A w1) ∧ va_F A st t
/-- from the world w0: the constructor returns, and leaves a world of which 'post' holds; mc cells of ms slots come -/
def KA (l : Launch) (y : MethodName) (by_ : ByteArray) (nL n mc ms : Nat) (g : GX) (w0 : va_W) (vs : List Value) (post : va_W → Prop) : Prop :=
  ∀ sz : Nat, Met l y (Cond.code y by_ nL none :: tb) (rmA n mc ms) (preK g (fun _ => w0) dSt sz vs) (qA g post (va_A w0 sz)) mc ms (va_A w0 sz)
def Wl (g : GX) (ws : va_W) (A : Nat → Prop) (s : State) (H : Heap) (locs : List Loc) : Prop := va_P g.1 vwCl ws H ∧ va_D A ws ∧ va_S A s.heap H locs
theorem KA_of {l : Launch} {y : MethodName} {by_ : ByteArray} {nL n mc ms : Nat} {g : GX} {w0 : va_W} {vs : List Value} {post : va_W → Prop} (hy : plainFor y = true) (hvs : (lg_sl vs).length ≤ nL)
    (body : ∀ (p : Program) (e : Env) (s : State) (m : MethodId) (below : List Frame) (meth : Method) (c : Code) (A : Nat → Prop) (ls : Array Slot), Cx g A p s m vs.toArray meth c by_ nL y.cls none → meth.name = y.name → Wl g w0 A s s.heap [] → lv_has ls nL (lv_args 0 vs) →
      W p l e (rmA n mc ms) s m vs.toArray below meth c s.heap [] 0 0 (MQ below (qA g post A) vs.toArray s mc ms A) (F0 m 0 ls [])) : KA l y by_ nL n mc ms g w0 vs post := by
  intro sz
  refine met_ofWF (cc := by_) (maxL := nL) (ret := none) hy rfl ?_
  intro p e s m args below meth c s₁ B hml hv
  obtain ⟨rfl, hsz, hP, hK, hD0, hZ, hN⟩ := hv
  subst hsz
  have hts : ∀ x ∈ tb, x.before vs.toArray s = true := fun x hx => atoms_spec (ws := Cond.code y by_ nL none :: tb) B.pre x (List.mem_cons_of_mem _ hx)
  have hl := lv_entry vs (n := nL) hvs
  rw [lg_entry_eq]
  exact body p e s m below meth c _ _ ⟨B.exec, B.bytes, hml, findClass_of_methodNamed B.named, hts, hK, fun q h => Or.inr h, hZ, B.notSynchronized, B.returns, hN⟩ (name_of_methodNamed B.named B.method).1 ⟨hP, hD0.self (sz := s.heap.size), va_S.rf⟩ hl
section MAKE
variable {p : Program} {l : Launch} {e : Env} {R : Room} {s : State} {m : MethodId} {av : Array Value} {below : List Frame} {meth : Method} {c : Code} {H : Heap} {locs : List Loc} {cells slots : Nat} {Q : State → Prop}
variable {g : GX} {ws : va_W} {A : Nat → Prop} {cc : ByteArray} {nL : Nat} {own : String} {ret0 : Option FieldType} {pc : Nat} {ls : Array Slot} {rest : List Value}
theorem k_init (C : Cx g A p s m av meth c cc nL own ret0) {idx a : Nat} (hsz : ls.size = nL) (hlink : Cond.methodLink own idx objectInit ∈ tb) (hdg : decode cc pc = .ok (.invokespecial idx, 3)) (hf : 1 ≤ R.frames) (hlo : 12 ≤ R.locals)
    (kk : W p l e R s m av below meth c H locs cells slots Q (F0 m (pc + 3) ls [])) : W p l e R s m av below meth c H locs cells slots Q (F0 m pc ls [.ref a]) := by
  obtain ⟨hx, hb, hml, hown, hts, hK, hA, hZ, hlocks, hr, hN⟩ := C
  exact W.objInit hx hb hown (hts _ hlink) (hts _ k125) (hts _ k126) rfl (by rw [hml]; exact hsz) (rest := []) rfl hdg hf hlo kk
theorem k_newi (C : Cx g A p s m av meth c cc nL own ret0) (h : Wl g ws A s H locs) {n : Int32} {N : Nat} (hn : ¬ n < 0) (hN : n.toNatClampNeg = N) (hby : N * 4 ≤ 536870912) (hc : cells + 1 ≤ R.cells) (hs : slots + N ≤ R.slots) (hdg : decode cc pc = .ok (.newarray .int, 2))
    (kk : ∀ (q : Nat) (H1 : Heap), Wl g (ws ++ [(q, .inl (g.2.1.1, N, .inl (fun _ => 0)))]) A s H1 locs → W p l e R s m av below meth c H1 locs (cells + 1) (slots + N) Q (F0 m (pc + 2) ls (.ref q :: rest))) : W p l e R s m av below meth c H locs cells slots Q (F0 m pc ls (.int n :: rest)) := by
  obtain ⟨hx, hb, hml, hown, hts, hK, hA, hZ, hlocks, hr, hNn⟩ := C
  refine va_newa (atype := .int) (ty := .int) hx hb (hts _ k142) rfl hK h.1 h.2.1 h.2.2 hA (a0 := (N, .inl (fun _ => 0))) (fun cA => rfl) hn hN hby hc hs hdg (fun q cA H1 hK1 hP1 hD1 hS1 => ?_)
  have e1 : s.vm.findClass ("[" ++ FieldType.int.toString) = some cA := (hK1.2 3 (cA, .int) rfl).2
  have e2 : s.vm.findClass ("[" ++ FieldType.int.toString) = some g.2.1.1 := (hK.2 0 (g.2.1.1, .int) rfl).2
  cases e1.symm.trans e2
  exact kk q H1 ⟨hP1, hD1, hS1⟩
theorem k_newj (C : Cx g A p s m av meth c cc nL own ret0) (h : Wl g ws A s H locs) {n : Int32} {N : Nat} (hn : ¬ n < 0) (hN : n.toNatClampNeg = N) (hby : N * 8 ≤ 536870912) (hc : cells + 1 ≤ R.cells) (hs : slots + N ≤ R.slots) (hdg : decode cc pc = .ok (.newarray .long, 2))
    (kk : ∀ (q : Nat) (H1 : Heap), Wl g (ws ++ [(q, .inl (g.2.1.2.1, N, .inr (.inl (fun _ => 0))))]) A s H1 locs → W p l e R s m av below meth c H1 locs (cells + 1) (slots + N) Q (F0 m (pc + 2) ls (.ref q :: rest))) : W p l e R s m av below meth c H locs cells slots Q (F0 m pc ls (.int n :: rest)) := by
  obtain ⟨hx, hb, hml, hown, hts, hK, hA, hZ, hlocks, hr, hNn⟩ := C
  refine va_newa (atype := .long) (ty := .long) hx hb (hts _ k504) rfl hK h.1 h.2.1 h.2.2 hA (a0 := (N, .inr (.inl (fun _ => 0)))) (fun cA => rfl) hn hN hby hc hs hdg (fun q cA H1 hK1 hP1 hD1 hS1 => ?_)
  have e1 : s.vm.findClass ("[" ++ FieldType.long.toString) = some cA := (hK1.2 3 (cA, .long) rfl).2
  have e2 : s.vm.findClass ("[" ++ FieldType.long.toString) = some g.2.1.2.1 := (hK.2 1 (g.2.1.2.1, .long) rfl).2
  cases e1.symm.trans e2
  exact kk q H1 ⟨hP1, hD1, hS1⟩
theorem k_newc (C : Cx g A p s m av meth c cc nL own ret0) (h : Wl g ws A s H locs) {n : Int32} {N : Nat} (hn : ¬ n < 0) (hN : n.toNatClampNeg = N) (hby : N * 2 ≤ 536870912) (hc : cells + 1 ≤ R.cells) (hs : slots + N ≤ R.slots) (hdg : decode cc pc = .ok (.newarray .char, 2))
    (kk : ∀ (q : Nat) (H1 : Heap), Wl g (ws ++ [(q, .inl (g.2.1.2.2, N, .inl (fun _ => 0)))]) A s H1 locs → W p l e R s m av below meth c H1 locs (cells + 1) (slots + N) Q (F0 m (pc + 2) ls (.ref q :: rest))) : W p l e R s m av below meth c H locs cells slots Q (F0 m pc ls (.int n :: rest)) := by
  obtain ⟨hx, hb, hml, hown, hts, hK, hA, hZ, hlocks, hr, hNn⟩ := C
  refine va_newa (atype := .char) (ty := .char) hx hb (hts _ k1341) rfl hK h.1 h.2.1 h.2.2 hA (a0 := (N, .inl (fun _ => 0))) (fun cA => rfl) hn hN hby hc hs hdg (fun q cA H1 hK1 hP1 hD1 hS1 => ?_)
  have e1 : s.vm.findClass ("[" ++ FieldType.char.toString) = some cA := (hK1.2 3 (cA, .char) rfl).2
  have e2 : s.vm.findClass ("[" ++ FieldType.char.toString) = some g.2.1.2.2 := (hK.2 2 (g.2.1.2.2, .char) rfl).2
  cases e1.symm.trans e2
  exact kk q H1 ⟨hP1, hD1, hS1⟩
theorem last_get (ws : va_W) (x : Nat × va_E) : (ws ++ [x])[ws.length]? = some x := by simp
theorem last_set (ws : va_W) (x y : Nat × va_E) : (ws ++ [x]).set ws.length y = ws ++ [y] := by simp
theorem k_casL (C : Cx g A p s m av meth c cc nL own ret0) {q N : Nat} {f : Nat → Int32} (h : Wl g (ws ++ [(q, .inl (g.2.1.2.2, N, .inl f))]) A s H locs) {i x : Int32} (hin : vp_in i N) (hx9 : vp_nar .char x = x) (hdg : decode cc pc = .ok (.castore, 1))
    (kk : ∀ (H1 : Heap) (locs1 : List Loc), Wl g (ws ++ [(q, .inl (g.2.1.2.2, N, .inl (upd f i.toNatClampNeg x)))]) A s H1 locs1 → W p l e R s m av below meth c H1 locs1 cells slots Q (F0 m (pc + 1) ls rest)) : W p l e R s m av below meth c H locs cells slots Q (F0 m pc ls (.int x :: .int i :: .ref q :: rest)) := by
  obtain ⟨hx, hb, hml, hown, hts, hK, hA, hZ, hlocks, hr, hNn⟩ := C
  refine va_cast hx hb hK h.1 h.2.1 h.2.2 ws.length 2 (last_get ws _) rfl hin hdg (fun H1 locs1 hP hD hS => ?_)
  rw [last_set, hx9] at hP hD
  exact kk H1 locs1 ⟨hP, hD, hS⟩
theorem k_iasL (C : Cx g A p s m av meth c cc nL own ret0) {q N : Nat} {f : Nat → Int32} (h : Wl g (ws ++ [(q, .inl (g.2.1.1, N, .inl f))]) A s H locs) {i x : Int32} (hin : vp_in i N) (hdg : decode cc pc = .ok (.iastore, 1))
    (kk : ∀ (H1 : Heap) (locs1 : List Loc), Wl g (ws ++ [(q, .inl (g.2.1.1, N, .inl (upd f i.toNatClampNeg x)))]) A s H1 locs1 → W p l e R s m av below meth c H1 locs1 cells slots Q (F0 m (pc + 1) ls rest)) : W p l e R s m av below meth c H locs cells slots Q (F0 m pc ls (.int x :: .int i :: .ref q :: rest)) := by
  obtain ⟨hx, hb, hml, hown, hts, hK, hA, hZ, hlocks, hr, hNn⟩ := C
  refine va_iast hx hb hK h.1 h.2.1 h.2.2 ws.length 0 (last_get ws _) rfl hin hdg (fun H1 locs1 hP hD hS => ?_)
  rw [last_set] at hP hD
  exact kk H1 locs1 ⟨hP, hD, hS⟩
theorem Wl.split {wa wb : va_W} (h : Wl g (wa ++ wb) A s H locs) : Wd2 g A s wb wa H locs := by
  have ga : ∀ (k : Nat) (q : Nat × va_E), wa[k]? = some q → (wa ++ wb)[k]? = some q := fun k q hk => by rw [List.getElem?_append_left (List.getElem?_eq_some_iff.mp hk).1]; exact hk
  have gb : ∀ (k : Nat) (q : Nat × va_E), wb[k]? = some q → (wa ++ wb)[wa.length + k]? = some q := fun k q hk => by rw [List.getElem?_append_right (by omega)]; simpa using hk
  exact ⟨fun k q hk => h.1 _ q (gb k q hk), fun k q hk => h.1 k q (ga k q hk), ⟨fun i j p q hp hq e => by have := h.2.1.1 _ _ _ _ (gb i p hp) (gb j q hq) e; omega, fun k q hk => h.2.1.2 _ q (gb k q hk)⟩, ⟨fun i j p q hp hq e => h.2.1.1 _ _ _ _ (ga i p hp) (ga j q hq) e, fun k q hk => h.2.1.2 _ q (ga k q hk)⟩, fun i j p q hp hq e => by
    have h1 := h.2.1.1 _ _ _ _ (gb i p hp) (ga j q hq) e
    have h2 := (List.getElem?_eq_some_iff.mp hq).1
    omega, h.2.2⟩
theorem Wd2.joinL {wa wb : va_W} (h : Wd2 g A s wb wa H locs) : Wl g (wa ++ wb) A s H locs := ⟨h.2.1.app h.1, h.2.2.2.1.app h.2.2.1 (fun i j p q hp hq e => h.2.2.2.2.1 j i q p hq hp e.symm), h.2.2.2.2.2⟩
end MAKE
def CalI (y : MethodName) (bytes : ByteArray) (nL : Nat) : Prop :=
  (Cond.code y bytes nL none ∈ tb ∧ Cond.initialized y.cls ∈ tb ∧ (y.cls ≠ "java/lang/invoke/MethodHandle" ∧ y.cls ≠ "java/lang/invoke/VarHandle" ∧ (parseMethodDescriptor y.desc).map (fun d => d.parameters.length) = some 0) ∧ nL ≤ 21) ∧ Cond.instanceMethod y ∈ tb ∧ y.name = "<init>"
section MAKE2
variable {p : Program} {l : Launch} {e : Env} {R : Room} {s : State} {m : MethodId} {av : Array Value} {below : List Frame} {meth : Method} {c : Code} {H : Heap} {locs : List Loc} {cells slots : Nat} {Q : State → Prop}
variable {g : GX} {ws : va_W} {A : Nat → Prop} {cc : ByteArray} {nL : Nat} {own : String} {ret0 : Option FieldType} {pc : Nat} {ls : Array Slot} {rest : List Value}
variable {y : MethodName} {bytes : ByteArray} {nL1 n1 mc ms index : Nat} {b : Nat} {x : va_E} {post : va_W → Prop}
theorem k_callA_go (C : Cx g A p s m av meth c cc nL own ret0) (h : Wl g (ws ++ [(b, x)]) A s H locs)
    (hrun : va_Run p l e R s m av below meth c H locs cells slots mc ms (F0 m pc ls (.ref b :: rest)) rest (qA g post (va_A [(b, x)] H.size) #[Value.ref b]) (va_A [(b, x)] H.size))
    (kk : ∀ (w1 : va_W) (H1 : Heap) (locs1 : List Loc), post w1 → Wl g (ws ++ w1) A s H1 locs1 → W p l e R s m av below meth c H1 locs1 (cells + mc) (slots + ms) Q (F0 m (pc + 3) ls rest)) : W p l e R s m av below meth c H locs cells slots Q (F0 m pc ls (.ref b :: rest)) := by
  obtain ⟨hx, hb, hml, hown, hts, hK, hA, hZ, hlocks, hr, hN⟩ := C
  obtain ⟨hPa, hPb, hDa, hDb, hab, hS⟩ := h.split
  have h1 : Wd g (fun _ => [(b, x)]) A s dSt H locs := ⟨hPa, hDa, hS⟩
  have hsub : ∀ q, va_A [(b, x)] H.size q → A q := h1.sub hA
  intro T hT X
  obtain ⟨v, st₀, t, T', L, h0, X', hL, e1, e2, ⟨⟨hv, w1, hpost, hP1, hK1, hD1⟩, hz, hk⟩, st⟩ := hrun T hT X
  cases hv
  rw [h0] at hz hk
  have hbout : ∀ (j : Nat) (z : Nat × va_E), ws[j]? = some z → z.1 < H.size ∧ ¬ va_A [(b, x)] H.size z.1 := fun j z hj => by
    have hlt := va_at_lt (hPb j z hj)
    refine ⟨hlt, fun u => ?_⟩
    rcases u with ⟨k, ex, hk1⟩ | u
    · exact hab k j _ _ hk1 hj rfl
    · exact absurd hlt (Nat.not_lt.mpr u)
  obtain ⟨t2, a1, b1⟩ := kk w1 T'.heap (locs ++ L) hpost (Wd2.joinL ⟨by rw [e1]; exact hP1, fun j z hj => va_at_same (hPb j z hj) (by rw [e1]; exact hk z.1 (hbout j z hj).1 (hbout j z hj).2),
    hD1.weaken (fun k z hz _ => hsub z.1 (hD1.2 k z hz)), hDb, fun i j p' q' hp hq z => (hbout j q' hq).2 (z ▸ hD1.2 i p' hp),
    Nat.le_trans hS.1 (by rw [e1]; exact hz), fun q h1 h2 => by rw [e1, hk q (Nat.lt_of_lt_of_le h1 hS.1) (fun z => h2 (hsub q z))]; exact hS.2.1 q h1 h2, fun q hq => by
      rcases List.mem_append.mp hq with z | z
      · exact hS.2.2 q z
      · exact hsub _ (hL q z)⟩) T' rfl X'
  exact ⟨t2, st t2 a1, b1⟩
theorem k_callA (C : Cx g A p s m av meth c cc nL own ret0) (h : Wl g (ws ++ [(b, x)]) A s H locs) (hM : KA l y bytes nL1 n1 mc ms g [(b, x)] [.ref b] post) (hc : CalI y bytes nL1) (hl : Cond.methodLink own index y ∈ tb)
    (hn : n1 + 1 ≤ R.frames) (hn2 : 40 + 40 * n1 ≤ R.locals) (hcs : cells + mc ≤ R.cells ∧ slots + ms ≤ R.slots) (hsz : ls.size = nL) (hw : (rest.map fun v => v.category).sum ≤ 8) (hdg : decode cc pc = .ok (.invokespecial index, 3))
    (kk : ∀ (w1 : va_W) (H1 : Heap) (locs1 : List Loc), post w1 → Wl g (ws ++ w1) A s H1 locs1 → W p l e R s m av below meth c H1 locs1 (cells + mc) (slots + ms) Q (F0 m (pc + 3) ls rest)) : W p l e R s m av below meth c H locs cells slots Q (F0 m pc ls (.ref b :: rest)) := by
  refine k_callA_go C h ?_ kk
  obtain ⟨hx, hb, hml, hown, hts, hK, hA, hZ, hlocks, hr, hN⟩ := C
  obtain ⟨hPa, hPb, hDa, hDb, hab, hS⟩ := h.split
  have h1 : Wd g (fun _ => [(b, x)]) A s dSt H locs := ⟨hPa, hDa, hS⟩
  exact va_runI (As := []) (rest := rest) (b := b) (Ts := tb) ⟨hx, hb, hml, hown, hts⟩ (hM H.size) (cwI 0 hts (tb_good hc.1.1) rfl rfl rfl (hts _ hc.1.2.1) (hts _ hl) (hts _ hc.2.1) hc.2.2 hc.1.2.2.1 ⟨hn, by have := hc.1.2.2.2; show 8 + (nL1 + 11) + 40 * n1 ≤ R.locals; omega⟩) ⟨preK_blind _ _ _ _ _, h1.pre hK hA hZ hN [.ref b]⟩ rfl rfl hsz rfl (lv_room hw) hdg hcs
theorem k_callAN {host : String} (C : Cx g A p s m av meth c cc nL own ret0) (h : Wl g (ws ++ [(b, x)]) A s H locs) (hM : KA l y bytes nL1 n1 mc ms g [(b, x)] [.ref b] post) (hc : CalI y bytes nL1) (hl : (own, index, y, host) ∈ nestM)
    (hn : n1 + 1 ≤ R.frames) (hn2 : 40 + 40 * n1 ≤ R.locals) (hcs : cells + mc ≤ R.cells ∧ slots + ms ≤ R.slots) (hsz : ls.size = nL) (hw : (rest.map fun v => v.category).sum ≤ 8) (hdg : decode cc pc = .ok (.invokespecial index, 3))
    (kk : ∀ (w1 : va_W) (H1 : Heap) (locs1 : List Loc), post w1 → Wl g (ws ++ w1) A s H1 locs1 → W p l e R s m av below meth c H1 locs1 (cells + mc) (slots + ms) Q (F0 m (pc + 3) ls rest)) : W p l e R s m av below meth c H locs cells slots Q (F0 m pc ls (.ref b :: rest)) := by
  refine k_callA_go C h ?_ kk
  obtain ⟨hx, hb, hml, hown, hts, hK, hA, hZ, hlocks, hr, hN⟩ := C
  obtain ⟨hPa, hPb, hDa, hDb, hab, hS⟩ := h.split
  have h1 : Wd g (fun _ => [(b, x)]) A s dSt H locs := ⟨hPa, hDa, hS⟩
  exact va_runIN (As := []) (rest := rest) (b := b) (Ts := tb) ⟨hx, hb, hml, hown, hts⟩ (hM H.size) ⟨va_cnB 0 hts (tb_good hc.1.1) rfl rfl rfl (hN.1.2 _ hl) (hts _ hc.1.2.1) hc.1.2.2.1 ⟨hn, by have := hc.1.2.2.2; show 8 + (nL1 + 11) + 40 * n1 ≤ R.locals; omega⟩, hc.2.2, hts _ hc.2.1⟩ ⟨preK_blind _ _ _ _ _, h1.pre hK hA hZ hN [.ref b]⟩ rfl rfl hsz rfl (lv_room hw) hdg hcs
theorem k_vretA {n : Nat} (C : Cx g A p s m av meth c cc nL own none) (h : Wl g ws A s H locs) (hpost : post ws) (hdg : decode cc pc = .ok (.return_, 1)) : W p l e (rmA n mc ms) s m av below meth c H locs mc ms (MQ below (qA g post A) av s mc ms A) (F0 m pc ls []) := by
  obtain ⟨hx, hb, hml, hown, hts, hK, hA, hZ, hlocks, hr, hN⟩ := C
  exact W.vret hx hb hr (fun t ht hW => ⟨⟨rfl, ws, hpost, by rw [ht]; exact h.1, va_K.moved hW.alike hK, h.2.1⟩, h.2.2.F ht⟩) h.2.2.2.2 hdg hlocks
end MAKE2
