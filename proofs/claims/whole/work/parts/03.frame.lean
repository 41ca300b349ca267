-- ===== states, and the one form of contract =====
abbrev St : Type := (Nat → Int32) × (Nat → Int64) × (Nat → Nat → Int32) × (Nat → Nat → Int64)
def sI (σ : St) (k : Nat) : Int32 := σ.1 k
def sJ (σ : St) (k : Nat) : Int64 := σ.2.1 k
def sA (σ : St) (k : Nat) : Nat → Int32 := σ.2.2.1 k
def sB (σ : St) (k : Nat) : Nat → Int64 := σ.2.2.2 k
def uI (σ : St) (k : Nat) (v : Int32) : St := (va_up σ.1 k v, σ.2)
def uJ (σ : St) (k : Nat) (v : Int64) : St := (σ.1, va_up σ.2.1 k v, σ.2.2)
def uA (σ : St) (k : Nat) (f : Nat → Int32) : St := (σ.1, σ.2.1, va_up σ.2.2.1 k f, σ.2.2.2)
def uB (σ : St) (k : Nat) (f : Nat → Int64) : St := (σ.1, σ.2.1, σ.2.2.1, va_up σ.2.2.2 k f)
-- the words of the functions that the methods are
def lt {α β : Type} (e : α) (k : α → β) : β := k e
def gd {β : Type} (b : Bool) (k : Option β) : Option β := if b then k else none
def bd {α β : Type} (o : Option (α × St)) (k : α → St → Option β) : Option β := match o with
  | some x => k x.1 x.2
  | none => none
def bp {α β : Type} (o : Option α) (k : α → Option β) : Option β := match o with
  | some x => k x
  | none => none
def inB (i : Int32) (n : Nat) : Bool := !(decide (i < 0)) && decide (i.toNatClampNeg < n)
def isB (r : Int32) : Bool := decide (r = 0) || decide (r = 1)
def FU : Nat := 100000
theorem lt_e {α β : Type} {x e : α} {k : α → β} {y : β} (h : x = e) (hf : lt e k = y) : k x = y := by subst h; exact hf
theorem gd_e {β : Type} {b : Bool} {k : Option β} {y : β} (h : gd b k = some y) : b = true ∧ k = some y := by
  unfold gd at h
  split at h
  · rename_i hb; exact ⟨hb, h⟩
  · cases h
theorem bd_e {α β : Type} {o : Option (α × St)} {k : α → St → Option β} {y : β} (h : bd o k = some y) : ∃ (r : α) (σ : St), o = some (r, σ) ∧ k r σ = some y := by
  unfold bd at h
  split at h
  · rename_i x; exact ⟨x.1, x.2, rfl, h⟩
  · cases h
theorem bp_e {α β : Type} {o : Option α} {k : α → Option β} {y : β} (h : bp o k = some y) : ∃ (r : α), o = some r ∧ k r = some y := by
  unfold bp at h
  split at h
  · rename_i x; exact ⟨x, rfl, h⟩
  · cases h
theorem it_e {c : Prop} [Decidable c] {β : Type} {a b y : β} (h : c) (hf : (if c then a else b) = y) : a = y := (if_pos h).symm.trans hf
theorem if_e {c : Prop} [Decidable c] {β : Type} {a b y : β} (h : ¬ c) (hf : (if c then a else b) = y) : b = y := (if_neg h).symm.trans hf
theorem in_e {i : Int32} {n : Nat} (h : inB i n = true) : vp_in i n := by
  unfold inB at h
  simp only [Bool.and_eq_true, Bool.not_eq_true', decide_eq_false_iff_not, decide_eq_true_eq] at h
  exact fun q => q.elim h.1 (fun q => absurd h.2 (Nat.not_lt.mpr q))
theorem isB_e {r : Int32} (h : isB r = true) : narrow .boolean (.int r) = .int r ∧ fits .boolean (.int r) = true := by
  unfold isB at h
  simp only [Bool.or_eq_true, decide_eq_true_eq] at h
  rcases h with rfl | rfl <;> exact ⟨rfl, rfl⟩
theorem some_e {α : Type} {x y : α} (h : some x = some y) : x = y := Option.some.inj h
theorem some2_e {α β : Type} {x x' : α} {y y' : β} (h : some (x, y) = some (x', y')) : x = x' ∧ y = y' := Prod.mk.inj (Option.some.inj h)
def rmv (n : Nat) : Room := { frames := n, cells := 0, slots := 0, locals := 40 * n }
abbrev GX : Type := va_G × (ClassId × ClassId × ClassId) × (Nat → Nat)
abbrev tyG (g : GX) : List (ClassId × FieldType) := [(g.2.1.1, .int), (g.2.1.2.1, .long), (g.2.1.2.2, .char)]
def stTab : List (String × String × List Int32) := [("BellHammer", "TRAIT_LEAST", [1, 0, 0, 0, 0]), ("BellHammer", "TRAIT_MOST", [99, 5, 20, 99, 99]), ("BellHammer", "SETTING_UNTOLD", [50, 20, 1, 3, 0, 3, 3, 1, 0]), ("BellHammer", "SETTING_LEAST", [1, 0, 1, 1, 0, 0, 0, 0, 0]), ("BellHammer", "SETTING_MOST", [99, 90, 9, 4, 99, 20, 9, 9, 9]), ("BellHammer$Words", "OF_SETTING", [11, 14, 12, 13, 15, 16]), ("BellHammer$Words", "OF_FACT", [15, 18, 19, 8, 20, 6])]
def sBytes : List Int32 := [109, 97, 114, 107, 32, 32, 97, 116, 32, 32, 32, 32, 116, 114, 105, 101, 114, 32, 102, 111, 114, 99, 101, 32, 97, 105, 109, 32, 32, 32, 116, 105, 114, 101, 115, 32, 99, 111, 105, 110, 115, 32, 115, 116, 97, 121, 115, 32, 108, 97, 100, 121, 32, 32, 108, 101, 97, 110, 32, 32, 119, 104, 101, 110, 32, 32, 98, 101, 108, 108, 32, 32, 112, 114, 105, 99, 101, 32, 116, 114, 105, 101, 115, 32, 115, 108, 97, 99, 107, 32, 99, 114, 111, 119, 100, 32, 110, 101, 97, 114, 32, 32, 99, 111, 109, 101, 115, 32, 116, 114, 105, 101, 100, 32, 108, 97, 115, 116, 32, 32, 114, 105, 110, 103, 115, 32, 111, 114, 32, 32, 32, 32, 97, 110, 100, 32, 32, 32, 110, 111, 116, 32, 32, 32, 97, 108, 108, 32, 32, 32, 109, 105, 110, 32, 32, 32, 109, 97, 120, 32, 32, 32]
def sText : String := "mark  at    trier force aim   tires coins stays lady  lean  when  bell  price tries slack crowd near  comes tried last  rings or    and   not   all   min   max   "
def stZ (g : GX) (A : Nat → Prop) (U : State) (H : Heap) : Prop := (∀ (k : Nat) (x : String × String × List Int32), stTab[k]? = some x → va_Z x.1 x.2.1 "[I" (.ref (g.2.2 k)) A U H ∧ va_T .int (g.2.2 k) x.2.2.length (fun j => .int (x.2.2.getD j 0)) A U H ∧ va_X (g.2.2 k) x.2.2.length (fun j => x.2.2.getD j 0) U H) ∧ vk_S 1 [162] [sBytes] (fun _ => g.2.2 100) (fun _ => g.2.2 101) A U H ∧ va_Z "java/lang/String" "COMPACT_STRINGS" "Z" (.int 1) A U H ∧ va_Zq "jdk/internal/util/Preconditions" "SIOOBE_FORMATTER" "Ljava/util/function/BiFunction;" A U H
theorem va_X_moved {b L : Nat} {xs : Nat → Int32} {u U : State} {H : Heap} (hvm : u.vm.Alike U.vm) (h : va_X b L xs u H) : va_X b L xs U H := by
  obtain ⟨scr, h1, h2, h3⟩ := h
  exact ⟨scr, h1, State.isArrayOf_alike hvm h2, h3⟩
theorem va_X_kept {b L : Nat} {xs : Nat → Int32} {A : Nat → Prop} {U : State} {H H1 : Heap} (h : va_X b L xs U H) (hb : ¬ A b) (hq : ∀ a : Nat, a < H.size → ¬ A a → H1[a]? = H[a]?) : va_X b L xs U H1 := by
  obtain ⟨scr, h1, h2⟩ := h
  exact ⟨scr, by rw [hq b (Array.getElem?_eq_some_iff.mp h1).1 hb]; exact h1, h2⟩
theorem va_T_out {ty : FieldType} {t N : Nat} {f : Nat → Value} {A : Nat → Prop} {U : State} {H : Heap} (h : va_T ty t N f A U H) : ¬ A t ∧ t < H.size := by
  obtain ⟨cell, h1, h2, h3, h4, h5, h6, h7⟩ := h
  exact ⟨h7, (Array.getElem?_eq_some_iff.mp h1).1⟩
theorem stZ.moved {g : GX} {A : Nat → Prop} {u U : State} {H : Heap} (hvm : u.vm.Alike U.vm) (h : stZ g A u H) : stZ g A U H := ⟨fun k x hx => ⟨(h.1 k x hx).1.moved hvm, (h.1 k x hx).2.1.moved hvm, va_X_moved hvm (h.1 k x hx).2.2⟩, h.2.1.moved hvm, h.2.2.1.moved hvm, h.2.2.2.moved hvm⟩
theorem stZ.kept {g : GX} {A : Nat → Prop} {U : State} {H H1 : Heap} (h : stZ g A U H) (hq : ∀ a : Nat, a < H.size → ¬ A a → H1[a]? = H[a]?) : stZ g A U H1 := ⟨fun k x hx => ⟨(h.1 k x hx).1.kept hq, (h.1 k x hx).2.1.kept hq, va_X_kept (h.1 k x hx).2.2 (va_T_out (h.1 k x hx).2.1).1 hq⟩, h.2.1.kept hq, h.2.2.1.kept hq, h.2.2.2.kept hq⟩
theorem stZ.narrow {g : GX} {A B : Nat → Prop} {U : State} {H : Heap} (h : stZ g A U H) (hAB : ∀ q, B q → A q) : stZ g B U H := ⟨fun k x hx => ⟨(h.1 k x hx).1.narrow hAB, (h.1 k x hx).2.1.narrow hAB, (h.1 k x hx).2.2⟩, h.2.1.narrow hAB, h.2.2.1.narrow hAB, h.2.2.2.narrow hAB⟩
def nestF : List (String × Nat × String × String × String × String) := [("BellHammer$Fair", 36, "BellHammer", "SETTING_UNTOLD", "[I", "BellHammer"), ("BellHammer$Book", 31, "BellHammer", "SETTING_UNTOLD", "[I", "BellHammer"), ("BellHammer$Parser", 141, "BellHammer", "TRAIT_LEAST", "[I", "BellHammer"), ("BellHammer$Parser", 144, "BellHammer", "TRAIT_MOST", "[I", "BellHammer"), ("BellHammer$Parser", 109, "BellHammer", "SETTING_LEAST", "[I", "BellHammer"), ("BellHammer$Parser", 112, "BellHammer", "SETTING_MOST", "[I", "BellHammer"), ("BellHammer$Book", 93, "BellHammer", "SETTING_LEAST", "[I", "BellHammer"), ("BellHammer$Book", 96, "BellHammer", "SETTING_MOST", "[I", "BellHammer")]
def nestM : List (String × Nat × MethodName × String) := [("BellHammer", 9, ⟨"BellHammer$Tape", "<init>", "()V"⟩, "BellHammer"), ("BellHammer", 18, ⟨"BellHammer$Parser", "<init>", "()V"⟩, "BellHammer"), ("BellHammer", 32, ⟨"BellHammer$Showman", "<init>", "()V"⟩, "BellHammer"), ("BellHammer", 39, ⟨"BellHammer$Turn", "<init>", "()V"⟩, "BellHammer"), ("BellHammer", 46, ⟨"BellHammer$Tree", "<init>", "()V"⟩, "BellHammer"), ("BellHammer$Tree", 13, ⟨"BellHammer$Turn", "<init>", "()V"⟩, "BellHammer"), ("BellHammer$Tree", 20, ⟨"BellHammer$Showman", "<init>", "()V"⟩, "BellHammer"), ("BellHammer$Turn", 80, ⟨"BellHammer", "rise", "(III)I"⟩, "BellHammer")]
/-- links among nest mates: words that a contract can't carry in its list -/
def nsK (g : GX) (U : State) : Prop := ((∀ x ∈ nestF, va_Nw (.fieldLinkNest x.1 x.2.1 x.2.2.1 x.2.2.2.1 x.2.2.2.2.1 x.2.2.2.2.2) U) ∧ ∀ x ∈ nestM, va_Nw (.methodLinkNest x.1 x.2.1 x.2.2.1 x.2.2.2) U) ∧ vk_R "BellHammer$Reader" 20 sText (g.2.2 100) U
theorem nsK.same {g : GX} {u U : State} (h : u.vm = U.vm) (hN : nsK g u) : nsK g U := ⟨⟨fun x hx => (hN.1.1 x hx).same rfl h, fun x hx => (hN.1.2 x hx).same rfl h⟩, hN.2.same h.symm⟩
theorem nsK.warm {g : GX} {s U : State} (hW : s.WarmedH U.vm) (hN : nsK g s) : nsK g U := ⟨⟨fun x hx => (hN.1.1 x hx).warmF hW, fun x hx => (hN.1.2 x hx).warmM hW⟩, hN.2.warm hW⟩
abbrev vwCl : List vw_C := [(RX0, TX0, 13), (RX1, TX1, 12), (RX3, TX3, 4), (RX4, TX4, 8), (RX5, TX5, 2), (RX6, TX6, 2), (RX7, TX7, 13), (RX8, TX8, 13), (RX10, TX10, 13), (RX11, TX11, 82)]
def preK (g : GX) (w : St → va_W) (σ : St) (sz : Nat) (vs : List Value) : Array Value → State → Prop :=
  va_Pc vs (fun U => U.heap.size = sz ∧ va_P g.1 vwCl (w σ) U.heap ∧ va_K g.1 vwCl (tyG g) U ∧ va_D (fun _ => True) (w σ) ∧ stZ g (va_A (w σ) sz) U U.heap ∧ nsK g U)
def aftK (g : GX) (w : St → va_W) (A : Nat → Prop) (σ : St) (t : State) : Prop := va_P g.1 vwCl (w σ) t.heap ∧ va_K g.1 vwCl (tyG g) t ∧ va_D A (w σ)
def qK (rv : Option Value) (B : State → Prop) (A : Nat → Prop) : Array Value → State → Outcome → State → Prop := fun _ st oc t => (oc = .returned rv ∧ B t) ∧ va_F A st t
/-- THE CONTRACT: from the world 'w σ', with arguments vs, method y answers rv and leaves the world 'w2 σ2'; n frames below it at most; nothing is made -/
def KK (l : Launch) (y : MethodName) (by_ : ByteArray) (nL : Nat) (ret : Option FieldType) (n : Nat) (g : GX) (w : St → va_W) (σ : St) (vs : List Value) (rv : Option Value) (w2 : St → va_W) (σ2 : St) : Prop :=
  ∀ sz : Nat, Met l y (Cond.code y by_ nL ret :: tb) (rmv n) (preK g w σ sz vs) (qK rv (aftK g w2 (va_A (w σ) sz) σ2) (va_A (w σ) sz)) 0 0 (va_A (w σ) sz)
/-- the world during a walk -/
def Wd (g : GX) (w : St → va_W) (A : Nat → Prop) (s : State) (σ : St) (H : Heap) (locs : List Loc) : Prop := va_P g.1 vwCl (w σ) H ∧ va_D A (w σ) ∧ va_S A s.heap H locs
/-- what stands during a walk -/
def Cx (g : GX) (A : Nat → Prop) (p : Program) (s : State) (m : MethodId) (av : Array Value) (meth : Method) (c : Code) (cc : ByteArray) (nL : Nat) (own : String) (ret : Option FieldType) : Prop :=
  p.tables.exec = Jvm.exec ∧ c.code = cc ∧ c.maxLocals = nL ∧ s.vm.findClass own = some m.cls ∧ (∀ w ∈ tb, w.before av s = true) ∧ va_K g.1 vwCl (tyG g) s ∧ (∀ q, s.heap.size ≤ q → A q) ∧ stZ g A s s.heap ∧ meth.locks = false ∧ meth.sig.returnType = ret ∧ nsK g s
abbrev WK (p : Program) (l : Launch) (e : Env) (s : State) (m : MethodId) (av : Array Value) (below : List Frame) (meth : Method) (c : Code) (n : Nat) (g : GX) (w2 : St → va_W) (A : Nat → Prop) (rv : Option Value) (σ2 : St) (H : Heap) (locs : List Loc) (fr : JFrame) : Prop :=
  W p l e (rmv n) s m av below meth c H locs 0 0 (MQ below (qK rv (aftK g w2 A σ2) A) av s 0 0 A) fr
theorem met_ofWF {l : Launch} {y : MethodName} {ws ws' : List Cond} {rm : Room} {Pc : Array Value → State → Prop} {Qc : Array Value → State → Outcome → State → Prop} {mc ms : Nat} {free : Addr → Prop} {cc : ByteArray} {maxL : Nat} {ret : Option FieldType}
    (hy : plainFor y = true) (hw : ws = Cond.code y cc maxL ret :: ws')
    (body : ∀ p e s m args below meth c s₁, BodyLoose p l y (headSpec ws rm) cc maxL ret e s m args below meth c s₁ → c.maxLocals = maxL → Pc args s →
      W p l e (headSpec ws rm).room s m args below meth c s.heap [] 0 0 (MQ below Qc args s mc ms free) (entryFrame m args maxL)) : Met l y ws rm Pc Qc mc ms free := by
  refine MetFree.of_bodySF (code := cc) (maxLocals := maxL) (ret := ret) hy ?_ ?_
  · intro args s m h hn
    obtain ⟨meth, c, h1, h2, h3, h4, h5, h6, -, -⟩ := Cond.code_spec hn (atoms_spec (ws := ws) h _ (by rw [hw]; exact List.mem_cons_self))
    exact ⟨meth, c, h1, h2, h3, h4, h5, h6⟩
  · intro p e s m args below meth c s₁ B hml hP _
    have hh0 : s₁.heap = s.heap := by rw [B.state]; rfl
    obtain ⟨t, a1, o, b1, b2, b3⟩ := body p e s m args below meth c s₁ B hml hP s₁ hh0 (Stand.of_body B)
    exact ⟨t, o, a1, b1, b2, ⟨b3.1, b3.2⟩⟩
theorem KK_of {l : Launch} {y : MethodName} {by_ : ByteArray} {nL : Nat} {ret : Option FieldType} {n : Nat} {g : GX} {w : St → va_W} {σ : St} {vs : List Value} {rv : Option Value} {w2 : St → va_W} {σ2 : St} (hy : plainFor y = true) (hvs : (lg_sl vs).length ≤ nL)
    (body : ∀ (p : Program) (e : Env) (s : State) (m : MethodId) (below : List Frame) (meth : Method) (c : Code) (A : Nat → Prop) (ls : Array Slot), Cx g A p s m vs.toArray meth c by_ nL y.cls ret → Wd g w A s σ s.heap [] → lv_has ls nL (lv_args 0 vs) →
      WK p l e s m vs.toArray below meth c n g w2 A rv σ2 s.heap [] (F0 m 0 ls [])) : KK l y by_ nL ret n g w σ vs rv w2 σ2 := by
  intro sz
  refine met_ofWF (cc := by_) (maxL := nL) (ret := ret) hy rfl ?_
  intro p e s m args below meth c s₁ B hml hv
  obtain ⟨rfl, hsz, hP, hK, hD0, hZ, hN⟩ := hv
  subst hsz
  have hts : ∀ x ∈ tb, x.before vs.toArray s = true := fun x hx => atoms_spec (ws := Cond.code y by_ nL ret :: tb) B.pre x (List.mem_cons_of_mem _ hx)
  have hl := lv_entry vs (n := nL) hvs
  rw [lg_entry_eq]
  exact body p e s m below meth c _ _ ⟨B.exec, B.bytes, hml, findClass_of_methodNamed B.named, hts, hK, fun q h => Or.inr h, hZ, B.notSynchronized, B.returns, hN⟩ ⟨hP, hD0.self (sz := s.heap.size), va_S.rf⟩ hl
theorem preK_blind (g : GX) (w : St → va_W) (σ : St) (sz : Nat) (vs : List Value) : FrameBlind (preK g w σ sz vs) := fun a U f mk q => by
  obtain ⟨q0, q1, qP, qK, qD, qZ, qN⟩ := q
  exact ⟨q0, q1, qP, va_K.moved (u := U) (U := U.calling f mk a) (Vm.Alike.refl U.vm) qK, qD, qZ.moved (u := U) (U := U.calling f mk a) (Vm.Alike.refl U.vm), qN.same (u := U) (U := U.calling f mk a) rfl⟩
section CALLS
variable {p : Program} {l : Launch} {e : Env} {R : Room} {s : State} {m : MethodId} {av : Array Value} {below : List Frame} {meth : Method} {c : Code} {H : Heap} {locs : List Loc} {cells slots : Nat} {Q : State → Prop}
variable {g : GX} {w w2 : St → va_W} {A : Nat → Prop} {σ σ2 : St} {cc : ByteArray} {nL : Nat} {own : String} {ret0 : Option FieldType}
theorem Wd.sub (hA : ∀ q, s.heap.size ≤ q → A q) (h : Wd g w A s σ H locs) : ∀ q, va_A (w σ) H.size q → A q := fun q hq => by
  rcases hq with ⟨k, x, hk⟩ | hq
  · exact h.2.1.2 k _ hk
  · exact hA q (Nat.le_trans h.2.2.1 hq)
theorem Wd.pre (hK : va_K g.1 vwCl (tyG g) s) (hA : ∀ q, s.heap.size ≤ q → A q) (hZ : stZ g A s s.heap) (hN : nsK g s) (h : Wd g w A s σ H locs) (vs : List Value) : ∀ U : State, U.heap = H → s.WarmedH U.vm → preK g w σ H.size vs vs.toArray U := fun U hU hW =>
  ⟨rfl, by rw [hU], by rw [hU]; exact h.1, va_K.moved hW.alike hK, h.2.1.weaken (fun _ _ _ _ => trivial), by
    rw [hU]
    exact ((hZ.kept h.2.2.2.1).moved hW.alike).narrow (h.sub hA), hN.warm hW⟩
theorem call_go {rv : Option Value} {st0 rest : List Value} {pc : Nat} {ls : Array Slot} {a : Array Value}
    (hr : va_Run p l e R s m av below meth c H locs cells slots 0 0 (F0 m pc ls st0) rest (qK rv (aftK g w2 (va_A (w σ) H.size) σ2) (va_A (w σ) H.size) a) (va_A (w σ) H.size))
    (hA : ∀ q, s.heap.size ≤ q → A q) (h : Wd g w A s σ H locs)
    (kk : ∀ (H1 : Heap) (locs1 : List Loc), Wd g w2 A s σ2 H1 locs1 → W p l e R s m av below meth c H1 locs1 cells slots Q (F0 m (pc + 3) ls (rv.toList ++ rest))) : W p l e R s m av below meth c H locs cells slots Q (F0 m pc ls st0) := by
  intro T hT X
  obtain ⟨v, st₀, t, T', L, h0, X', hL, e1, e2, ⟨⟨hv, hb⟩, hz, hk⟩, st⟩ := hr T hT X
  cases hv
  rw [h0] at hz hk
  have hsub := h.sub hA
  obtain ⟨hP1, hK1, hD1⟩ := hb
  obtain ⟨t2, a1, b1⟩ := kk T'.heap (locs ++ L) ⟨by rw [e1]; exact hP1, hD1.weaken (fun k x hx _ => hsub x.1 (hD1.2 k x hx)),
    Nat.le_trans h.2.2.1 (by rw [e1]; exact hz), fun q h1 h2 => by rw [e1, hk q (Nat.lt_of_lt_of_le h1 h.2.2.1) (fun z => h2 (hsub q z))]; exact h.2.2.2.1 q h1 h2, fun q hq => by
      rcases List.mem_append.mp hq with z | z
      · exact h.2.2.2.2 q z
      · exact hsub _ (hL q z)⟩ T' rfl X'
  exact ⟨t2, st t2 a1, b1⟩
end CALLS
