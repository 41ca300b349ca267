-- ===== two worlds side by side: the law's own walk =====
def Wd2 (g : GX) (A : Nat → Prop) (s : State) (wa wb : va_W) (H : Heap) (locs : List Loc) : Prop := va_P g.1 vwCl wa H ∧ va_P g.1 vwCl wb H ∧ va_D A wa ∧ va_D A wb ∧ (∀ (i j : Nat) (p q : Nat × va_E), wa[i]? = some p → wb[j]? = some q → p.1 ≠ q.1) ∧ va_S A s.heap H locs
theorem Wd2.comm {g : GX} {A : Nat → Prop} {s : State} {wa wb : va_W} {H : Heap} {locs : List Loc} (h : Wd2 g A s wa wb H locs) : Wd2 g A s wb wa H locs := ⟨h.2.1, h.1, h.2.2.2.1, h.2.2.1, fun i j p q hp hq z => h.2.2.2.2.1 j i q p hq hp z.symm, h.2.2.2.2.2⟩
theorem va_at_lt {D : va_G} {cl : List vw_C} {q : Nat × va_E} {H : Heap} (h : va_at D cl q H) : q.1 < H.size := by
  obtain ⟨a, e⟩ := q
  cases e with
  | inl x => exact (Array.getElem?_eq_some_iff.mp (show H[a]? = some _ from h)).1
  | inr x =>
    obtain ⟨r, h1, cell, q1, q2⟩ := (show ∃ r : vw_C, cl[x.1]? = some r ∧ t_OB a (D.1 x.1) r.2.2 (D.2 x.1) H (vp_V x.2) from h)
    exact (Array.getElem?_eq_some_iff.mp q1).1
theorem va_at_same {D : va_G} {cl : List vw_C} {q : Nat × va_E} {H H1 : Heap} (h : va_at D cl q H) (e : H1[q.1]? = H[q.1]?) : va_at D cl q H1 := by
  obtain ⟨a, x⟩ := q
  cases x with
  | inl x => exact (show H1[a]? = some _ from e.trans h)
  | inr x =>
    obtain ⟨r, h1, cell, q1, q2⟩ := (show ∃ r : vw_C, cl[x.1]? = some r ∧ t_OB a (D.1 x.1) r.2.2 (D.2 x.1) H (vp_V x.2) from h)
    exact (show ∃ r : vw_C, cl[x.1]? = some r ∧ t_OB a (D.1 x.1) r.2.2 (D.2 x.1) H1 (vp_V x.2) from ⟨r, h1, cell, e.trans q1, q2⟩)
section LAWCALL
variable {p : Program} {l : Launch} {e : Env} {R : Room} {s : State} {m : MethodId} {av : Array Value} {below : List Frame} {meth : Method} {c : Code} {H : Heap} {locs : List Loc} {cells slots : Nat} {Q : State → Prop}
variable {g : GX} {w w2 : St → va_W} {wb : va_W} {A : Nat → Prop} {σ σ2 : St} {cc : ByteArray} {nL : Nat} {own : String} {ret0 : Option FieldType} {pc : Nat} {ls : Array Slot} {rest : List Value}
variable {y : MethodName} {bytes : ByteArray} {nL1 n1 index : Nat} {ret1 : Option FieldType} {b : Nat} {As : List Value} {rv : Option Value} {st0 : List Value}
theorem k_call2 (C : Cx g A p s m av meth c cc nL own ret0) (h : Wd2 g A s (w σ) wb H locs) (hM : KK l y bytes nL1 ret1 n1 g w σ (.ref b :: As) rv w2 σ2) (hc : CalV y bytes nL1 ret1 As.length) (hl : Cond.methodLink own index y ∈ tb) (hrecv : ∃ cell : Cell, H[b]? = some cell ∧ cell.vm.isStatics = false ∧ s.vm.findClass y.cls = some cell.cls)
    (hn : n1 + 1 ≤ R.frames) (hn2 : 40 + 40 * n1 ≤ R.locals) (hcs : cells ≤ R.cells ∧ slots ≤ R.slots) (hsz : ls.size = nL) (hst : st0 = As.reverse ++ .ref b :: rest) (hw : (rest.map fun v => v.category).sum ≤ 8) (hdg : decode cc pc = .ok (.invokevirtual index, 3))
    (kk : ∀ (H1 : Heap) (locs1 : List Loc), Wd2 g A s (w2 σ2) wb H1 locs1 → W p l e R s m av below meth c H1 locs1 cells slots Q (F0 m (pc + 3) ls (rv.toList ++ rest))) : W p l e R s m av below meth c H locs cells slots Q (F0 m pc ls st0) := by
  obtain ⟨hx, hb, hml, hown, hts, hK, hA, hZ, hlocks, hr, hN⟩ := C
  subst hst
  obtain ⟨hPa, hPb, hDa, hDb, hab, hS⟩ := h
  have h1 : Wd g w A s σ H locs := ⟨hPa, hDa, hS⟩
  have hsub := h1.sub hA
  have hrun := va_runV (As := As) (rest := rest) (b := b) (C := y.cls) (Ts := tb) (p := p) (l := l) (e := e) (R := R) (below := below) (meth := meth) (locs := locs) (cells := cells) (slots := slots) (g := F0 m pc ls (As.reverse ++ .ref b :: rest)) ⟨hx, hb, hml, hown, hts⟩ (hM H.size) (cwV As.length hts (wsV_good hc hl) rfl rfl rfl ⟨rfl, hc.1.2.2.1⟩ ⟨hn, by have := hc.1.2.2.2; show 8 + (nL1 + 11) + 40 * n1 ≤ R.locals; omega⟩) ⟨preK_blind _ _ _ _ _, hrecv, h1.pre hK hA hZ hN (.ref b :: As)⟩ rfl rfl hsz rfl (lv_room hw) hdg ⟨hcs.1, hcs.2⟩
  intro T hT X
  obtain ⟨v, st₀, t, T', L, h0, X', hL, e1, e2, ⟨⟨hv, hb1⟩, hz, hk⟩, st⟩ := hrun T hT X
  cases hv
  rw [h0] at hz hk
  obtain ⟨hP1, hK1, hD1⟩ := hb1
  have hbout : ∀ (j : Nat) (x : Nat × va_E), wb[j]? = some x → x.1 < H.size ∧ ¬ va_A (w σ) H.size x.1 := fun j x hj => by
    have hlt := va_at_lt (hPb j x hj)
    refine ⟨hlt, fun z => ?_⟩
    rcases z with ⟨k, ex, hk1⟩ | z
    · exact hab k j _ _ hk1 hj rfl
    · exact absurd hlt (Nat.not_lt.mpr z)
  obtain ⟨t2, a1, b1⟩ := kk T'.heap (locs ++ L) ⟨by rw [e1]; exact hP1, fun j x hj => va_at_same (hPb j x hj) (by rw [e1]; exact hk x.1 (hbout j x hj).1 (hbout j x hj).2),
    hD1.weaken (fun k x hx _ => hsub x.1 (hD1.2 k x hx)), hDb, fun i j p' q' hp hq z => (hbout j q' hq).2 (z ▸ hD1.2 i p' hp),
    Nat.le_trans hS.1 (by rw [e1]; exact hz), fun q h1 h2 => by rw [e1, hk q (Nat.lt_of_lt_of_le h1 hS.1) (fun z => h2 (hsub q z))]; exact hS.2.1 q h1 h2, fun q hq => by
      rcases List.mem_append.mp hq with z | z
      · exact hS.2.2 q z
      · exact hsub _ (hL q z)⟩ T' rfl X'
  exact ⟨t2, st t2 a1, b1⟩
end LAWCALL
