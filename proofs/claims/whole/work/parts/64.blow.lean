-- ===== a night =====
def nX (d : FD) (c : Nat → Nat) (t0 kp0 bs top v cr rg kp : Nat) (kq : Nat → Nat → Nat) (σ : St) : Prop := XD d σ ∧ (sI σ 17 = zI (c 0) ∧ sI σ 18 = zI (t0 + (kp - kp0) * c 5 : Nat) ∧ sI σ 19 = zI (c 2) ∧ sA σ 9 0 = zI (c 3) ∧ sA σ 9 1 = zI (c 4) ∧ sA σ 9 2 = zI (c 5) ∧ sI σ 24 = zI kp) ∧ (sI σ 20 = zI cr ∧ sI σ 21 = zI rg ∧ sI σ 22 = zI v ∧ sI σ 23 = zI (top + 1 : Nat) ∧ sA σ 12 top = zI (kp - kp0 : Nat)) ∧ (∀ i, i < kp → bs ≤ i + 60 → sA σ 13 (i % 700) = zI (kC (kq i)))
def nM' (d : FD) (c : Nat → Nat) (v cr rg kp : Nat) (kq : Nat → Nat → Nat) (σ : St) : Prop := MD d σ ∧ (sI σ 15 = zI (c 2) ∧ sI σ 16 = zI (c 3) ∧ sI σ 17 = zI cr ∧ sI σ 18 = zI rg) ∧ sJ σ 5 = zJ v ∧ (sA σ 11 0 = zI (c 0) ∧ sA σ 11 4 = zI (c 4) ∧ sA σ 11 5 = zI (c 5)) ∧ sA σ 11 6 = zI (min 60 kp : Nat) ∧ (∀ i j, i < min 60 kp → j < 5 → sA σ 12 (5 * i + j) = zI (kq (kp - min 60 kp + i) j))
def nF (top : Nat) (σx0 σm0 σx σm : St) : Prop := oS [18, 20, 21, 22, 24, 25, 26, 27, 28, 29, 30, 31, 32, 33, 34, 35, 36] [] [12, 13, 14, 15, 16] [] σx0 σx ∧ (∀ j, j < top → sA σx 12 j = sA σx0 12 j) ∧ oS [14, 17, 18, 19, 20, 21, 22, 23] [5] [10, 11, 12] [1] σm0 σm ∧ (∀ i, i ≠ 6 → sA σm 11 i = sA σm0 11 i)
def NR (d : FD) (c : Nat → Nat) (t0 kp0 bs top : Nat) (ks0 : Nat → Nat → Nat) (σx0 σm0 : St) (kp : Nat) (σx σm : St) : Prop := ∃ (v cr rg : Nat) (kq : Nat → Nat → Nat), (v < 2147483648 ∧ cr ≤ 999 ∧ rg ≤ kp - kp0 ∧ kp0 ≤ kp) ∧ (∀ i, i < kp0 → kq i = ks0 i) ∧ (∀ i, kp0 ≤ i → i < kp → wfK d (kq i)) ∧ nX d c t0 kp0 bs top v cr rg kp kq σx ∧ nM' d c v cr rg kp kq σm ∧ nF top σx0 σm0 σx σm
/-- bounds of a night -/
def nW (d : FD) (c : Nat → Nat) (kp0 bs top : Nat) : Prop := wfD d ∧ (c 0 ≤ 999 ∧ c 2 < 2 ^ nR d ∧ c 3 ≤ 99 ∧ c 4 ≤ 90 ∧ c 5 ≤ 9) ∧ kp0 ≤ 32000 ∧ top < 20 ∧ kp0 + 32 ≤ bs + 640
section
variable {d : FD} {c : Nat → Nat} {t0 kp0 bs top : Nat} {ks0 : Nat → Nat → Nat} {σx0 σm0 : St}
theorem blow1 {kp t k last lt0 : Nat} {σx σm : St} (hW : nW d c kp0 bs top) (hN : NR d c t0 kp0 bs top ks0 σx0 σm0 kp σx σm) (ht : t < nT d) (hL : xL 25 16 d c t (c 3) σx) (hkp : kp < kp0 + 32) (h19 : sI σm 19 = zI ((tV d t 3 : Int) - ((k * c 5 : Nat) : Int))) (h20 : sI σm 20 = zI k) (h21 : sI σm 21 = zI last) (h23 : sI σm 23 = zI lt0) (hlt : lt0 ≤ 1) (hl : last ≤ 99) (hg : gO d c (c 3) t k last) : ∃ (h lt1 : Nat) (σx1 σm1 : St), (∀ K, f_BH_haveTurn_4b K (zI t) (zI last) (zI k) σx = K (zI t) (zI h) (zI (k + 1 : Nat)) σx1) ∧ (∀ k76 k89 x1, f_M_night_89b k76 k89 x1 (zI t) σm = k89 (x1 + zI (c 5)) (zI t) σm1) ∧ NR d c t0 kp0 bs top ks0 σx0 σm0 (kp + 1) σx1 σm1 ∧ xL 25 16 d c t (c 3) σx1 ∧ sI σm1 19 = zI ((tV d t 3 : Int) - (((k + 1) * c 5 : Nat) : Int)) ∧ sI σm1 20 = zI (k + 1 : Nat) ∧ sI σm1 21 = zI h ∧ sI σm1 23 = zI lt1 ∧ lt1 ≤ 1 ∧ h ≤ 99 := by
  obtain ⟨hw, ⟨w0, w2, w3, w4, w5⟩, wk, wt, wb⟩ := hW
  obtain ⟨v, cr, rg, kq, ⟨v1, v2, v3, v4⟩, hks, hwk, ⟨hx, ⟨x17, x18, x19, x90, x91, x92, x24⟩, ⟨x20, x21, x22, x23, x12⟩, ring⟩, ⟨hm, ⟨m15, m16, m17, m18⟩, mJ, ⟨m0, m4, m5⟩, m6, mb⟩, ⟨fo1, fo2, fo3, fo4⟩⟩ := hN
  have hT := hw.2.2.2.2.1 t ht
  have hS := hw.2.2.2.2.2.1
  have hnt := hw.2.1
  have hr := hw.2.2.1
  have hfo : c 2 < 64 := by
    have : 2 ^ nR d ≤ 2 ^ 6 := Nat.pow_le_pow_right (by omega) hr
    omega
  obtain ⟨t1, t2, t3, t4, t5, t6, t7⟩ := hw.2.2.2.2.1 t ht
  obtain ⟨s1, s2, s3, s4, s5, s6, s7⟩ := hw.2.2.2.2.2.1
  have hg' := hg
  obtain ⟨g1, g2, g3⟩ := hg
  have kpb := kp_b (k := k) (p := c 5) (by omega) w5
  have kp1 : (k + 1) * c 5 = k * c 5 + c 5 := Nat.succ_mul k (c 5)
  have hai := slp_b v (tV d t 1)
  have hnx := nx_b v
  -- M
  have mt1 : f_M_trierOf (zI t) 1 σm = _ := m_trierOf (j := 1) hw hm ht (by omega)
  have hmT : mT d c (c 2) (c 3) cr k last rg ((tV d t 3 : Int) - ((k * c 5 : Nat) : Int)) (uJ σm 5 (zJ (nx v))) := ⟨MD_oS hm (oS_uJ (I := []) (J := [5]) (A := []) (B := []) (by decide) oS_r) (by decide) (by decide), ⟨m15, m16, m17, m18, h19, h20, h21⟩, m4, m5⟩
  have hmT0 : mT d c (c 2) (c 3) cr k last rg ((tV d t 3 : Int) - ((k * c 5 : Nat) : Int)) σm := ⟨hm, ⟨m15, m16, m17, m18, h19, h20, h21⟩, m4, m5⟩
  have MS := (m_strikes hw ht hmT0 w5 w3 (by omega) hl).1 hg'
  obtain ⟨τ1, b1, b2, b3, b4, b5⟩ := m_blow (o := slp v (tV d t 1)) (lt0 := lt0) hw ht hmT h23 hlt hfo w5 w4 w3 v2 (by omega) (by omega) hl hg'
  have lb := lB_b (d := d) (c := c) (fo := c 2) (t := t) (cr := cr) (k := k) (last := last) (rg := rg)
  have hlB : lB d c (c 2) t cr k last rg = leN d (fA cr k last (tV d t 5) rg (tV d t 3 - k * c 5)) (c 2) := rfl
  generalize hle : lB d c (c 2) t cr k last rg = l at b3 b4 b5 lb hlB
  have hb2 := hG_b (be := c 3) (sl := c 4) (f := tV d t 0) (ti := tV d t 2) (k := k) (o := slp v (tV d t 1)) (l := l)
  have hhe := hG_b (be := c 3) (sl := c 4) (f := tV d t 0) (ti := tV d t 2) (k := k) (o := slp v (tV d t 1)) (l := l)
  have XHt : ∀ σ, xL 25 16 d c t (c 3) σ → f_Turn_height (zI k) (zI (slp v (tV d t 1))) (zI l) σ = some (zI (hG (c 3) (c 4) (tV d t 0) (tV d t 2) k (slp v (tV d t 1)) l)) := fun σ hσ => x_height hσ hT w3 w4 (by omega) (by omega) lb
  generalize hh : hG (c 3) (c 4) (tV d t 0) (tV d t 2) k (slp v (tV d t 1)) l = h at b3 hb2 XHt
  obtain ⟨bd', ⟨b15, b16, b17, b18, b19, b20, b21⟩, b11a, b11b⟩ := b3
  have r11 : sA τ1 11 = sA σm 11 := (b2.2.2.1 11 (by decide))
  have r12 : sA τ1 12 = sA σm 12 := (b2.2.2.1 12 (by decide))
  obtain ⟨τ2, k1, k2, k3, k4, k5⟩ := m_isKept (σ := τ1) (n := c 0) (t := t) (o := slp v (tV d t 1)) (l := l) (h := h) (kp := kp) (kq := kq) (by rw [r11]; exact m6) (by rw [r11]; exact m0) b4 lb b21 (by rw [r12]; exact mb)
  have k35 : sA τ2 11 5 = zI (c 5) := by rw [k3 5 (by omega)]; exact b11b
  have Mstep : ∀ k76 k89 x1, f_M_night_89b k76 k89 x1 (zI t) σm = k89 (x1 + zI (c 5)) (zI t) τ2 := by
    intro k76 k89 x1
    unfold f_M_night_89b
    rw [MS, bp_s, if_neg (by decide), mt1, bp_s, m_draw v1 t3 mJ, bd_s, b1, bp_s, k1, bp_s, cl5, k35, lt_s']
  -- X
  have XS := (x_goesOn_2 (k := k) (last := last) hL hT hS w5 w3 (by omega) hl).1 hg'
  have XC := x_coinsBehind_2 (k := k) hL
  have eco : ((tV d t 3 : Int) - ((k * c 5 : Nat) : Int)) = ((tV d t 3 - k * c 5 : Nat) : Int) := by omega
  have Xstep0 : ∃ f1 f2, ∀ K, f_BH_haveTurn_4b K (zI t) (zI last) (zI k) σx = f_BH_haveTurn_93 K (zI t) (zI k) (zI l) (uA (uA σx 14 f1) 15 f2) := by
    have hg14 : ∃ g, (∀ i, i < 6 → sA (uA σx 14 g) 14 i = zI (fA cr k last (tV d t 5) rg (tV d t 3 - k * c 5) i)) ∧ ∀ K, f_BH_haveTurn_4b K (zI t) (zI last) (zI k) σx = (bd (f_Showman_rulesThatHold (uA σx 14 g)) fun r_10 σ_11 => if (r_10 &&& (sI σ_11 19)) = 0 then f_BH_haveTurn_93 K (zI t) (zI k) 0 σ_11 else f_BH_haveTurn_93 K (zI t) (zI k) 1 σ_11) := by
      refine ⟨upd (upd (upd (upd (upd (upd (sA σx 14) 0 (zI cr)) 1 (zI k)) 2 (zI last)) 4 (zI rg)) 3 (zI (tV d t 5))) 5 (zI ((tV d t 3 - k * c 5 : Nat) : Int)), ?_, ?_⟩
      · intro i hi
        rw [sA_eq]
        match i, hi with
        | 0, _ => rfl
        | 1, _ => rfl
        | 2, _ => rfl
        | 3, _ => rfl
        | 4, _ => rfl
        | 5, _ => rfl
      · intro K
        unfold f_BH_haveTurn_4b f_Showman_look f_Showman_lookAt
        have e4 : (4 : Int32) = zI (4 : Nat) := rfl
        have c30 : ∀ f, sI (uA σx 14 f) 30 = zI (tV d t 5) := fun f => hL.1.2.2.2.2.2
        have cb : ∀ f, f_Turn_coinsBehind_2 (zI k) (uA σx 14 f) = some (zI ((tV d t 3 - k * c 5 : Nat) : Int)) := fun f => by
          rw [← eco]
          exact XC
        rw [if_neg (by rw [e4, zI_le (by omega) (by omega) (by omega) (by omega)]; omega), XS, bp_s, if_neg (by decide), x20, x21]
        simp only [lt_q, bp_q, uA_uA, sA_eq, cl0, cl1, cl2, cl3, cl4, cl5, cb, c30]
    obtain ⟨g, hgk, hstep⟩ := hg14
    have hoX : oS [] [] [14, 15] [] σx (uA σx 14 g) := oS_uA (by decide) oS_r
    obtain ⟨f', q1, q2⟩ := x_lean (σ := uA σx 14 g) (fo := c 2) hw (XD_oS hx hoX (by decide) (by decide)) hgk (fA_b (by omega) (by omega) (by omega) (by omega) (by omega) (by omega)) w2
    refine ⟨g, f', fun K => ?_⟩
    have s19 : sI (uA (uA σx 14 g) 15 f') 19 = zI (c 2) := x19
    rw [hstep K, q1, bd_s, s19]
    by_cases L : rL d (fA cr k last (tV d t 5) rg (tV d t 3 - k * c 5)) (c 2)
    · rw [if_neg (fun e => q2.mp e L), hlB, leN_1 L]
      rfl
    · rw [if_pos (q2.mpr L), hlB, leN_0 L]
      rfl
  obtain ⟨f1, f2, Xstep1⟩ := Xstep0
  generalize hσ2 : uA (uA σx 14 f1) 15 f2 = σ2 at Xstep1
  have o2 : oS [18, 20, 21, 22, 24] [] [12, 13, 14, 15] [] σx σ2 := by
    rw [← hσ2]
    exact oS_uA (by decide) (oS_uA (by decide) oS_r)
  have y22 : sI σ2 22 = zI v := by rw [← hσ2]; exact x22
  have y26 : sI σ2 26 = zI (tV d t 1) := by rw [← hσ2]; exact hL.1.2.1
  have xLo : ∀ σ', oS [18, 20, 21, 22, 24] [] [12, 13, 14, 15] [] σx σ' → xL 25 16 d c t (c 3) σ' := by
    intro σ' o
    unfold xL
    simp only [Nat.reduceAdd]
    rw [o.1 25 (by decide), o.1 26 (by decide), o.1 27 (by decide), o.1 28 (by decide), o.1 29 (by decide), o.1 30 (by decide), o.1 31 (by decide), o.1 32 (by decide), o.1 33 (by decide), o.1 34 (by decide), o.1 35 (by decide), o.1 36 (by decide), o.2.2.1 16 (by decide)]
    exact hL
  have o3 : oS [18, 20, 21, 22, 24] [] [12, 13, 14, 15] [] σx (uI σ2 22 (zI (nx v))) := oS_uI (by decide) o2
  obtain ⟨σ4, p1, p2, p3, p4, p5, p6⟩ := x_keep (n := c 0) (t := t) (o := slp v (tV d t 1)) (l := l) (h := h) (kp := kp) (T := t0 + (kp - kp0) * c 5) (pr := c 5) (top := top) (nb := kp - kp0) (σ := uI σ2 22 (zI (nx v))) w0 (by omega) (by omega) lb (by omega) (by omega) wt (by rw [o3.1 17 (by decide)]; exact x17) (by rw [← hσ2]; exact x24) (by rw [← hσ2]; exact x18) (by rw [o3.2.2.1 9 (by decide)]; exact x92) (by rw [o3.1 23 (by decide)]; exact x23) (by rw [← hσ2]; exact x12)
  have o4 : oS [18, 20, 21, 22, 24] [] [12, 13, 14, 15] [] σx σ4 := oS_t o3 (oS_w p2 (by decide) (by decide) (by decide) (by decide))
  have z21 : sI σ4 21 = zI rg := by
    rw [p2.1 21 (by decide), ← hσ2]
    exact x21
  have z20 : sI σ4 20 = zI cr := by
    rw [p2.1 20 (by decide), ← hσ2]
    exact x20
  have br := bR_b (d := d) (be := c 3) (h := h) hS
  have tail : ∀ (t0' : Int32) (rg' : Nat), zI rg + t0' = zI rg' → ∀ K, f_BH_haveTurn_163 K (zI t) (zI h) (zI k) t0' (sI σ4 21) σ4 = K (zI t) (zI h) (zI (k + 1 : Nat)) (uI (uI σ4 21 (zI rg')) 20 (zI (min 999 (cr + bR d (c 3) h) : Nat))) := by
    intro t0' rg' e K
    unfold f_BH_haveTurn_163
    have B := x_brings_2 (h := h) (xLo (uI σ4 21 (zI rg')) (oS_uI (by decide) o4)) hS w3 (by omega)
    have y20 : sI (uI σ4 21 (zI rg')) 20 = zI cr := z20
    have e999 : (999 : Int32) = zI (999 : Nat) := rfl
    rw [z21, e, lt_s', B, bp_s, y20, zI_add, ← Int.natCast_add, e999, iMin_z (by omega) (by omega) (by omega) (by omega), zS, lt_s', lt_s']
    have em : min ((999 : Nat) : Int) ((cr + bR d (c 3) h : Nat) : Int) = ((min 999 (cr + bR d (c 3) h) : Nat) : Int) := by omega
    rw [em]
  have RI := x_isRing_2 (h := h) (xLo σ4 o4) w3 (by omega)
  have Xstep : ∀ K, f_BH_haveTurn_4b K (zI t) (zI last) (zI k) σx = K (zI t) (zI h) (zI (k + 1 : Nat)) (uI (uI σ4 21 (zI (rg + (if c 3 ≤ h then 1 else 0) : Nat))) 20 (zI (min 999 (cr + bR d (c 3) h) : Nat))) := by
    intro K
    rw [Xstep1 K]
    unfold f_BH_haveTurn_93
    rw [y26, x_draw v1 t3 y22, bd_s, XHt _ (xLo _ o3), bp_s, p1, bp_s, RI, bp_s]
    by_cases q : c 3 ≤ h
    · rw [if_neg (fun e => bz0.mp e q), if_pos q]
      exact tail 1 (rg + 1) (zS rg) K
    · rw [if_pos (bz0.mpr q), if_neg q]
      exact tail 0 (rg + 0) (by rw [zI_lit, zI_add]; rfl) K
  generalize hσ6 : uI (uI σ4 21 (zI (rg + (if c 3 ≤ h then 1 else 0) : Nat))) 20 (zI (min 999 (cr + bR d (c 3) h) : Nat)) = σ6 at Xstep
  have o6 : oS [18, 20, 21, 22, 24] [] [12, 13, 14, 15] [] σx σ6 := by
    rw [← hσ6]
    exact oS_uI (by decide) (oS_uI (by decide) o4)
  have hmx : max lt0 l ≤ 1 := by omega
  refine ⟨h, max lt0 l, σ6, τ2, Xstep, Mstep, ?_, xLo _ o6, ?_, ?_, ?_, ?_, hmx, by omega⟩
  · refine ⟨nx v, min 999 (cr + bR d (c 3) h), rg + (if c 3 ≤ h then 1 else 0), kqS kq kp (rec5 (c 0) t (slp v (tV d t 1)) l h), ⟨hnx, by omega, by split <;> omega, by omega⟩, fun i hi => ?_, fun i h1 h2 => ?_, ⟨?_, ⟨?_, ?_, ?_, ?_, ?_, ?_, ?_⟩, ⟨?_, ?_, ?_, ?_, ?_⟩, ?_⟩, ⟨?_, ⟨?_, ?_, ?_, ?_⟩, ?_, ⟨?_, ?_, ?_⟩, k4, k5⟩, ⟨?_, ?_, ?_, ?_⟩⟩
    · unfold kqS
      rw [if_neg (by omega)]
      exact hks i hi
    · unfold kqS
      by_cases ci : i = kp
      · rw [if_pos ci]
        exact ⟨w0, ht, Nat.le_trans hai t3, lb, by show h ≤ 99; omega⟩
      · rw [if_neg ci]
        exact hwk i h1 (by omega)
    · exact XD_oS hx o6 (by decide) (by decide)
    · rw [o6.1 17 (by decide)]; exact x17
    · rw [← hσ6]
      show sI σ4 18 = _
      rw [p4]
      have : kp + 1 - kp0 = (kp - kp0) + 1 := by omega
      rw [this, Nat.succ_mul, Nat.add_assoc]
    · rw [o6.1 19 (by decide)]; exact x19
    · rw [o6.2.2.1 9 (by decide)]; exact x90
    · rw [o6.2.2.1 9 (by decide)]; exact x91
    · rw [o6.2.2.1 9 (by decide)]; exact x92
    · rw [← hσ6]
      exact p3
    · rw [← hσ6]
      rfl
    · rw [← hσ6]
      rfl
    · rw [← hσ6]
      show sI σ4 22 = _
      rw [p2.1 22 (by decide)]
      rfl
    · rw [o6.1 23 (by decide)]; exact x23
    · rw [← hσ6]
      show sA σ4 12 top = _
      have : kp + 1 - kp0 = (kp - kp0) + 1 := by omega
      rw [p6, upd_e, if_pos rfl, this]
    · intro i h1 h2
      rw [← hσ6]
      show sA σ4 13 (i % 700) = _
      rw [p5, upd_e]
      unfold kqS
      by_cases ci : i = kp
      · rw [if_pos (by rw [ci]), if_pos ci]
      · rw [if_neg (by omega), if_neg ci]
        have e13 : sA (uI σ2 22 (zI (nx v))) 13 = sA σx 13 := by rw [← hσ2]; rfl
        rw [e13]
        exact ring i (by omega) h2
    · exact MD_oS bd' k2 (by decide) (by decide)
    · rw [k2.1 15 (by decide)]; exact b15
    · rw [k2.1 16 (by decide)]; exact b16
    · rw [k2.1 17 (by decide)]; exact b17
    · rw [k2.1 18 (by decide)]; exact b18
    · rw [k2.2.1 5 (by decide), b2.2.1 5 (by decide)]
      rfl
    · rw [k3 0 (by omega), r11]; exact m0
    · rw [k3 4 (by omega), r11]; exact m4
    · rw [k3 5 (by omega), r11]; exact m5
    · exact oS_t fo1 (oS_w o6 (by decide) (by decide) (by decide) (by decide))
    · intro j hj
      rw [← hσ6]
      show sA σ4 12 j = _
      rw [p6, upd_e, if_neg (by omega)]
      have e12 : sA (uI σ2 22 (zI (nx v))) 12 = sA σx 12 := by rw [← hσ2]; rfl
      rw [e12]
      exact fo2 j hj
    · have oJ : oS [14, 17, 18, 19, 20, 21, 22, 23] [5] [10, 11, 12] [1] σm (uJ σm 5 (zJ (nx v))) := oS_uJ (by decide) oS_r
      exact oS_t fo3 (oS_t oJ (oS_t (oS_w b2 (by decide) (by decide) (by decide) (by decide)) (oS_w k2 (by decide) (by decide) (by decide) (by decide))))
    · intro i hi
      rw [k3 i hi, r11]
      exact fo4 i hi
  · rw [k2.1 19 (by decide)]; exact b19
  · rw [k2.1 20 (by decide)]; exact b20
  · rw [k2.1 21 (by decide)]; exact b21
  · rw [k2.1 23 (by decide)]; exact b5
end
