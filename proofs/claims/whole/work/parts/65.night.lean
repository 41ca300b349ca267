-- ===== nights =====
theorem xo_load {d : FD} {c : Nat → Nat} {t : Nat} {σ : St} (hw : wfD d) (hx : XD d σ) (x90 : sA σ 9 0 = zI (c 3)) (x91 : sA σ 9 1 = zI (c 4)) (x92 : sA σ 9 2 = zI (c 5)) (ht : t < nT d) : ∃ σ1, f_Turn_load (zI t) σ = some σ1 ∧ xL 25 16 d c t (c 3) σ1 ∧ oS [25, 26, 27, 28, 29, 30, 31, 32, 33, 34, 35, 36] [] [16] [] σ σ1 := by
  have s0 := hx.2.2.2.2.2.1 0 (by omega)
  have s1 := hx.2.2.2.2.2.1 1 (by omega)
  have s2 := hx.2.2.2.2.2.1 2 (by omega)
  have s3 := hx.2.2.2.2.2.1 3 (by omega)
  have s4 := hx.2.2.2.2.2.1 4 (by omega)
  have s5 := hx.2.2.2.2.2.1 5 (by omega)
  simp only [Nat.add_zero, Nat.reduceAdd] at s0 s1 s2 s3 s4 s5
  have t0 : f_Fair_trait (zI t) 0 σ = _ := x_trait (j := 0) hw hx ht (by omega)
  have t1 : f_Fair_trait (zI t) 1 σ = _ := x_trait (j := 1) hw hx ht (by omega)
  have t2 : f_Fair_trait (zI t) 2 σ = _ := x_trait (j := 2) hw hx ht (by omega)
  have t3 : f_Fair_trait (zI t) 3 σ = _ := x_trait (j := 3) hw hx ht (by omega)
  have t4 : f_Fair_trait (zI t) 4 σ = _ := x_trait (j := 4) hw hx ht (by omega)
  have t5 : f_Fair_trait (zI t) 5 σ = _ := x_trait (j := 5) hw hx ht (by omega)
  unfold f_Turn_load
  simp only [trait_uI, t0, t1, t2, t3, t4, t5, bp_s, lt_s', cl0, cl1, cl2, cl3, cl4, cl5, cl6]
  refine ⟨_, rfl, ⟨⟨rfl, rfl, rfl, rfl, rfl, rfl⟩, ⟨x90, x91, x92, s0, s2, s1⟩, s3, s4, s5⟩, ?_⟩
  exact oS_uA (by decide) (oS_uI (by decide) (oS_uI (by decide) (oS_uI (by decide) (oS_uI (by decide) (oS_uI (by decide) (oS_uI (by decide) (oS_uI (by decide) (oS_uI (by decide) (oS_uI (by decide) (oS_uI (by decide) (oS_uI (by decide) (oS_uI (by decide) oS_r))))))))))))
theorem xo_load_2 {d : FD} {c : Nat → Nat} {t : Nat} {σ : St} (hw : wfD d) (hx : XD d σ) (x90 : sA σ 9 0 = zI (c 3)) (x91 : sA σ 9 1 = zI (c 4)) (x92 : sA σ 9 2 = zI (c 5)) (ht : t < nT d) : ∃ σ1, f_Turn_load_2 (zI t) σ = some σ1 ∧ xL 40 17 d c t (c 3) σ1 ∧ oS [40, 41, 42, 43, 44, 45, 46, 47, 48, 49, 50, 51] [] [17] [] σ σ1 := by
  have s0 := hx.2.2.2.2.2.1 0 (by omega)
  have s1 := hx.2.2.2.2.2.1 1 (by omega)
  have s2 := hx.2.2.2.2.2.1 2 (by omega)
  have s3 := hx.2.2.2.2.2.1 3 (by omega)
  have s4 := hx.2.2.2.2.2.1 4 (by omega)
  have s5 := hx.2.2.2.2.2.1 5 (by omega)
  simp only [Nat.add_zero, Nat.reduceAdd] at s0 s1 s2 s3 s4 s5
  have t0 : f_Fair_trait (zI t) 0 σ = _ := x_trait (j := 0) hw hx ht (by omega)
  have t1 : f_Fair_trait (zI t) 1 σ = _ := x_trait (j := 1) hw hx ht (by omega)
  have t2 : f_Fair_trait (zI t) 2 σ = _ := x_trait (j := 2) hw hx ht (by omega)
  have t3 : f_Fair_trait (zI t) 3 σ = _ := x_trait (j := 3) hw hx ht (by omega)
  have t4 : f_Fair_trait (zI t) 4 σ = _ := x_trait (j := 4) hw hx ht (by omega)
  have t5 : f_Fair_trait (zI t) 5 σ = _ := x_trait (j := 5) hw hx ht (by omega)
  unfold f_Turn_load_2
  simp only [trait_uI, t0, t1, t2, t3, t4, t5, bp_s, lt_s', cl0, cl1, cl2, cl3, cl4, cl5, cl6]
  refine ⟨_, rfl, ⟨⟨rfl, rfl, rfl, rfl, rfl, rfl⟩, ⟨x90, x91, x92, s0, s2, s1⟩, s3, s4, s5⟩, ?_⟩
  exact oS_uA (by decide) (oS_uI (by decide) (oS_uI (by decide) (oS_uI (by decide) (oS_uI (by decide) (oS_uI (by decide) (oS_uI (by decide) (oS_uI (by decide) (oS_uI (by decide) (oS_uI (by decide) (oS_uI (by decide) (oS_uI (by decide) (oS_uI (by decide) oS_r))))))))))))
section
variable {d : FD} {c : Nat → Nat} {t0 kp0 bs top : Nat} {ks0 : Nat → Nat → Nat} {σx0 σm0 : St}
theorem turn_loop {t : Nat} (hW : nW d c kp0 bs top) (ht : t < nT d) (K : Int32 → Int32 → St → Option (Int32 × St)) : ∀ (m k last lt0 q q' kp x1 : Nat) (σx σm : St), k + m = sV d 0 → m < q → m < q' → kp + m ≤ kp0 + 32 → NR d c t0 kp0 bs top ks0 σx0 σm0 kp σx σm → xL 25 16 d c t (c 3) σx → sI σm 19 = zI ((tV d t 3 : Int) - ((k * c 5 : Nat) : Int)) → sI σm 20 = zI k → sI σm 21 = zI last → sI σm 23 = zI lt0 → lt0 ≤ 1 → last ≤ 99 → ∃ (kp1 : Nat) (σx1 σm1 : St), f_BH_haveTurn_4 q (zI t) (zI last) (zI k) σx = some σx1 ∧ f_M_night_89 K q' (zI x1) (zI t) σm = K (zI (x1 + (kp1 - kp) * c 5 : Nat)) (zI (t + 1 : Nat)) σm1 ∧ NR d c t0 kp0 bs top ks0 σx0 σm0 kp1 σx1 σm1 ∧ kp ≤ kp1 ∧ kp1 ≤ kp + m := by
  have hw := hW.1
  have hT := hw.2.2.2.2.1 t ht
  have hS := hw.2.2.2.2.2.1
  have s2 := hS.2.1
  have w5 := hW.2.1.2.2.2.2
  have w3 := hW.2.1.2.2.1
  intro m
  -- when he does not strike
  have stop : ∀ (k last lt0 q q' kp x1 : Nat) (σx σm : St), k ≤ sV d 0 → 0 < q → 0 < q' → NR d c t0 kp0 bs top ks0 σx0 σm0 kp σx σm → xL 25 16 d c t (c 3) σx → sI σm 19 = zI ((tV d t 3 : Int) - ((k * c 5 : Nat) : Int)) → sI σm 20 = zI k → sI σm 21 = zI last → last ≤ 99 → ¬ gO d c (c 3) t k last → f_BH_haveTurn_4 q (zI t) (zI last) (zI k) σx = some σx ∧ f_M_night_89 K q' (zI x1) (zI t) σm = K (zI x1) (zI (t + 1 : Nat)) σm := by
    intro k last lt0 q q' kp x1 σx σm h1 h2 h3 hN hL h19 h20 h21 hl hg
    obtain ⟨q, rfl⟩ : ∃ r, q = r + 1 := ⟨q - 1, by omega⟩
    obtain ⟨q', rfl⟩ : ∃ r, q' = r + 1 := ⟨q' - 1, by omega⟩
    obtain ⟨v, cr, rg, kq, -, -, -, -, ⟨hm, ⟨m15, m16, m17, m18⟩, mJ, ⟨m0, m4, m5⟩, m6, mb⟩, -⟩ := hN
    have hmT : mT d c (c 2) (c 3) cr k last rg ((tV d t 3 : Int) - ((k * c 5 : Nat) : Int)) σm := ⟨hm, ⟨m15, m16, m17, m18, h19, h20, h21⟩, m4, m5⟩
    have MS := (m_strikes hw ht hmT w5 w3 h1 hl).2 hg
    have XS := (x_goesOn_2 (k := k) (last := last) hL hT hS w5 w3 (by omega) hl).2 hg
    constructor
    · show f_BH_haveTurn_4b (f_BH_haveTurn_4 q) (zI t) (zI last) (zI k) σx = _
      unfold f_BH_haveTurn_4b
      rw [XS, bp_s, if_pos rfl, ite_self]
    · show f_M_night_89b K (f_M_night_89 K q') (zI x1) (zI t) σm = _
      unfold f_M_night_89b
      rw [MS, bp_s, if_pos rfl, zS, lt_s']
  induction m with
  | zero =>
    intro k last lt0 q q' kp x1 σx σm h1 h2 h3 h4 hN hL h19 h20 h21 h23 hlt hl
    obtain ⟨e1, e2⟩ := stop k last lt0 q q' kp x1 σx σm (by omega) h2 h3 hN hL h19 h20 h21 hl (fun g => by have := g.1; omega)
    refine ⟨kp, σx, σm, e1, ?_, hN, Nat.le_refl _, Nat.le_refl _⟩
    rw [e2, Nat.sub_self, Nat.zero_mul]
    rfl
  | succ m ih =>
    intro k last lt0 q q' kp x1 σx σm h1 h2 h3 h4 hN hL h19 h20 h21 h23 hlt hl
    rcases gO_d d c (c 3) t k last with g | g
    · obtain ⟨h, lt1, σx1, σm1, A, B, C, D, E, F, G, H, I, J⟩ := blow1 hW hN ht hL (by omega) h19 h20 h21 h23 hlt hl g
      obtain ⟨q, rfl⟩ : ∃ r, q = r + 1 := ⟨q - 1, by omega⟩
      obtain ⟨q', rfl⟩ : ∃ r, q' = r + 1 := ⟨q' - 1, by omega⟩
      obtain ⟨kp1, σx2, σm2, r1, r2, r3, r4, r5⟩ := ih (k + 1) h lt1 q q' (kp + 1) (x1 + c 5) σx1 σm1 (by omega) (by omega) (by omega) (by omega) C D E F G H I J
      refine ⟨kp1, σx2, σm2, ?_, ?_, r3, by omega, by omega⟩
      · show f_BH_haveTurn_4b (f_BH_haveTurn_4 q) (zI t) (zI last) (zI k) σx = _
        rw [A]
        exact r1
      · show f_M_night_89b K (f_M_night_89 K q') (zI x1) (zI t) σm = _
        rw [B, zI_add, ← Int.natCast_add, r2]
        have e : x1 + c 5 + (kp1 - (kp + 1)) * c 5 = x1 + (kp1 - kp) * c 5 := by
          have e2 : kp1 - kp = (kp1 - (kp + 1)) + 1 := by omega
          rw [e2, Nat.succ_mul]
          omega
        rw [e]
    · obtain ⟨e1, e2⟩ := stop k last lt0 q q' kp x1 σx σm (by omega) (by omega) (by omega) hN hL h19 h20 h21 hl g
      refine ⟨kp, σx, σm, e1, ?_, hN, Nat.le_refl _, by omega⟩
      rw [e2, Nat.sub_self, Nat.zero_mul]
      rfl
theorem NR_x {kp : Nat} {σx σx' σm : St} (hN : NR d c t0 kp0 bs top ks0 σx0 σm0 kp σx σm) (o : oS [25, 26, 27, 28, 29, 30, 31, 32, 33, 34, 35, 36] [] [16] [] σx σx') : NR d c t0 kp0 bs top ks0 σx0 σm0 kp σx' σm := by
  obtain ⟨v, cr, rg, kq, a1, a2, a3, ⟨hx, h1, h2, h3⟩, a5, ⟨f1, f2, f3, f4⟩⟩ := hN
  refine ⟨v, cr, rg, kq, a1, a2, a3, ⟨XD_oS hx o (by decide) (by decide), ?_, ?_, ?_⟩, a5, ⟨oS_t f1 (oS_w o (by decide) (by decide) (by decide) (by decide)), ?_, f3, f4⟩⟩
  · rw [o.1 17 (by decide), o.1 18 (by decide), o.1 19 (by decide), o.1 24 (by decide), o.2.2.1 9 (by decide)]
    exact h1
  · rw [o.1 20 (by decide), o.1 21 (by decide), o.1 22 (by decide), o.1 23 (by decide), o.2.2.1 12 (by decide)]
    exact h2
  · rw [o.2.2.1 13 (by decide)]
    exact h3
  · rw [o.2.2.1 12 (by decide)]
    exact f2
theorem NR_m {kp : Nat} {σx σm σm' : St} (hN : NR d c t0 kp0 bs top ks0 σx0 σm0 kp σx σm) (o : oS [19, 20, 21, 23] [] [] [] σm σm') : NR d c t0 kp0 bs top ks0 σx0 σm0 kp σx σm' := by
  obtain ⟨v, cr, rg, kq, a1, a2, a3, a4, ⟨hm, h1, h2, h3, h4, h5⟩, ⟨f1, f2, f3, f4⟩⟩ := hN
  refine ⟨v, cr, rg, kq, a1, a2, a3, a4, ⟨MD_oS hm o (by decide) (by decide), ?_, ?_, ?_, ?_, ?_⟩, ⟨f1, f2, oS_t f3 (oS_w o (by decide) (by decide) (by decide) (by decide)), ?_⟩⟩
  · rw [o.1 15 (by decide), o.1 16 (by decide), o.1 17 (by decide), o.1 18 (by decide)]
    exact h1
  · rw [o.2.1 5 (by decide)]
    exact h2
  · rw [o.2.2.1 11 (by decide)]
    exact h3
  · rw [o.2.2.1 11 (by decide)]
    exact h4
  · rw [o.2.2.1 12 (by decide)]
    exact h5
  · rw [o.2.2.1 11 (by decide)]
    exact f4
theorem night_loop (hW : nW d c kp0 bs top) : ∀ (m t q q' kp : Nat) (X1 : Int32) (σx σm : St), t + m = nT d → m < q → m < q' → kp ≤ kp0 + 4 * t → NR d c t0 kp0 bs top ks0 σx0 σm0 kp σx σm → ∃ (kp1 : Nat) (σx1 σm1 : St), f_BH_night_51 q X1 (zI t) σx = some (sI σx1 18 - X1, σx1) ∧ f_M_night_76 q' (zI ((kp - kp0) * c 5 : Nat)) (zI t) σm = some (zI ((kp1 - kp0) * c 5 : Nat), uA σm1 11 (upd (sA σm1 11) 1 (sA σm1 11 1 + zI ((kp1 - kp0) * c 5 : Nat)))) ∧ NR d c t0 kp0 bs top ks0 σx0 σm0 kp1 σx1 σm1 ∧ kp1 ≤ kp0 + 32 := by
  have hw := hW.1
  have hnt := hw.2.1
  have hS := hw.2.2.2.2.2.1
  have s2 := hS.2.1
  intro m
  induction m with
  | zero =>
    intro t q q' kp X1 σx σm h1 h2 h3 h4 hN
    obtain ⟨q, rfl⟩ : ∃ r, q = r + 1 := ⟨q - 1, by omega⟩
    obtain ⟨q', rfl⟩ : ∃ r, q' = r + 1 := ⟨q' - 1, by omega⟩
    have hN' := hN
    obtain ⟨v, cr, rg, kq, -, -, -, ⟨hx, -⟩, ⟨hm, -⟩, -⟩ := hN
    refine ⟨kp, σx, σm, ?_, ?_, hN', by omega⟩
    · show f_BH_night_51b (f_BH_night_51 q) X1 (zI t) σx = _
      unfold f_BH_night_51b
      rw [hx.2.1, if_pos (by rw [zI_le (by omega) (by omega) (by omega) (by omega)]; omega)]
    · show f_M_night_76b (f_M_night_76 q') _ (zI t) σm = _
      unfold f_M_night_76b
      rw [m_trierMany hm, bp_s, if_pos (by rw [zI_le (by omega) (by omega) (by omega) (by omega)]; omega), cl1]
      rfl
  | succ m ih =>
    intro t q q' kp X1 σx σm h1 h2 h3 h4 hN
    obtain ⟨q, rfl⟩ : ∃ r, q = r + 1 := ⟨q - 1, by omega⟩
    obtain ⟨q', rfl⟩ : ∃ r, q' = r + 1 := ⟨q' - 1, by omega⟩
    have hN' := hN
    have ht : t < nT d := by omega
    have hT := hw.2.2.2.2.1 t ht
    obtain ⟨v, cr, rg, kq, vb, -, -, ⟨hx, ⟨x17, x18, x19, x90, x91, x92, x24⟩, -⟩, ⟨hm, -⟩, -⟩ := hN
    obtain ⟨σ1, L1, L2, L3⟩ := xo_load (c := c) hw hx x90 x91 x92 ht
    have mt3 : f_M_trierOf (zI t) 3 σm = _ := m_trierOf (j := 3) hw hm ht (by omega)
    have oB : oS [19, 20, 21, 23] [] [] [] σm (uI (uI (uI (uI σm 19 (zI (tV d t 3))) 20 0) 21 0) 23 0) := oS_uI (by decide) (oS_uI (by decide) (oS_uI (by decide) (oS_uI (by decide) oS_r)))
    have hN2 := NR_m (NR_x hN' L3) oB
    have e0 : (0 : Int32) = zI (0 : Nat) := rfl
    obtain ⟨kp1, σx2, σm2, r1, r2, r3, r4, r5⟩ := turn_loop hW ht (f_M_night_76 q') (sV d 0) 0 0 0 FU FU kp ((kp - kp0) * c 5) σ1 _ (by omega) (FU_gt (by omega)) (FU_gt (by omega)) (by omega) hN2 L2 (by rw [Nat.zero_mul]; exact congrArg zI (by omega)) rfl rfl rfl (by omega) (by omega)
    have vb4 := vb.2.2.2
    obtain ⟨kp2, σx3, σm3, u1, u2, u3, u4⟩ := ih (t + 1) q q' kp1 X1 σx2 σm2 (by omega) (by omega) (by omega) (by omega) r3
    refine ⟨kp2, σx3, σm3, ?_, ?_, u3, u4⟩
    · show f_BH_night_51b (f_BH_night_51 q) X1 (zI t) σx = _
      unfold f_BH_night_51b f_BH_haveTurn
      have r1' : f_BH_haveTurn_4 FU (zI t) 0 0 σ1 = some σx2 := r1
      rw [hx.2.1, if_neg (by rw [zI_le (by omega) (by omega) (by omega) (by omega)]; omega), L1, bp_s, r1', bp_s, zS, lt_s']
      exact u1
    · show f_M_night_76b (f_M_night_76 q') _ (zI t) σm = _
      unfold f_M_night_76b f_M_begins
      rw [m_trierMany hm, bp_s, if_neg (by rw [zI_le (by omega) (by omega) (by omega) (by omega)]; omega), mt3, bp_s, lt_s', lt_s', lt_s', lt_s', bp_s, r2]
      have e : (kp - kp0) * c 5 + (kp1 - kp) * c 5 = (kp1 - kp0) * c 5 := by
        rw [← Nat.add_mul]
        congr 1
        omega
      rw [e]
      exact u2
end
/-- the core as a night begins, and as it ends -/
def cN (c : Nat → Nat) (i : Nat) : Nat := if i = 0 then c 0 + 1 else c i
def cN2 (c : Nat → Nat) (m kp1 : Nat) (i : Nat) : Nat := if i = 0 then c 0 + 1 else if i = 1 then c 1 + m * c 5 else if i = 6 then kp1 else c i
theorem sim_night : Sim_night Rel := by
  intro σx σm h
  have h' := h
  obtain ⟨hQ, d, hw, hx, hm, hS, a, w, hs, ks, hh, hX, hM⟩ := h
  have ha := hh.1
  have hc := hh.2.1 a (Nat.le_refl a)
  have hc' := hc
  obtain ⟨c0, cc1, c2, c3, c4, c5, c6, c7, c8⟩ := hc
  obtain ⟨x17, x18, x19, x90, x91, x92, x24⟩ := hX.2.1
  have m0 : sA σm 11 0 = zI (hs a 0) := hM.2.2.2.1.1 0 (by omega)
  have e999 : (999 : Int32) = zI (999 : Nat) := rfl
  unfold f_BH_night f_M_night
  rw [x17, cl0, m0]
  by_cases g : hs a 0 = 999
  · rw [if_neg (by rw [e999, zI_lt (by omega) (by omega) (by omega) (by omega)]; omega), if_pos (by rw [g]; rfl)]
    exact ⟨_, _, _, rfl, rfl, rel_no (k := 2) (by omega) h'⟩
  · rw [if_pos (by rw [e999, zI_lt (by omega) (by omega) (by omega) (by omega)]; omega), if_neg (by rw [e999, zI_eq (by omega) (by omega) (by omega) (by omega)]; omega)]
    -- X begins
    unfold f_Book_startNight
    obtain ⟨σ1, q1, o1, x23, xr, x10, x11, x12⟩ := x_addAct (k := 4) (v := sI σx 18) ha hX.1
    have a17 : sI σ1 17 = zI (hs a 0) := (o1.1 17 (by decide)).trans x17
    have s25 : sA σx 25 4 = zI (sV d 1) := hx.2.2.2.2.2.1 1 (by omega)
    rw [cl4, s25, lt_s', q1, bp_s, a17, zS, lt_s', lt_s', lt_s', bp_s]
    -- M begins
    obtain ⟨τ1, p1, o2, m26, m27, k1, k2, k3⟩ := m_keeps ha hM.2.2.1 hM.1 hM.2.1
    have t11 : sA τ1 11 = sA σm 11 := o2.2.2.1 11 (by decide)
    rw [p1, bp_s, t11, m0, zS, lt_s', lt_s', lt_s']
    have mdt : ∀ τ, oS [15, 16, 17, 18, 26, 27] [] [11, 13] [] σm τ → MD d τ := fun τ o => MD_oS hm o (by decide) (by decide)
    have oM1 : oS [15, 16, 17, 18, 26, 27] [] [11, 13] [] σm τ1 := oS_w o2 (by decide) (by decide) (by decide) (by decide)
    have r2 : sA (uA τ1 11 (upd (sA σm 11) 0 (zI (hs a 0 + 1 : Nat)))) 11 2 = zI (hs a 2) := hM.2.2.2.1.1 2 (by omega)
    have r3 : ∀ v, sA (uI (uA τ1 11 (upd (sA σm 11) 0 (zI (hs a 0 + 1 : Nat)))) 15 v) 11 3 = zI (hs a 3) := fun v => hM.2.2.2.1.1 3 (by omega)
    rw [cl2, cl3, r2, r3]
    have told : f_M_toldOf 4 (uI (uI (uA τ1 11 (upd (sA σm 11) 0 (zI (hs a 0 + 1 : Nat)))) 15 (zI (hs a 2))) 16 (zI (hs a 3))) = some (zI (sV d 1)) := m_told4 (mdt _ (oS_uI (by decide) (oS_uI (by decide) (oS_uA (by decide) oM1))))
    rw [told, bp_s, lt_s', lt_s']
    generalize hσ0 : uI (uI (uI σ1 17 (zI (hs a 0 + 1 : Nat))) 20 (zI (sV d 1))) 21 0 = σx0
    generalize hτ0 : uI (uI (uI (uI (uA τ1 11 (upd (sA σm 11) 0 (zI (hs a 0 + 1 : Nat)))) 15 (zI (hs a 2))) 16 (zI (hs a 3))) 17 (zI (sV d 1))) 18 0 = σm0
    have oX0 : oS [17, 20, 21, 23] [] [10, 11, 12] [] σx σx0 := by
      rw [← hσ0]
      exact oS_uI (by decide) (oS_uI (by decide) (oS_uI (by decide) (oS_w o1 (by decide) (by decide) (by decide) (by decide))))
    have oM0 : oS [15, 16, 17, 18, 26, 27] [] [11, 13] [] σm σm0 := by
      rw [← hτ0]
      exact oS_uI (by decide) (oS_uI (by decide) (oS_uI (by decide) (oS_uI (by decide) (oS_uA (by decide) oM1))))
    obtain ⟨hT, hF, hR, hI, ⟨v, v1, v2, v3⟩, hO⟩ := hQ
    have hst := hw.2.2.2.2.2.1
    obtain ⟨f1, f2, f3⟩ := aB_f ha
    have hrg := hs_range hX (a - aB a) (aB a) (by omega)
    have erg : a - aB a + aB a = a := by omega
    rw [erg] at hrg
    have hW : nW d (cN (hs a)) (hs a 6) (hs (a - aB a) 6) (aB a) := ⟨hw, ⟨by show hs a 0 + 1 ≤ 999; omega, c2, c4, c5, c7⟩, by omega, by omega, by omega⟩
    have r12 : sA σm0 12 = sA σm 12 := oM0.2.2.1 12 (by decide)
    have r11 : sA σm0 11 = upd (sA σm 11) 0 (zI (hs a 0 + 1 : Nat)) := by rw [← hτ0]; rfl
    have hN0 : NR d (cN (hs a)) (hs a 1) (hs a 6) (hs (a - aB a) 6) (aB a) ks σx0 σm0 (hs a 6) σx0 σm0 := by
      refine ⟨v, sV d 1, 0, ks, ⟨v1, by have := hst.2.2.1; omega, by omega, Nat.le_refl _⟩, fun i _ => rfl, fun i h1 h2 => by omega, ⟨XD_oS hx oX0 (by decide) (by decide), ⟨?_, ?_, ?_, ?_, ?_, ?_, ?_⟩, ⟨?_, ?_, ?_, ?_, ?_⟩, ?_⟩, ⟨mdt _ oM0, ⟨?_, ?_, ?_, ?_⟩, ?_, ⟨?_, ?_, ?_⟩, ?_, ?_⟩, ⟨oS_r, fun _ _ => rfl, oS_r, fun _ _ => rfl⟩⟩
      · rw [← hσ0]; rfl
      · rw [oX0.1 18 (by decide), Nat.sub_self, Nat.zero_mul]; exact x18
      · rw [oX0.1 19 (by decide)]; exact x19
      · rw [oX0.2.2.1 9 (by decide)]; exact x90
      · rw [oX0.2.2.1 9 (by decide)]; exact x91
      · rw [oX0.2.2.1 9 (by decide)]; exact x92
      · rw [oX0.1 24 (by decide)]; exact x24
      · rw [← hσ0]; rfl
      · rw [← hσ0]; rfl
      · rw [oX0.1 22 (by decide)]; exact v2
      · rw [← hσ0]; exact x23
      · rw [← hσ0, Nat.sub_self]; exact x12
      · intro i h1 h2
        rw [oX0.2.2.1 13 (by decide)]
        have := hs_mono hX (a - aB a) (by omega)
        exact hX.2.2.2 i h1 (by omega)
      · rw [← hτ0]; rfl
      · rw [← hτ0]; rfl
      · rw [← hτ0]; rfl
      · rw [← hτ0]; rfl
      · rw [oM0.2.1 5 (by decide)]; exact v3
      · rw [r11]; rfl
      · rw [r11]; exact hM.2.2.2.1.1 4 (by omega)
      · rw [r11]; exact hM.2.2.2.1.1 5 (by omega)
      · rw [r11]; exact hM.2.2.2.1.2.1
      · rw [r12]; exact hM.2.2.2.1.2.2
    obtain ⟨kp1, σx1, σm1, u1, u2, u3, u4⟩ := night_loop hW (nT d) 0 FU FU (hs a 6) (sI σx 18) σx0 σm0 (by omega) (FU_gt (by have := hw.2.1; omega)) (FU_gt (by have := hw.2.1; omega)) (by omega) hN0
    rw [Nat.sub_self, Nat.zero_mul] at u2
    have u1' : f_BH_night_51 FU (sI σx 18) 0 σx0 = _ := u1
    have u2' : f_M_night_76 FU 0 0 σm0 = _ := u2
    rw [u1', u2']
    obtain ⟨v', cr', rg', kq, ⟨b1, b2, b3, b4⟩, hks, hwk, ⟨hx1, ⟨y17, y18, y19, y90, y91, y92, y24⟩, ⟨y20, y21, y22, y23, y12⟩, yring⟩, ⟨hm1, ⟨n15, n16, n17, n18⟩, nJ, ⟨n0, n4, n5⟩, n6, nb⟩, ⟨g1, g2, g3, g4⟩⟩ := u3
    have mulb : (kp1 - hs a 6) * hs a 5 ≤ 32 * 9 := Nat.mul_le_mul (by omega) c7
    have cN5 : cN (hs a) 5 = hs a 5 := rfl
    have er : sI σx1 18 - sI σx 18 = zI ((kp1 - hs a 6) * cN (hs a) 5 : Nat) := by
      rw [y18, x18, zI_sub]
      congr 1
      omega
    rw [er]
    have oX : oS [17, 18, 20, 21, 22, 23, 24, 25, 26, 27, 28, 29, 30, 31, 32, 33, 34, 35, 36] [] [10, 11, 12, 13, 14, 15, 16] [] σx σx1 := oS_t (oS_w oX0 (by decide) (by decide) (by decide) (by decide)) (oS_w g1 (by decide) (by decide) (by decide) (by decide))
    have oMm : oS [14, 15, 16, 17, 18, 19, 20, 21, 22, 23, 26, 27] [5] [10, 11, 12, 13] [1] σm σm1 := oS_t (oS_w oM0 (by decide) (by decide) (by decide) (by decide)) (oS_w g3 (by decide) (by decide) (by decide) (by decide))
    generalize hσm2 : uA σm1 11 (upd (sA σm1 11) 1 (sA σm1 11 1 + zI ((kp1 - hs a 6) * cN (hs a) 5 : Nat))) = σm2
    have oM : oS [14, 15, 16, 17, 18, 19, 20, 21, 22, 23, 26, 27] [5] [10, 11, 12, 13] [1] σm σm2 := by
      rw [← hσm2]
      exact oS_uA (by decide) oMm
    -- the new core
    have hst' : stp 4 (hs a) (cN2 (hs a) (kp1 - hs a 6) kp1) := .inr (.inr ⟨rfl, rfl, Nat.le_add_right _ _, rfl, rfl, rfl, rfl, b4, u4⟩)
    have hwc : wfC d (cN2 (hs a) (kp1 - hs a 6) kp1) := by
      refine ⟨by show hs a 0 + 1 ≤ 999; omega, ?_, c2, c3, c4, c5, c6, c7, ?_⟩
      · show hs a 1 + (kp1 - hs a 6) * hs a 5 ≤ 288 * (hs a 0 + 1)
        omega
      · show kp1 ≤ 32 * (hs a 0 + 1)
        omega
    have X' : XH (aB a + 1) (hsP a hs (cN2 (hs a) (kp1 - hs a 6) kp1)) kq σx1 := by
      refine XH_push (k := 4) ha hX y23 ⟨y17, y18, y19, y90, y91, y92, y24⟩ (fun j hj => ?_) ?_ ?_ (fun _ => y12) hst' yring
      · obtain ⟨e1, e2, e3⟩ := xr j hj
        rw [g1.2.2.1 10 (by decide), g1.2.2.1 11 (by decide), g2 j hj, ← hσ0]
        exact ⟨e1, e2, e3⟩
      · rw [g1.2.2.1 10 (by decide), ← hσ0]
        exact x10
      · rw [g1.2.2.1 11 (by decide), ← hσ0]
        show sA σ1 11 (aB a) = zI (hs a 1)
        rw [x11, x18]
    have M' : MH (aB a + 1) ((w + 1) % 20) (hsP a hs (cN2 (hs a) (kp1 - hs a 6) kp1)) kq σm2 := by
      refine MH_push (σ1 := τ1) ha hM m26 m27 k1 k2 k3 ?_ ?_ ?_ ⟨fun i hi => ?_, ?_, ?_⟩ (fun i hi => hks i hi) (hs_mono2 hX)
      · rw [← hσm2]
        show sI σm1 26 = _
        rw [g3.1 26 (by decide), ← hτ0]
        rfl
      · rw [← hσm2]
        show sI σm1 27 = _
        rw [g3.1 27 (by decide), ← hτ0]
        rfl
      · rw [← hσm2]
        show sA σm1 13 = _
        rw [g3.2.2.1 13 (by decide), ← hτ0]
        rfl
      · rw [← hσm2, sA_eq, upd_e]
        match i, hi with
        | 0, _ =>
          rw [if_neg (by omega)]
          exact n0
        | 1, _ =>
          rw [if_pos rfl, g4 1 (by omega), r11]
          have : sA σm 11 1 = zI (hs a 1) := hM.2.2.2.1.1 1 (by omega)
          show sA σm 11 1 + _ = _
          rw [this, zI_add, ← Int.natCast_add]
          rfl
        | 2, _ =>
          rw [if_neg (by omega), g4 2 (by omega), r11]
          exact hM.2.2.2.1.1 2 (by omega)
        | 3, _ =>
          rw [if_neg (by omega), g4 3 (by omega), r11]
          exact hM.2.2.2.1.1 3 (by omega)
        | 4, _ =>
          rw [if_neg (by omega)]
          exact n4
        | 5, _ =>
          rw [if_neg (by omega)]
          exact n5
      · rw [← hσm2, sA_eq, upd_e, if_neg (by omega)]
        exact n6
      · rw [← hσm2]
        exact nb
    have H' : wfH d (aB a + 1) (hsP a hs (cN2 (hs a) (kp1 - hs a 6) kp1)) kq := wfH_push hh hwc (fun i hi => by
      have hi' : i < kp1 := hi
      by_cases q : i < hs a 6
      · rw [hks i q]
        exact hh.2.2 i q
      · exact hwk i (by omega) hi')
    refine ⟨_, _, _, rfl, rfl, ?_, d, hw, hx1, MD_oS hm oM (by decide) (by decide), ?_, _, _, _, _, H', X', M'⟩
    · refine ⟨?_, ?_, ?_, ?_, ⟨v', b1, y22, ?_⟩, ?_⟩
      · unfold rT
        rw [oX.1 3 (by decide), oX.2.2.1 0 (by decide), oM.1 0 (by decide), oM.2.2.1 0 (by decide)]
        exact hT
      · unfold rF
        rw [oX.1 4 (by decide), oX.1 5 (by decide), oM.1 6 (by decide), oM.1 7 (by decide)]
        exact hF
      · unfold rR
        rw [oX.2.2.1 30 (by decide), oM.2.2.1 1 (by decide)]
        exact hR
      · unfold rI
        rw [oX.1 2 (by decide), oX.2.2.1 29 (by decide), oM.1 30 (by decide), oM.2.2.1 15 (by decide)]
        exact hI
      · rw [← hσm2]
        exact nJ
      · unfold rO
        rw [oX.2.2.1 1 (by decide)]
        exact hO
    · unfold rS
      rw [oX.1 0 (by decide), oX.1 1 (by decide), oX.2.2.1 28 (by decide), oM.1 28 (by decide), oM.1 29 (by decide), oM.2.2.1 14 (by decide)]
      exact hS
