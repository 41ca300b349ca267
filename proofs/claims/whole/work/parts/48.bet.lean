-- ===== bet, feed =====
theorem zS (k : Nat) : (zI (k : Int) + 1) = zI ((k + 1 : Nat) : Int) := by
  rw [zI_lit, zI_add]
  rfl
section
variable {d : FD} {σx σm : St} {t u p : Nat}
theorem bet_in (hw : wfD d) (hx : XD d σx) (hm : MD d σm) (ht : t < nT d) (hu : u < nT d) (hp : p ≤ 1) {i : Nat} (hi : i ≤ tV d t 1) (K : Int32 → Int32 → Int32 → Int32 → Int32 → St → Option Int32) (K' : Int32 → Int32 → Int32 → Int32 → Int32 → St → Option Int32) {G : Nat → Int32 → Prop}
    (H : ∀ cnt, cnt ≤ 6 * (i + 1) → ∃ r q : Int32, K (zI t) (zI u) (zI p) (zI cnt) (zI (i + 1 : Nat)) σx = some r ∧ K' (zI t) (zI u) (zI p) (zI cnt) (zI (i + 1 : Nat)) σm = some q ∧ ∃ c : Nat, c ≤ 36 ∧ r = zI c ∧ G c q) :
    ∀ (m j cnt n n' : Nat), tV d u 1 + 1 - j ≤ m → m < n → m < n' → j ≤ tV d u 1 + 1 → cnt ≤ 6 * i + j → ∃ r q : Int32, f_BH_wonPairs_40 K n (zI t) (zI u) (zI p) (zI cnt) (zI i) (zI (rz (tV d t 0) i 0)) (zI j) σx = some r ∧ f_M_bet_53 K' n' (zI t) (zI u) (zI p) (zI cnt) (zI i) (zI j) σm = some q ∧ ∃ c : Nat, c ≤ 36 ∧ r = zI c ∧ G c q := by
  have hT := hw.2.2.2.2.1 t ht
  have hU := hw.2.2.2.2.1 u hu
  obtain ⟨f1, f2, a1, -⟩ := hT
  obtain ⟨f3, f4, a2, -⟩ := hU
  have xu1 : f_Fair_trait (zI u) 1 σx = _ := x_trait (j := 1) hw hx hu (by omega)
  have xu0 : f_Fair_trait (zI u) 0 σx = _ := x_trait (j := 0) hw hx hu (by omega)
  have mu1 : f_M_trierOf (zI u) 1 σm = _ := m_trierOf (j := 1) hw hm hu (by omega)
  have mu0 : f_M_trierOf (zI u) 0 σm = _ := m_trierOf (j := 0) hw hm hu (by omega)
  have mt0 : f_M_trierOf (zI t) 0 σm = _ := m_trierOf (j := 0) hw hm ht (by omega)
  have e0 : (0 : Int32) = zI (0 : Nat) := rfl
  intro m
  induction m with
  | zero =>
    intro j cnt n n' h1 h2 h3 h4 h5
    obtain ⟨n, rfl⟩ : ∃ q, n = q + 1 := ⟨n - 1, by omega⟩
    obtain ⟨n', rfl⟩ : ∃ q, n' = q + 1 := ⟨n' - 1, by omega⟩
    unfold f_BH_wonPairs_40 f_M_bet_53 f_BH_wonPairs_40b f_M_bet_53b
    rw [xu1, mu1, bp_s, bp_s, zS, lt_s']
    have cc : zI (tV d u 1) < zI (j : Int) := by
      rw [zI_lt (by omega) (by omega) (by omega) (by omega)]
      omega
    rw [if_pos cc, if_pos cc]
    exact H cnt (by omega)
  | succ m ih =>
    intro j cnt n n' h1 h2 h3 h4 h5
    by_cases cj : j = tV d u 1 + 1
    · exact ih j cnt n n' (by omega) (by omega) (by omega) (by omega) h5
    · obtain ⟨n, rfl⟩ : ∃ q, n = q + 1 := ⟨n - 1, by omega⟩
      obtain ⟨n', rfl⟩ : ∃ q, n' = q + 1 := ⟨n' - 1, by omega⟩
      unfold f_BH_wonPairs_40 f_M_bet_53 f_BH_wonPairs_40b f_M_bet_53b
      have xr : f_BH_rise (zI (tV d u 0)) (zI j) 0 σx = _ := x_rise (f := tV d u 0) (o := j) (s := 0) σx f4 (by omega) (by omega)
      have mr : f_M_raisedBy (zI (tV d u 0)) (zI j) σm = _ := m_raisedBy (f := tV d u 0) (o := j) σm f4 (by omega)
      have mr2 : f_M_raisedBy (zI (tV d t 0)) (zI i) σm = _ := m_raisedBy (f := tV d t 0) (o := i) σm f2 (by omega)
      have cc : ¬ zI (tV d u 1) < zI (j : Int) := by
        rw [zI_lt (by omega) (by omega) (by omega) (by omega)]
        omega
      have b1 := rz_b (f := tV d t 0) (o := i) (s := 0) f2
      have b2 := rz_b (f := tV d u 0) (o := j) (s := 0) f4
      simp only [xu1, mu1, xu0, mu0, mt0, xr, mr, mr2, bp_q, lt_q, zS, if_neg cc]
      have A := ih (j + 1) cnt n n' (by omega) (by omega) (by omega) (by omega) (by omega)
      have B := ih (j + 1) (cnt + 1) n n' (by omega) (by omega) (by omega) (by omega) (by omega)
      by_cases c0 : zI (p : Int) = 0
      · simp only [if_pos c0]
        by_cases c1 : zI (rz (tV d t 0) i 0) ≤ zI (rz (tV d u 0) j 0)
        · simp only [if_pos c1]
          exact A
        · simp only [if_neg c1]
          exact B
      · simp only [if_neg c0]
        by_cases c1 : zI (rz (tV d t 0) i 0) = zI (rz (tV d u 0) j 0)
        · simp only [if_pos c1]
          exact B
        · simp only [if_neg c1]
          exact A
theorem bet_out (hw : wfD d) (hx : XD d σx) (hm : MD d σm) (ht : t < nT d) (hu : u < nT d) (hp : p ≤ 1) :
    ∀ (m i cnt n n' : Nat), tV d t 1 + 1 - i ≤ m → m < n → m < n' → i ≤ tV d t 1 + 1 → cnt ≤ 6 * i → ∃ r q : Int32, f_BH_wonPairs_6 n (zI t) (zI u) (zI p) (zI cnt) (zI i) σx = some r ∧ f_M_bet_39 n' (zI t) (zI u) (zI p) (zI cnt) (zI i) σm = some q ∧ ∃ c : Nat, c ≤ 36 ∧ r = zI c ∧ q = zI (1000 * c / ((tV d t 1 + 1) * (tV d u 1 + 1)) : Nat) := by
  have hT := hw.2.2.2.2.1 t ht
  have hU := hw.2.2.2.2.1 u hu
  obtain ⟨f1, f2, a1, -⟩ := hT
  obtain ⟨f3, f4, a2, -⟩ := hU
  have xt1 : f_Fair_trait (zI t) 1 σx = _ := x_trait (j := 1) hw hx ht (by omega)
  have xt0 : f_Fair_trait (zI t) 0 σx = _ := x_trait (j := 0) hw hx ht (by omega)
  have mu1 : f_M_trierOf (zI u) 1 σm = _ := m_trierOf (j := 1) hw hm hu (by omega)
  have mt1 : f_M_trierOf (zI t) 1 σm = _ := m_trierOf (j := 1) hw hm ht (by omega)
  intro m
  induction m with
  | zero =>
    intro i cnt n n' h1 h2 h3 h4 h5
    obtain ⟨n, rfl⟩ : ∃ q, n = q + 1 := ⟨n - 1, by omega⟩
    obtain ⟨n', rfl⟩ : ∃ q, n' = q + 1 := ⟨n' - 1, by omega⟩
    unfold f_BH_wonPairs_6 f_M_bet_39 f_BH_wonPairs_6b f_M_bet_39b
    have cc : zI (tV d t 1) < zI (i : Int) := by
      rw [zI_lt (by omega) (by omega) (by omega) (by omega)]
      omega
    have hpos : 0 < (tV d t 1 + 1) * (tV d u 1 + 1) := Nat.mul_pos (by omega) (by omega)
    have hle : (tV d t 1 + 1) * (tV d u 1 + 1) ≤ 6 * 6 := Nat.mul_le_mul (by omega) (by omega)
    have e1000 : (1000 : Int32) = zI (1000 : Nat) := rfl
    simp only [xt1, mt1, mu1, bp_q, zS, if_pos cc, zI_mul, e1000, ← Int.natCast_mul]
    rw [nz_z (by omega) (by omega) (by omega), gd_t, zdn (by omega) hpos (by omega)]
    exact ⟨_, _, rfl, rfl, cnt, by omega, rfl, rfl⟩
  | succ m ih =>
    intro i cnt n n' h1 h2 h3 h4 h5
    by_cases ci : i = tV d t 1 + 1
    · exact ih i cnt n n' (by omega) (by omega) (by omega) (by omega) h5
    · obtain ⟨n, rfl⟩ : ∃ q, n = q + 1 := ⟨n - 1, by omega⟩
      obtain ⟨n', rfl⟩ : ∃ q, n' = q + 1 := ⟨n' - 1, by omega⟩
      unfold f_BH_wonPairs_6 f_M_bet_39 f_BH_wonPairs_6b f_M_bet_39b
      have xr : f_BH_rise (zI (tV d t 0)) (zI i) 0 σx = _ := x_rise (f := tV d t 0) (o := i) (s := 0) σx f2 (by omega) (by omega)
      have cc : ¬ zI (tV d t 1) < zI (i : Int) := by
        rw [zI_lt (by omega) (by omega) (by omega) (by omega)]
        omega
      simp only [xt1, mt1, xt0, xr, bp_q, if_neg cc]
      have e0 : (0 : Int32) = zI (0 : Nat) := rfl
      rw [e0]
      obtain ⟨r, q, q1, q2, q3⟩ := bet_in hw hx hm ht hu hp (i := i) (by omega) (f_BH_wonPairs_6 n) (f_M_bet_39 n') (G := fun c q => q = zI (1000 * c / ((tV d t 1 + 1) * (tV d u 1 + 1)) : Nat)) (fun cnt hc => ih (i + 1) cnt n n' (by omega) (by omega) (by omega) (by omega) hc) 6 0 cnt FU FU (by omega) (FU_gt (by omega)) (FU_gt (by omega)) (by omega) (by omega)
      exact ⟨r, q, q1, q2, q3⟩
end
theorem sim_bet : Sim_bet Rel := by
  intro a1 a2 a3 σx σm h
  obtain ⟨t, h1, h2, rfl⟩ := zI_of a1
  obtain ⟨u, h3, h4, rfl⟩ := zI_of a2
  obtain ⟨p, h5, h6, rfl⟩ := zI_of a3
  obtain ⟨hQ, d, hw, hx, hm, -⟩ := h
  have hn := hw.2.1
  unfold f_BH_bet f_M_bet
  rw [x_isTrier hw hx h1 h2, x_isTrier hw hx h3 h4, m_isTrier hw hm h1 h2, m_isTrier hw hm h3 h4]
  simp (disch := omega) only [zI_lit, zJ_lit, zI_neg, zJ_neg, zI_add, zI_sub, zI_mul, zJ_add, zJ_sub, zJ_mul, zI_lt, zI_le, zI_eq, zJ_lt, zJ_le, zJ_eq, zJ_w, zJ_n, in_z, zI_cl, zI_in, nz_z, nzJ_z, iMin_z, iMax_z, lg_cmp_lt, lg_cmp_le, lg_cmp_gt, lg_cmp_ge, lg_cmp_eq, lt_q, gd_q, bp_q, bd_q, Int.toNat_natCast, Int.toNat_zero, Int.toNat_one, Int.reduceToNat, ite_true, ite_false, bz, isB_i, isB0, isB1]
  by_cases c1 : 0 ≤ t ∧ t < nT d
  · simp only [if_neg (show ¬ ¬ (0 ≤ t ∧ t < nT d) by omega)]
    by_cases c2 : 0 ≤ u ∧ u < nT d
    · simp only [if_neg (show ¬ ¬ (0 ≤ u ∧ u < nT d) by omega)]
      by_cases c3 : t = u
      · simp only [if_pos c3]
        exact ⟨_, rfl, rfl⟩
      · simp only [if_neg c3]
        by_cases c4 : 0 ≤ p ∧ p ≤ 1
        · obtain ⟨t, rfl⟩ := Int.eq_ofNat_of_zero_le c1.1
          obtain ⟨u, rfl⟩ := Int.eq_ofNat_of_zero_le c2.1
          obtain ⟨p, rfl⟩ := Int.eq_ofNat_of_zero_le c4.1
          obtain ⟨r, q, q1, q2, c, hc, rfl, rfl⟩ := bet_out (σx := σx) (σm := σm) (t := t) (u := u) (p := p) hw hx hm (by omega) (by omega) (by omega) 6 0 0 FU FU (by have := (hw.2.2.2.2.1 t (by omega)).2.2.1; omega) (FU_gt (by omega)) (FU_gt (by omega)) (by omega) (by omega)
          have hT := hw.2.2.2.2.1 t (by omega)
          have hU := hw.2.2.2.2.1 u (by omega)
          obtain ⟨f1, f2, a1, -⟩ := hT
          obtain ⟨f3, f4, a2, -⟩ := hU
          have xt1 : f_Fair_trait (zI t) (zI 1) σx = _ := x_trait (j := 1) hw hx (show t < nT d by omega) (by omega)
          have xu1 : f_Fair_trait (zI u) (zI 1) σx = _ := x_trait (j := 1) hw hx (show u < nT d by omega) (by omega)
          have q1' : f_BH_wonPairs (zI t) (zI u) (zI p) σx = some (zI c) := q1
          have q2' : f_M_bet_39 FU (zI t) (zI u) (zI p) (zI 0) (zI 0) σm = _ := q2
          refine ⟨_, ?_, by rw [if_neg (show ¬ ¬ (0 ≤ (p : Int) ∧ (p : Int) ≤ 1) by omega)]; exact q2'⟩
          have hpos : 0 < (tV d t 1 + 1) * (tV d u 1 + 1) := Nat.mul_pos (by omega) (by omega)
          have hle : (tV d t 1 + 1) * (tV d u 1 + 1) ≤ 6 * 6 := Nat.mul_le_mul (by omega) (by omega)
          have ecast : ((tV d t 1 : Int) + 1) * ((tV d u 1 : Int) + 1) = (((tV d t 1 + 1) * (tV d u 1 + 1) : Nat) : Int) := by
            rw [Int.natCast_mul]
            rfl
          have ecast2 : (1000 : Int) * (c : Int) = ((1000 * c : Nat) : Int) := by omega
          have main : f_BH_bet_32 (zI t) (zI u) (zI p) σx = some (zI (1000 * c / ((tV d t 1 + 1) * (tV d u 1 + 1)) : Nat)) := by
            unfold f_BH_bet_32
            simp only [zI_lit]
            rw [xt1, bp_s, xu1, bp_s, lt_s', q1', zI_add, zI_add, zI_mul, ecast, bp_s, zI_mul, ecast2]
            have g : zI 0 < zI (((tV d t 1 + 1) * (tV d u 1 + 1) : Nat) : Int) := by
              rw [zI_lt (by omega) (by omega) (by omega) (by omega)]
              omega
            rw [if_pos g, nz_z (by omega) (by omega) (by omega), gd_t, zdn (by omega) hpos (by omega)]
          rw [main]
          by_cases cp : (p : Int) = 0
          · rw [if_pos cp]
          · rw [if_neg cp, if_pos (by omega)]
        · simp only [if_pos c4]
          refine ⟨_, ?_, rfl⟩
          rw [if_neg (by omega), if_neg (by omega)]
    · simp only [if_pos c2]
      exact ⟨_, rfl, rfl⟩
  · simp only [if_pos c1]
    exact ⟨_, rfl, rfl⟩
