-- ===== see =====
section
variable {σx σm : St} {n be : Nat} {z : Int}
theorem see_loop (m3 : sA σm 11 3 = zI be) (x9 : sA σx 9 0 = zI be) (hb : be ≤ 99) (hn : n ≤ 4) (ht : ∀ k, k < n → sA σx 0 k = sA σm 0 k ∧ ∃ b : Nat, b < 256 ∧ sA σm 0 k = zI b) :
    ∀ (m k q q' : Nat), k + m = n → m < q → m < q' → (f_BH_canBeSeen_14 q (zI n) (zI k) σx = some 1 ∧ f_M_see_39 q' (zI z) (zI n) 1 (zI k) σm = f_M_see_77 (zI z) (zI n) 1 σm) ∨ (f_BH_canBeSeen_14 q (zI n) (zI k) σx = some 0 ∧ f_M_see_39 (q' + 1) (zI z) (zI n) 1 (zI k) σm = f_M_see_77 (zI z) (zI n) 0 σm) := by
  intro m
  induction m with
  | zero =>
    intro k q q' h1 h2 h3
    obtain ⟨q, rfl⟩ : ∃ r, q = r + 1 := ⟨q - 1, by omega⟩
    obtain ⟨q', rfl⟩ : ∃ r, q' = r + 1 := ⟨q' - 1, by omega⟩
    have c : zI (n : Int) ≤ zI (k : Int) := by
      rw [zI_le (by omega) (by omega) (by omega) (by omega)]
      omega
    unfold f_BH_canBeSeen_14 f_BH_canBeSeen_14b f_M_see_39 f_M_see_39b
    rw [if_pos c, if_pos c]
    exact .inl ⟨rfl, rfl⟩
  | succ m ih =>
    intro k q q' h1 h2 h3
    obtain ⟨q, rfl⟩ : ∃ r, q = r + 1 := ⟨q - 1, by omega⟩
    obtain ⟨q', rfl⟩ : ∃ r, q' = r + 1 := ⟨q' - 1, by omega⟩
    have c : ¬ zI (n : Int) ≤ zI (k : Int) := by
      rw [zI_le (by omega) (by omega) (by omega) (by omega)]
      omega
    obtain ⟨e, b, hb2, eb⟩ := ht k (by omega)
    have n10 : ¬ (1 : Int32) = 0 := by decide
    have sx : f_BH_canBeSeen_14 (q + 1) (zI n) (zI k) σx = if zI (b : Int) ≤ zI be then f_BH_canBeSeen_14 q (zI n) (zI (k + 1 : Nat)) σx else some 0 := by
      show f_BH_canBeSeen_14b (f_BH_canBeSeen_14 q) (zI n) (zI k) σx = _
      unfold f_BH_canBeSeen_14b
      rw [if_neg c, zI_in (by omega) (by omega) (by omega), gd_t, zI_cl (by omega) (by omega), Int.toNat_natCast, cl0, x9, e, eb, zS, lt_s']
    have sm : ∀ r, f_M_see_39 (r + 1) (zI z) (zI n) 1 (zI k) σm = if zI be < zI (b : Int) then f_M_see_39 r (zI z) (zI n) 0 (zI (k + 1 : Nat)) σm else f_M_see_39 r (zI z) (zI n) 1 (zI (k + 1 : Nat)) σm := by
      intro r
      show f_M_see_39b (f_M_see_39 r) (zI z) (zI n) 1 (zI k) σm = _
      unfold f_M_see_39b
      rw [if_neg c, if_neg n10, zI_in (by omega) (by omega) (by omega), gd_t, zI_cl (by omega) (by omega), Int.toNat_natCast, cl3, m3, eb, zS, lt_s', lt_s']
    have s0 : ∀ r k', f_M_see_39 (r + 1) (zI z) (zI n) 0 k' σm = f_M_see_77 (zI z) (zI n) 0 σm := by
      intro r k'
      show f_M_see_39b (f_M_see_39 r) (zI z) (zI n) 0 k' σm = _
      unfold f_M_see_39b
      by_cases cc : zI (n : Int) ≤ k'
      · rw [if_pos cc]
      · rw [if_neg cc, if_pos rfl]
    by_cases g : b ≤ be
    · have g1 : zI (b : Int) ≤ zI be := by
        rw [zI_le (by omega) (by omega) (by omega) (by omega)]
        omega
      have g2 : ¬ zI be < zI (b : Int) := by
        rw [zI_lt (by omega) (by omega) (by omega) (by omega)]
        omega
      rw [sx, sm, sm, if_pos g1, if_neg g2, if_neg g2]
      exact ih (k + 1) q q' (by omega) (by omega) (by omega)
    · have g1 : ¬ zI (b : Int) ≤ zI be := by
        rw [zI_le (by omega) (by omega) (by omega) (by omega)]
        omega
      have g2 : zI be < zI (b : Int) := by
        rw [zI_lt (by omega) (by omega) (by omega) (by omega)]
        omega
      rw [sx, sm, sm, if_neg g1, if_pos g2, if_pos g2, s0]
      exact .inr ⟨rfl, rfl⟩
theorem x_copy (hn : n ≤ 4) : ∀ (m k q : Nat) (g : Nat → Int32), k + m = n → m < q → (∀ i, i < k → g i = sA σx 0 i) → ∃ g', f_BH_see_46 q (zI z) (zI n) (zI k) (uA σx 28 g) = some (1, uI (uI (uA σx 28 g') 0 (zI n)) 1 (zI z)) ∧ ∀ i, i < n → g' i = sA σx 0 i := by
  intro m
  induction m with
  | zero =>
    intro k q g h1 h2 h3
    obtain ⟨q, rfl⟩ : ∃ r, q = r + 1 := ⟨q - 1, by omega⟩
    have c : zI (n : Int) ≤ zI (k : Int) := by
      rw [zI_le (by omega) (by omega) (by omega) (by omega)]
      omega
    unfold f_BH_see_46 f_BH_see_46b
    rw [if_pos c]
    exact ⟨g, rfl, fun i hi => h3 i (by omega)⟩
  | succ m ih =>
    intro k q g h1 h2 h3
    obtain ⟨q, rfl⟩ : ∃ r, q = r + 1 := ⟨q - 1, by omega⟩
    have c : ¬ zI (n : Int) ≤ zI (k : Int) := by
      rw [zI_le (by omega) (by omega) (by omega) (by omega)]
      omega
    unfold f_BH_see_46 f_BH_see_46b
    rw [if_neg c, zI_in (by omega) (by omega) (by omega), gd_t, zI_in (by omega) (by omega) (by omega), gd_t, zI_cl (by omega) (by omega), Int.toNat_natCast, zS, lt_s', lt_s', uA_uA]
    refine ih (k + 1) q _ (by omega) (by omega) (fun i hi => ?_)
    rw [upd_e]
    by_cases ci : i = k
    · rw [if_pos ci, ci]
      rfl
    · rw [if_neg ci]
      exact h3 i (by omega)
theorem m_copy (hn : n ≤ 4) : ∀ (m k q : Nat) (g : Nat → Int32), k + m = n → m < q → (∀ i, i < k → g i = sA σm 0 i) → ∃ g', f_M_see_106 q (zI n) (zI k) (uA σm 14 g) = some (1, uA σm 14 g') ∧ ∀ i, i < n → g' i = sA σm 0 i := by
  intro m
  induction m with
  | zero =>
    intro k q g h1 h2 h3
    obtain ⟨q, rfl⟩ : ∃ r, q = r + 1 := ⟨q - 1, by omega⟩
    have c : zI (n : Int) ≤ zI (k : Int) := by
      rw [zI_le (by omega) (by omega) (by omega) (by omega)]
      omega
    unfold f_M_see_106 f_M_see_106b
    rw [if_pos c]
    exact ⟨g, rfl, fun i hi => h3 i (by omega)⟩
  | succ m ih =>
    intro k q g h1 h2 h3
    obtain ⟨q, rfl⟩ : ∃ r, q = r + 1 := ⟨q - 1, by omega⟩
    have c : ¬ zI (n : Int) ≤ zI (k : Int) := by
      rw [zI_le (by omega) (by omega) (by omega) (by omega)]
      omega
    unfold f_M_see_106 f_M_see_106b
    rw [if_neg c, zI_in (by omega) (by omega) (by omega), gd_t, zI_in (by omega) (by omega) (by omega), gd_t, zI_cl (by omega) (by omega), Int.toNat_natCast, zS, lt_s', lt_s', uA_uA]
    refine ih (k + 1) q _ (by omega) (by omega) (fun i hi => ?_)
    rw [upd_e]
    by_cases ci : i = k
    · rw [if_pos ci, ci]
      rfl
    · rw [if_neg ci]
      exact h3 i (by omega)
end
theorem uA_same (σ : St) (k : Nat) : uA σ k (sA σ k) = σ := by
  unfold uA sA
  obtain ⟨a, b, c, d⟩ := σ
  have : va_up c k (c k) = c := by
    funext j
    unfold va_up
    split <;> rename_i q
    · rw [q]
    · rfl
  exact congrArg (fun z => (a, b, z, d)) this
theorem rel_tape0 {σx σm : St} (h : Rel σx σm) : Rel (uI σx 3 0) (uI σm 0 0) := rel_tape (n := 0) (by omega) h (fun k hk => by omega)
theorem sim_see : Sim_see Rel := by
  intro a1 σx σm h
  obtain ⟨z, h1, h2, rfl⟩ := zI_of a1
  have h0 := rel_tape0 h
  obtain ⟨n, hn, e1, e2, hb⟩ : rT σx σm := h.1.1
  unfold f_BH_see f_M_see
  rw [e1, e2, lt_s', lt_s', lt_s', lt_s']
  have h0' := h0
  obtain ⟨hQ, d, hw, hx, hm, hS, a, w, hs, ks, hh, hX, hM⟩ := h0
  have hc := hh.2.1 a (Nat.le_refl a)
  have hbe := hc.2.2.2.2.1
  rw [x_isTrier hw hx h1 h2, m_isTrier hw hm h1 h2, bp_s, bp_s]
  have s0 : ∀ r k' σ, f_M_see_39 (r + 1) (zI z) (zI n) 0 k' σ = f_M_see_77 (zI z) (zI n) 0 σ := by
    intro r k' σ
    show f_M_see_39b (f_M_see_39 r) (zI z) (zI n) 0 k' σ = _
    unfold f_M_see_39b
    by_cases cc : zI (n : Int) ≤ k'
    · rw [if_pos cc]
    · rw [if_neg cc, if_pos rfl]
  have eFU : FU = 99999 + 1 := rfl
  have no : ∃ r σx1 σm1, f_BH_see_32 (uI σx 3 0) = some (r, σx1) ∧ f_M_see_77 (zI z) (zI n) 0 (uI σm 0 0) = some (r, σm1) ∧ Rel σx1 σm1 := by
    unfold f_BH_see_32 f_M_see_77
    rw [if_pos rfl]
    exact ⟨_, _, _, rfl, rfl, rel_no (k := 1) (by omega) h0'⟩
  have no' : ∃ r σx1 σm1, f_BH_see_32 (uI σx 3 0) = some (r, σx1) ∧ f_M_see_34 (zI z) (zI n) (uI σm 0 0) = some (r, σm1) ∧ Rel σx1 σm1 := by
    unfold f_M_see_34
    rw [eFU, s0]
    exact no
  by_cases c : 0 ≤ z ∧ z < nT d
  · rw [if_neg (fun e => bz0.mp e c), if_neg (fun e => bz0.mp e c)]
    have hin : f_M_isIn (zI (n : Int)).toInt64 1 4 (uI σm 0 0) = some (if 1 ≤ (n : Int) ∧ (n : Int) ≤ 4 then zI 1 else zI 0) := by
      simp (disch := omega) only [zI_lit, zJ_lit, zI_neg, zJ_neg, zI_add, zI_sub, zI_mul, zJ_add, zJ_sub, zJ_mul, zI_lt, zI_le, zI_eq, zJ_lt, zJ_le, zJ_eq, zJ_w, zJ_n, in_z, zI_cl, zI_in, nz_z, nzJ_z, iMin_z, iMax_z, lg_cmp_lt, lg_cmp_le, lg_cmp_gt, lg_cmp_ge, lg_cmp_eq, lt_q, gd_q, bp_q, bd_q, Int.toNat_natCast, Int.toNat_zero, Int.toNat_one, Int.reduceToNat, ite_true, ite_false, bz, isB_i, isB0, isB1]
    rw [hin, bp_s]
    unfold f_BH_canBeSeen
    have k1 : (zI (n : Int) < 1) ↔ n < 1 := by
      have : (1 : Int32) = zI 1 := rfl
      rw [this, zI_lt (by omega) (by omega) (by omega) (by omega)]
      omega
    have k4 : (zI (n : Int) ≤ 4) ↔ n ≤ 4 := by
      have : (4 : Int32) = zI 4 := rfl
      rw [this, zI_le (by omega) (by omega) (by omega) (by omega)]
      omega
    by_cases c2 : 1 ≤ n ∧ n ≤ 4
    · rw [if_neg (fun e => bz0.mp e (by omega)), if_neg (fun e => by have := k1.mp e; omega), if_pos (k4.mpr c2.2)]
      have m3 : sA (uI σm 0 0) 11 3 = _ := hM.2.2.2.1.1 3 (by omega)
      rcases see_loop (σx := uI σx 3 0) (σm := uI σm 0 0) (z := z) m3 hX.2.1.2.2.2.1 hbe c2.2 hb n 0 FU 99999 (by omega) (FU_gt (by omega)) (by omega) with ⟨q1, q2⟩ | ⟨q1, q2⟩
      · have e00 : (0 : Int32) = zI (0 : Nat) := rfl
        have q1' : f_BH_canBeSeen_14 FU (zI n) 0 (uI σx 3 0) = some 1 := q1
        have q2' : f_M_see_39 FU (zI z) (zI n) 1 0 (uI σm 0 0) = f_M_see_77 (zI z) (zI n) 1 (uI σm 0 0) := by
          rcases see_loop (σx := uI σx 3 0) (σm := uI σm 0 0) (z := z) m3 hX.2.1.2.2.2.1 hbe c2.2 hb n 0 FU FU (by omega) (FU_gt (by omega)) (FU_gt (by omega)) with ⟨p1, p2⟩ | ⟨p1, p2⟩
          · exact p2
          · rw [q1] at p1
            exact absurd (Option.some.inj p1) (by decide)
        rw [q1', q2', bp_s, if_neg (by decide)]
        obtain ⟨g, g1, g2⟩ := x_copy (σx := uI σx 3 0) (z := z) c2.2 n 0 FU (sA (uI σx 3 0) 28) (by omega) (FU_gt (by omega)) (fun i hi => by omega)
        rw [uA_same] at g1
        obtain ⟨g', g3, g4⟩ := m_copy (σm := uI (uI (uI σm 0 0) 28 (zI n)) 29 (zI z)) c2.2 n 0 FU (sA (uI (uI (uI σm 0 0) 28 (zI n)) 29 (zI z)) 14) (by omega) (FU_gt (by omega)) (fun i hi => by omega)
        rw [uA_same] at g3
        unfold f_M_see_77
        rw [if_neg (by decide), lt_s', lt_s']
        refine ⟨_, _, _, g1, g3, ?_⟩
        obtain ⟨t, rfl⟩ := Int.eq_ofNat_of_zero_le c.1
        refine ⟨hQ, d, hw, hx, hm, ?_, a, w, hs, ks, hh, hX, hM⟩
        refine ⟨n, c2.2, rfl, rfl, fun _ => ⟨t, by omega, rfl, rfl, fun k hk => ?_⟩⟩
        show g k = g' k
        rw [g2 k hk, g4 k hk]
        exact (hb k hk).1
      · have q1' : f_BH_canBeSeen_14 FU (zI n) 0 (uI σx 3 0) = some 0 := q1
        have q2' : f_M_see_39 FU (zI z) (zI n) 1 0 (uI σm 0 0) = f_M_see_77 (zI z) (zI n) 0 (uI σm 0 0) := q2
        rw [q1', q2', bp_s, if_pos rfl]
        exact no
    · have hX0 : (if zI (n : Int) < 1 then some (0 : Int32) else if zI (n : Int) ≤ 4 then f_BH_canBeSeen_14 FU (zI n) 0 (uI σx 3 0) else some 0) = some 0 := by
        by_cases c3 : n < 1
        · rw [if_pos (k1.mpr c3)]
        · rw [if_neg (fun e => c3 (k1.mp e)), if_neg (fun e => by have := k4.mp e; omega)]
      rw [hX0, bp_s, if_pos rfl, if_pos (bz0.mpr (by omega))]
      exact no'
  · rw [if_pos (bz0.mpr c), if_pos (bz0.mpr c)]
    exact no'
