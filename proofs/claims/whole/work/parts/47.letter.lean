-- ===== hard, wide, letter =====
theorem x_wouldRing {f o l be sl : Nat} {σ : St} (hf : f ≤ 99) (ho : o ≤ 9) (hl : l ≤ 1) (h0 : sA σ 9 0 = zI be) (h1 : sA σ 9 1 = zI sl) (hb : be ≤ 99) (hs : sl ≤ 90) : f_BH_wouldRing (zI f) (zI o) (zI l) σ = some (if be ≤ rz f o (if l = 0 then 0 else sl) then zI 1 else zI 0) := by
  have b1 := rz_b (o := o) (s := 0) hf
  have b2 := rz_b (o := o) (s := sl) hf
  have e00 : (0 : Int32) = zI (0 : Nat) := rfl
  have l0 : (zI (l : Int) = zI (0 : Nat)) ↔ l = 0 := by
    rw [zI_eq (by omega) (by omega) (by omega) (by omega)]
    omega
  unfold f_BH_wouldRing f_BH_wouldRing_19
  rw [cl0, cl1, h0, h1, e00]
  have e10 : (1 : Int32) = zI 1 := rfl
  by_cases q : l = 0
  · rw [if_pos (l0.mpr q), if_pos q, x_rise σ hf ho (by omega), bp_s]
    simp (disch := omega) only [zI_lt]
    rw [e10]
    by_cases c : be ≤ rz f o 0
    · rw [if_neg (by omega), if_pos c]
    · rw [if_pos (by omega), if_neg c]
      rfl
  · rw [if_neg (fun e => q (l0.mp e)), if_neg q, x_rise σ hf ho (by omega), bp_s]
    simp (disch := omega) only [zI_lt]
    rw [e10]
    by_cases c : be ≤ rz f o sl
    · rw [if_neg (by omega), if_pos c]
    · rw [if_pos (by omega), if_neg c]
      rfl
theorem m_heightBy' {f o s l : Nat} (σ : St) (hf : f ≤ 99) (ho : o ≤ 9) (hs : s ≤ 90) (hl : l ≤ 1) (h : sA σ 11 4 = zI s) : f_M_heightBy (zI f) (zI o) (zI l) σ = some (zI (rz f o (if l = 0 then 0 else s) : Nat)) := by
  rw [m_heightBy σ hf ho hs h]
  have e00 : (0 : Int32) = zI (0 : Nat) := rfl
  have : (zI (l : Int) = 0) ↔ l = 0 := by
    rw [e00, zI_eq (by omega) (by omega) (by omega) (by omega)]
    omega
  simp only [this]
theorem hard_loop {σx σm : St} {o l be sl : Nat} (ho : o ≤ 9) (hl : l ≤ 1) (hb : be ≤ 99) (hs : sl ≤ 90) (x0 : sA σx 9 0 = zI be) (x1 : sA σx 9 1 = zI sl) (m3 : sA σm 11 3 = zI be) (m4 : sA σm 11 4 = zI sl) :
    ∀ (m k n n' : Nat), 100 - k ≤ m → m < n → m < n' → k ≤ 100 → ∃ r : Int32, f_BH_hard_11 n (zI o) (zI l) (zI k) σx = some r ∧ f_M_hard_16 n' (zI o) (zI l) (zI k) σm = some r := by
  intro m
  induction m with
  | zero =>
    intro k n n' h3 h4 h5 h6
    obtain ⟨n, rfl⟩ : ∃ q, n = q + 1 := ⟨n - 1, by omega⟩
    obtain ⟨n', rfl⟩ : ∃ q, n' = q + 1 := ⟨n' - 1, by omega⟩
    unfold f_BH_hard_11 f_M_hard_16 f_BH_hard_11b f_M_hard_16b
    simp (disch := omega) only [zI_lit, zJ_lit, zI_neg, zJ_neg, zI_add, zI_sub, zI_mul, zJ_add, zJ_sub, zJ_mul, zI_lt, zI_le, zI_eq, zJ_lt, zJ_le, zJ_eq, zJ_w, zJ_n, in_z, zI_cl, zI_in, nz_z, nzJ_z, iMin_z, iMax_z, lg_cmp_lt, lg_cmp_le, lg_cmp_gt, lg_cmp_ge, lg_cmp_eq, lt_q, gd_q, bp_q, bd_q, Int.toNat_natCast, Int.toNat_zero, Int.toNat_one, Int.reduceToNat, ite_true, ite_false, bz, isB_i, isB0, isB1]
    exact ⟨_, if_pos (by omega), if_pos (by omega)⟩
  | succ m ih =>
    intro k n n' h3 h4 h5 h6
    obtain ⟨n, rfl⟩ : ∃ q, n = q + 1 := ⟨n - 1, by omega⟩
    obtain ⟨n', rfl⟩ : ∃ q, n' = q + 1 := ⟨n' - 1, by omega⟩
    unfold f_BH_hard_11 f_M_hard_16 f_BH_hard_11b f_M_hard_16b
    by_cases c : k = 100
    · subst c
      simp (disch := omega) only [zI_lit, zJ_lit, zI_neg, zJ_neg, zI_add, zI_sub, zI_mul, zJ_add, zJ_sub, zJ_mul, zI_lt, zI_le, zI_eq, zJ_lt, zJ_le, zJ_eq, zJ_w, zJ_n, in_z, zI_cl, zI_in, nz_z, nzJ_z, iMin_z, iMax_z, lg_cmp_lt, lg_cmp_le, lg_cmp_gt, lg_cmp_ge, lg_cmp_eq, lt_q, gd_q, bp_q, bd_q, Int.toNat_natCast, Int.toNat_zero, Int.toNat_one, Int.reduceToNat, ite_true, ite_false, bz, isB_i, isB0, isB1]
      exact ⟨_, if_pos (by omega), if_pos (by omega)⟩
    · rw [x_wouldRing (by omega) ho hl x0 x1 hb hs, m_heightBy' σm (by omega) ho hs hl m4, cl3, m3]
      have b2 := rz_b (f := k) (o := o) (s := if l = 0 then 0 else sl) (by omega)
      have ek : (zI (k : Int) + 1) = zI ((k + 1 : Nat) : Int) := by
        rw [zI_lit, zI_add]
        rfl
      simp only [ek]
      simp (disch := omega) only [zI_lit, zJ_lit, zI_neg, zJ_neg, zI_add, zI_sub, zI_mul, zJ_add, zJ_sub, zJ_mul, zI_lt, zI_le, zI_eq, zJ_lt, zJ_le, zJ_eq, zJ_w, zJ_n, in_z, zI_cl, zI_in, nz_z, nzJ_z, iMin_z, iMax_z, lg_cmp_lt, lg_cmp_le, lg_cmp_gt, lg_cmp_ge, lg_cmp_eq, lt_q, gd_q, bp_q, bd_q, Int.toNat_natCast, Int.toNat_zero, Int.toNat_one, Int.reduceToNat, ite_true, ite_false, bz, isB_i, isB0, isB1]
      rw [if_neg (show ¬ (99 : Int) < k by omega), if_neg (show ¬ (100 : Int) ≤ k by omega)]
      by_cases c2 : be ≤ rz k o (if l = 0 then 0 else sl)
      · rw [if_neg (by omega), if_neg (by omega)]
        exact ⟨_, rfl, rfl⟩
      · rw [if_pos c2, if_pos (by omega)]
        exact ih (k + 1) n n' (by omega) (by omega) (by omega) (by omega)
theorem sim_hard : Sim_hard Rel := by
  intro a1 a2 σx σm h hl
  obtain ⟨o, h1, h2, rfl⟩ := zI_of a1
  obtain ⟨l, hl', rfl, -⟩ := yn hl
  replace hl := hl'
  obtain ⟨hQ, d, hw, hx, hm, hS, a, w, hs, ks, hh, hX, hM⟩ := h
  have hc := hh.2.1 a (Nat.le_refl a)
  unfold f_BH_hard f_M_hard
  rw [x_isOff _ h1 h2]
  have e1 : (1 : Int32) = zI (1 : Nat) := rfl
  have q := e1
  by_cases c : 0 ≤ o ∧ o ≤ 9
  · obtain ⟨o, rfl⟩ := Int.eq_ofNat_of_zero_le c.1
    obtain ⟨r, q1, q2⟩ := hard_loop (σx := σx) (σm := σm) (o := o) (l := l) (by omega) hl hc.2.2.2.2.1 hc.2.2.2.2.2.1 hX.2.1.2.2.2.1 hX.2.1.2.2.2.2.1 (hM.2.2.2.1.1 3 (by omega)) (hM.2.2.2.1.1 4 (by omega)) 99 1 FU FU (by omega) (FU_gt (by omega)) (FU_gt (by omega)) (by omega)
    rw [e1]
    refine ⟨r, ?_, ?_⟩
    · rw [bp_s, if_pos c]
      exact q1
    · have : f_M_isIn (zI (o : Int)).toInt64 0 9 σm = some (if (0 : Int) ≤ o ∧ (o : Int) ≤ 9 then zI 1 else zI 0) := by
        simp (disch := omega) only [zI_lit, zJ_lit, zI_neg, zJ_neg, zI_add, zI_sub, zI_mul, zJ_add, zJ_sub, zJ_mul, zI_lt, zI_le, zI_eq, zJ_lt, zJ_le, zJ_eq, zJ_w, zJ_n, in_z, zI_cl, zI_in, nz_z, nzJ_z, iMin_z, iMax_z, lg_cmp_lt, lg_cmp_le, lg_cmp_gt, lg_cmp_ge, lg_cmp_eq, lt_q, gd_q, bp_q, bd_q, Int.toNat_natCast, Int.toNat_zero, Int.toNat_one, Int.reduceToNat, ite_true, ite_false, bz, isB_i, isB0, isB1]
      rw [this, bp_s, if_pos c]
      exact q2
  · simp (disch := omega) only [zI_lit, zJ_lit, zI_neg, zJ_neg, zI_add, zI_sub, zI_mul, zJ_add, zJ_sub, zJ_mul, zI_lt, zI_le, zI_eq, zJ_lt, zJ_le, zJ_eq, zJ_w, zJ_n, in_z, zI_cl, zI_in, nz_z, nzJ_z, iMin_z, iMax_z, lg_cmp_lt, lg_cmp_le, lg_cmp_gt, lg_cmp_ge, lg_cmp_eq, lt_q, gd_q, bp_q, bd_q, Int.toNat_natCast, Int.toNat_zero, Int.toNat_one, Int.reduceToNat, ite_true, ite_false, bz, isB_i, isB0, isB1]
    rw [if_pos c]
    exact ⟨_, rfl, by rw [if_pos c]⟩
theorem wide_loop {σx σm : St} {f l be sl : Nat} (hf : f ≤ 99) (hl : l ≤ 1) (hb : be ≤ 99) (hs : sl ≤ 90) (x0 : sA σx 9 0 = zI be) (x1 : sA σx 9 1 = zI sl) (m3 : sA σm 11 3 = zI be) (m4 : sA σm 11 4 = zI sl) :
    ∀ (j n n' : Nat), j ≤ 10 → j < n → j < n' → ∃ r : Int32, f_BH_wide_16 n (zI f) (zI l) (zI ((j : Int) - 1)) σx = some r ∧ f_M_wide_17 n' (zI f) (zI l) (zI ((j : Int) - 1)) σm = some r := by
  intro j
  induction j with
  | zero =>
    intro n n' h3 h4 h5
    obtain ⟨n, rfl⟩ : ∃ q, n = q + 1 := ⟨n - 1, by omega⟩
    obtain ⟨n', rfl⟩ : ∃ q, n' = q + 1 := ⟨n' - 1, by omega⟩
    unfold f_BH_wide_16 f_M_wide_17 f_BH_wide_16b f_M_wide_17b
    simp (disch := omega) only [zI_lit, zJ_lit, zI_neg, zJ_neg, zI_add, zI_sub, zI_mul, zJ_add, zJ_sub, zJ_mul, zI_lt, zI_le, zI_eq, zJ_lt, zJ_le, zJ_eq, zJ_w, zJ_n, in_z, zI_cl, zI_in, nz_z, nzJ_z, iMin_z, iMax_z, lg_cmp_lt, lg_cmp_le, lg_cmp_gt, lg_cmp_ge, lg_cmp_eq, lt_q, gd_q, bp_q, bd_q, Int.toNat_natCast, Int.toNat_zero, Int.toNat_one, Int.reduceToNat, ite_true, ite_false, bz, isB_i, isB0, isB1]
    exact ⟨_, if_pos (by omega), if_pos (by omega)⟩
  | succ j ih =>
    intro n n' h3 h4 h5
    obtain ⟨n, rfl⟩ : ∃ q, n = q + 1 := ⟨n - 1, by omega⟩
    obtain ⟨n', rfl⟩ : ∃ q, n' = q + 1 := ⟨n' - 1, by omega⟩
    unfold f_BH_wide_16 f_M_wide_17 f_BH_wide_16b f_M_wide_17b
    have ej : (((j + 1 : Nat) : Int) - 1) = (j : Int) := by omega
    rw [ej, x_wouldRing hf (by omega) hl x0 x1 hb hs, m_heightBy' σm hf (by omega) hs hl m4, cl3, m3]
    have b2 := rz_b (f := f) (o := j) (s := if l = 0 then 0 else sl) (by omega)
    have ek : (zI (j : Int) + (-1)) = zI ((j : Int) - 1) := by
      rw [zI_lit, zI_neg, zI_add]
      rfl
    simp only [ek]
    simp (disch := omega) only [zI_lit, zJ_lit, zI_neg, zJ_neg, zI_add, zI_sub, zI_mul, zJ_add, zJ_sub, zJ_mul, zI_lt, zI_le, zI_eq, zJ_lt, zJ_le, zJ_eq, zJ_w, zJ_n, in_z, zI_cl, zI_in, nz_z, nzJ_z, iMin_z, iMax_z, lg_cmp_lt, lg_cmp_le, lg_cmp_gt, lg_cmp_ge, lg_cmp_eq, lt_q, gd_q, bp_q, bd_q, Int.toNat_natCast, Int.toNat_zero, Int.toNat_one, Int.reduceToNat, ite_true, ite_false, bz, isB_i, isB0, isB1]
    rw [if_neg (show ¬ (j : Int) < 0 by omega), if_neg (show ¬ (j : Int) < 0 by omega)]
    by_cases c2 : be ≤ rz f j (if l = 0 then 0 else sl)
    · rw [if_neg (by omega), if_neg (by omega)]
      exact ⟨_, rfl, rfl⟩
    · rw [if_pos c2, if_pos (by omega)]
      exact ih n n' (by omega) (by omega) (by omega)
theorem sim_wide : Sim_wide Rel := by
  intro a1 a2 σx σm h hl
  obtain ⟨o, h1, h2, rfl⟩ := zI_of a1
  obtain ⟨l, hl', rfl, -⟩ := yn hl
  replace hl := hl'
  obtain ⟨hQ, d, hw, hx, hm, hS, a, w, hs, ks, hh, hX, hM⟩ := h
  have hc := hh.2.1 a (Nat.le_refl a)
  unfold f_BH_wide f_M_wide
  by_cases c : 1 ≤ o ∧ o ≤ 99
  · obtain ⟨f, rfl⟩ := Int.eq_ofNat_of_zero_le (show 0 ≤ o by omega)
    obtain ⟨r, q1, q2⟩ := wide_loop (σx := σx) (σm := σm) (f := f) (l := l) (by omega) hl hc.2.2.2.2.1 hc.2.2.2.2.2.1 hX.2.1.2.2.2.1 hX.2.1.2.2.2.2.1 (hM.2.2.2.1.1 3 (by omega)) (hM.2.2.2.1.1 4 (by omega)) 10 FU FU (by omega) (FU_gt (by omega)) (FU_gt (by omega))
    have e9 : (9 : Int32) = zI (((10 : Nat) : Int) - 1) := rfl
    rw [← e9] at q1 q2
    rw [q1]
    have : f_M_isIn (zI (f : Int)).toInt64 1 99 σm = some (if (1 : Int) ≤ f ∧ (f : Int) ≤ 99 then zI 1 else zI 0) := by
      simp (disch := omega) only [zI_lit, zJ_lit, zI_neg, zJ_neg, zI_add, zI_sub, zI_mul, zJ_add, zJ_sub, zJ_mul, zI_lt, zI_le, zI_eq, zJ_lt, zJ_le, zJ_eq, zJ_w, zJ_n, in_z, zI_cl, zI_in, nz_z, nzJ_z, iMin_z, iMax_z, lg_cmp_lt, lg_cmp_le, lg_cmp_gt, lg_cmp_ge, lg_cmp_eq, lt_q, gd_q, bp_q, bd_q, Int.toNat_natCast, Int.toNat_zero, Int.toNat_one, Int.reduceToNat, ite_true, ite_false, bz, isB_i, isB0, isB1]
    rw [this, bp_s, if_pos c, q2]
    refine ⟨r, ?_, rfl⟩
    simp (disch := omega) only [zI_lit, zJ_lit, zI_neg, zJ_neg, zI_add, zI_sub, zI_mul, zJ_add, zJ_sub, zJ_mul, zI_lt, zI_le, zI_eq, zJ_lt, zJ_le, zJ_eq, zJ_w, zJ_n, in_z, zI_cl, zI_in, nz_z, nzJ_z, iMin_z, iMax_z, lg_cmp_lt, lg_cmp_le, lg_cmp_gt, lg_cmp_ge, lg_cmp_eq, lt_q, gd_q, bp_q, bd_q, Int.toNat_natCast, Int.toNat_zero, Int.toNat_one, Int.reduceToNat, ite_true, ite_false, bz, isB_i, isB0, isB1]
    rw [if_neg (by omega), if_pos (by omega)]
  · simp (disch := omega) only [zI_lit, zJ_lit, zI_neg, zJ_neg, zI_add, zI_sub, zI_mul, zJ_add, zJ_sub, zJ_mul, zI_lt, zI_le, zI_eq, zJ_lt, zJ_le, zJ_eq, zJ_w, zJ_n, in_z, zI_cl, zI_in, nz_z, nzJ_z, iMin_z, iMax_z, lg_cmp_lt, lg_cmp_le, lg_cmp_gt, lg_cmp_ge, lg_cmp_eq, lt_q, gd_q, bp_q, bd_q, Int.toNat_natCast, Int.toNat_zero, Int.toNat_one, Int.reduceToNat, ite_true, ite_false, bz, isB_i, isB0, isB1]
    rw [if_pos c]
    refine ⟨_, ?_, rfl⟩
    by_cases c3 : o < 1
    · rw [if_pos c3]
    · rw [if_neg c3, if_neg (by omega)]
/-- digits -/
theorem x_digit {i P : Nat} {σ : St} (hP : P < 2147483648) (hi : i ≤ 5) : ∀ (j n : Nat), i + j ≤ 5 → j < n → f_BH_letterOf_4 n (zI i) (zI P) (zI (i + j : Nat)) σ = some (zI (P / 27 ^ j % 27 : Nat)) := by
  intro j
  induction j generalizing P with
  | zero =>
    intro n h1 h2
    obtain ⟨n, rfl⟩ : ∃ q, n = q + 1 := ⟨n - 1, by omega⟩
    unfold f_BH_letterOf_4 f_BH_letterOf_4b
    have e27 : (27 : Int32) = zI 27 := rfl
    rw [e27, zI_rem (by omega) (by omega) (by omega) (by omega), if_pos (by rw [zI_le (by omega) (by omega) (by omega) (by omega)]; omega)]
    congr 2
    simp
  | succ j ih =>
    intro n h1 h2
    obtain ⟨n, rfl⟩ : ∃ q, n = q + 1 := ⟨n - 1, by omega⟩
    unfold f_BH_letterOf_4 f_BH_letterOf_4b
    have e27 : (27 : Int32) = zI (27 : Nat) := rfl
    have em : (zI ((i + (j + 1) : Nat) : Int) + (-1)) = zI ((i + j : Nat) : Int) := by
      rw [zI_lit, zI_neg, zI_add]
      congr 1
      omega
    rw [if_neg (by rw [zI_le (by omega) (by omega) (by omega) (by omega)]; omega), em, e27, zdn hP (by omega) (by omega), lt_s', lt_s', ih (by omega) n (by omega) (by omega)]
    rw [Nat.div_div_eq_div_mul, Nat.pow_succ, Nat.mul_comm (27 ^ j) 27]
theorem m_digit {i P : Nat} {σ : St} (hP : P < 9223372036854775808) (hi : i ≤ 5) : ∀ (j n : Nat), i + j ≤ 5 → j < n → f_M_letter_102 n (zI i) (zJ P) (zI (i + j : Nat)) σ = some (zI (P / 27 ^ j % 27 : Nat)) := by
  intro j
  induction j generalizing P with
  | zero =>
    intro n h1 h2
    obtain ⟨n, rfl⟩ : ∃ q, n = q + 1 := ⟨n - 1, by omega⟩
    unfold f_M_letter_102 f_M_letter_102b
    have e27 : (27 : Int64) = zJ 27 := rfl
    rw [e27, zJ_rem (by omega) (by omega) (by omega) (by omega), if_pos (by rw [zI_le (by omega) (by omega) (by omega) (by omega)]; omega), zJ_n]
    congr 2
    simp
  | succ j ih =>
    intro n h1 h2
    obtain ⟨n, rfl⟩ : ∃ q, n = q + 1 := ⟨n - 1, by omega⟩
    unfold f_M_letter_102 f_M_letter_102b
    have e27 : (27 : Int64) = zJ (27 : Nat) := rfl
    have em : (zI ((i + (j + 1) : Nat) : Int) + (-1)) = zI ((i + j : Nat) : Int) := by
      rw [zI_lit, zI_neg, zI_add]
      congr 1
      omega
    rw [if_neg (by rw [zI_le (by omega) (by omega) (by omega) (by omega)]; omega), em, e27, zJ_div (by omega) (by omega) (by omega) (by omega), ← Int.natCast_ediv, lt_s', lt_s', ih (by omega) n (by omega) (by omega)]
    rw [Nat.div_div_eq_div_mul, Nat.pow_succ, Nat.mul_comm (27 ^ j) 27]
theorem m_count {i v c n : Nat} {σ : St} (hi : i ≤ 5) (hv : wfN v c) : ∀ (m k n : Nat), c - k ≤ m → m < n → k ≤ c → f_M_letter_67 n (zI i) (zJ v) (zI k) (zJ (v / 27 ^ k : Nat)) σ = some (zI (if i < c then v / 27 ^ (c - 1 - i) % 27 else 0 : Nat)) := by
  obtain ⟨c1, c2, v1, v2, -⟩ := hv
  have p6 : 27 ^ c ≤ 27 ^ 6 := Nat.pow_le_pow_right (by omega) c2
  have hvb : v < 387420489 := Nat.lt_of_lt_of_le v2 p6
  intro m
  induction m with
  | zero =>
    intro k n h1 h2 h3
    have : k = c := by omega
    subst this
    obtain ⟨n, rfl⟩ : ∃ q, n = q + 1 := ⟨n - 1, by omega⟩
    unfold f_M_letter_67 f_M_letter_67b
    rw [Nat.div_eq_of_lt v2]
    have e1 : (zI ((k : Nat) : Int) - 1) = zI ((k - 1 : Nat) : Int) := by
      rw [zI_lit, zI_sub]
      congr 1
      omega
    rw [if_pos (by rw [lg_cmp_le]; exact Int64.le_refl _)]
    rw [e1, lt_s']
    by_cases q : i < k
    · rw [if_pos (by rw [zI_lt (by omega) (by omega) (by omega) (by omega)]; omega), if_pos q]
      have := m_digit (i := i) (P := v) (σ := σ) (by omega) hi (k - 1 - i) FU (by omega) (FU_gt (by omega))
      rw [← this]
      congr 2
      omega
    · rw [if_neg (by rw [zI_lt (by omega) (by omega) (by omega) (by omega)]; omega), if_neg q]
      rfl
  | succ m ih =>
    intro k n h1 h2 h3
    by_cases hk : k = c
    · exact ih k n (by omega) (by omega) (by omega)
    · obtain ⟨n, rfl⟩ : ∃ q, n = q + 1 := ⟨n - 1, by omega⟩
      unfold f_M_letter_67 f_M_letter_67b
      have hp : 27 ^ k ≤ 27 ^ (c - 1) := Nat.pow_le_pow_right (by omega) (by omega)
      have hq : 1 ≤ v / 27 ^ k := (Nat.le_div_iff_mul_le (Nat.pow_pos (by omega))).mpr (by omega)
      have hr : v / 27 ^ k ≤ v := Nat.div_le_self _ _
      have e0 : (0 : Int64) = zJ 0 := rfl
      have e27 : (27 : Int64) = zJ (27 : Nat) := rfl
      have em : (zI (k : Int) + 1) = zI ((k + 1 : Nat) : Int) := by
        rw [zI_lit, zI_add]
        rfl
      rw [if_neg (by rw [lg_cmp_le, e0, zJ_le (by omega) (by omega) (by omega) (by omega)]; omega), em, e27, zJ_div (by omega) (by omega) (by omega) (by omega), ← Int.natCast_ediv, lt_s', lt_s', Nat.div_div_eq_div_mul, ← Nat.pow_succ]
      exact ih (k + 1) n (by omega) (by omega) (by omega)
theorem pad_digit {i v c : Nat} (hi : i ≤ 5) (hv : wfN v c) : nP v c / 27 ^ (5 - i) % 27 = if i < c then v / 27 ^ (c - 1 - i) % 27 else 0 := by
  obtain ⟨c1, c2, -⟩ := hv
  unfold nP
  by_cases q : i < c
  · rw [if_pos q]
    have e : 5 - i = (6 - c) + (c - 1 - i) := by omega
    rw [e, Nat.pow_add, Nat.mul_comm v, Nat.mul_div_mul_left _ _ (Nat.pow_pos (by omega))]
  · rw [if_neg q]
    have e : 6 - c = (i - c + 1) + (5 - i) := by omega
    rw [e, Nat.pow_add, ← Nat.mul_assoc, Nat.mul_div_cancel _ (Nat.pow_pos (by omega)), Nat.pow_succ, ← Nat.mul_assoc]
    exact Nat.mul_mod_left _ _
theorem nP_b {v c : Nat} (hv : wfN v c) : nP v c < 2147483648 := by
  obtain ⟨c1, c2, v1, v2, -⟩ := hv
  unfold nP
  have : v * 27 ^ (6 - c) < 27 ^ c * 27 ^ (6 - c) := Nat.mul_lt_mul_of_pos_right v2 (Nat.pow_pos (by omega))
  rw [← Nat.pow_add] at this
  have e : c + (6 - c) = 6 := by omega
  rw [e] at this
  exact Nat.lt_trans this (by decide)
theorem letter_both {i v c : Nat} {σx σm : St} (hi : i ≤ 5) (hv : wfN v c) : f_BH_letterOf (zI (nP v c)) (zI i) σx = f_M_letter_67 FU (zI i) (zJ v) 0 (zJ v) σm ∧ ∃ r, f_BH_letterOf (zI (nP v c)) (zI i) σx = some r := by
  have h1 : f_BH_letterOf (zI (nP v c)) (zI i) σx = some (zI (nP v c / 27 ^ (5 - i) % 27 : Nat)) := by
    unfold f_BH_letterOf
    have := x_digit (i := i) (P := nP v c) (σ := σx) (nP_b hv) hi (5 - i) FU (by omega) (FU_gt (by omega))
    rw [← this]
    have e : (5 : Int32) = zI ((i + (5 - i) : Nat) : Int) := by
      have : i + (5 - i) = 5 := by omega
      rw [this]
      rfl
    rw [e]
  have h2 := m_count (n := 0) (σ := σm) hi hv c 0 FU (by omega) (FU_gt (by have := hv.2.1; omega)) (by omega)
  rw [Nat.pow_zero, Nat.div_one] at h2
  rw [h1, pad_digit hi hv]
  exact ⟨h2.symm, _, rfl⟩
section
variable {σ : St} {p n : Nat}
theorem m_letter_a {y i : Int} (hp : p ≤ 1) (hn : n ≤ 8) (e : sA σ 2 (3 + p) = zI n) (h3 : -2147483648 ≤ y) (h4 : y < 2147483648) (c : ¬ (0 ≤ y ∧ y < n)) : f_M_letter (zI p) (zI y) (zI i) σ = some (zI (-1)) := by
  unfold f_M_letter
  have e3 : ((3 : Int) + p).toNat = 3 + p := by omega
  simp (disch := omega) only [zI_lit, zJ_lit, zI_neg, zJ_neg, zI_add, zI_sub, zI_mul, zJ_add, zJ_sub, zJ_mul, zI_lt, zI_le, zI_eq, zJ_lt, zJ_le, zJ_eq, zJ_w, zJ_n, in_z, zI_cl, zI_in, nz_z, nzJ_z, iMin_z, iMax_z, lg_cmp_lt, lg_cmp_le, lg_cmp_gt, lg_cmp_ge, lg_cmp_eq, lt_q, gd_q, bp_q, bd_q, Int.toNat_natCast, Int.toNat_zero, Int.toNat_one, Int.reduceToNat, ite_true, ite_false, bz, isB_i, isB0, isB1, e3, e, lt_m1]
  rw [if_neg (show ¬ ¬ ((0 : Int) ≤ p ∧ (p : Int) ≤ 1) by omega), if_pos c]
theorem m_letter_b {y i : Int} (hp : p ≤ 1) (hn : n ≤ 8) (e : sA σ 2 (3 + p) = zI n) (h3 : -2147483648 ≤ y) (h4 : y < 2147483648) (h5 : -2147483648 ≤ i) (h6 : i < 2147483648) (c : ¬ (0 ≤ i ∧ i ≤ 5)) : f_M_letter (zI p) (zI y) (zI i) σ = some (zI (-1)) := by
  unfold f_M_letter
  have e3 : ((3 : Int) + p).toNat = 3 + p := by omega
  simp (disch := omega) only [zI_lit, zJ_lit, zI_neg, zJ_neg, zI_add, zI_sub, zI_mul, zJ_add, zJ_sub, zJ_mul, zI_lt, zI_le, zI_eq, zJ_lt, zJ_le, zJ_eq, zJ_w, zJ_n, in_z, zI_cl, zI_in, nz_z, nzJ_z, iMin_z, iMax_z, lg_cmp_lt, lg_cmp_le, lg_cmp_gt, lg_cmp_ge, lg_cmp_eq, lt_q, gd_q, bp_q, bd_q, Int.toNat_natCast, Int.toNat_zero, Int.toNat_one, Int.reduceToNat, ite_true, ite_false, bz, isB_i, isB0, isB1, e3, e, lt_m1]
  rw [if_neg (show ¬ ¬ ((0 : Int) ≤ p ∧ (p : Int) ≤ 1) by omega), if_pos c, ite_self]
theorem m_letter_c {y i : Nat} (hp : p ≤ 1) (hn : n ≤ 8) (e : sA σ 2 (3 + p) = zI n) (hy : y < n) (hi : i ≤ 5) : f_M_letter (zI p) (zI y) (zI i) σ = f_M_letter_67 FU (zI i) (sB σ 0 (16 + 8 * p + y)) 0 (sB σ 0 (16 + 8 * p + y)) σ := by
  unfold f_M_letter
  have e3 : ((3 : Int) + p).toNat = 3 + p := by omega
  have e4 : (16 + 8 * (p : Int) + y).toNat = 16 + 8 * p + y := by omega
  simp (disch := omega) only [zI_lit, zJ_lit, zI_neg, zJ_neg, zI_add, zI_sub, zI_mul, zJ_add, zJ_sub, zJ_mul, zI_lt, zI_le, zI_eq, zJ_lt, zJ_le, zJ_eq, zJ_w, zJ_n, in_z, zI_cl, zI_in, nz_z, nzJ_z, iMin_z, iMax_z, lg_cmp_lt, lg_cmp_le, lg_cmp_gt, lg_cmp_ge, lg_cmp_eq, lt_q, gd_q, bp_q, bd_q, Int.toNat_natCast, Int.toNat_zero, Int.toNat_one, Int.reduceToNat, ite_true, ite_false, bz, isB_i, isB0, isB1, e3, e, lt_m1, e4]
  rw [if_neg (show ¬ ¬ ((0 : Int) ≤ p ∧ (p : Int) ≤ 1) by omega), if_neg (show ¬ ¬ ((0 : Int) ≤ y ∧ (y : Int) < n) by omega), if_neg (show ¬ ¬ ((0 : Int) ≤ i ∧ (i : Int) ≤ 5) by omega)]
theorem x_letter_b {y i : Int} (h5 : -2147483648 ≤ i) (h6 : i < 2147483648) (c : ¬ (0 ≤ i ∧ i ≤ 5)) (a : Int32) : f_BH_letter a (zI y) (zI i) σ = some (zI (-1)) := by
  unfold f_BH_letter
  simp (disch := omega) only [zI_lit, zJ_lit, zI_neg, zJ_neg, zI_add, zI_sub, zI_mul, zJ_add, zJ_sub, zJ_mul, zI_lt, zI_le, zI_eq, zJ_lt, zJ_le, zJ_eq, zJ_w, zJ_n, in_z, zI_cl, zI_in, nz_z, nzJ_z, iMin_z, iMax_z, lg_cmp_lt, lg_cmp_le, lg_cmp_gt, lg_cmp_ge, lg_cmp_eq, lt_q, gd_q, bp_q, bd_q, Int.toNat_natCast, Int.toNat_zero, Int.toNat_one, Int.reduceToNat, ite_true, ite_false, bz, isB_i, isB0, isB1]
  by_cases c3 : i < 0
  · rw [if_pos c3]
  · rw [if_neg c3, if_neg (by omega)]
end
theorem sim_letter : Sim_letter Rel := by
  intro a1 a2 a3 σx σm h
  obtain ⟨p, h1, h2, rfl⟩ := zI_of a1
  obtain ⟨y, h3, h4, rfl⟩ := zI_of a2
  obtain ⟨i, h5, h6, rfl⟩ := zI_of a3
  obtain ⟨hQ, d, hw, hx, hm, -⟩ := h
  have hn := hw.1
  have ht := hw.2.1
  by_cases c : p = 0 ∨ p = 1
  · by_cases c2 : 0 ≤ i ∧ i ≤ 5
    · obtain ⟨i, rfl⟩ := Int.eq_ofNat_of_zero_le c2.1
      have ti : ∀ {α : Type} (A B C : α), (if (i : Int) < 0 then A else if (i : Int) < 6 then B else C) = B := by
        intro α A B C
        rw [if_neg (by omega), if_pos (by omega)]
      rcases c with rfl | rfl
      · by_cases c1 : 0 ≤ y ∧ y < nM d
        · obtain ⟨y, rfl⟩ := Int.eq_ofNat_of_zero_le c1.1
          have hv := hw.2.2.2.2.2.2.2.1 y (by omega)
          have e1 := hx.2.2.2.2.2.2.2.2.1 y (by omega)
          have e2 : sB σm 0 (16 + 8 * 0 + y) = _ := hm.2.2.2.2.2.2.2.2.1 y (by omega)
          obtain ⟨q1, r, q2⟩ := letter_both (σx := σx) (σm := σm) (i := i) (by omega) hv
          have hM := m_letter_c (p := 0) (n := nM d) (σ := σm) (y := y) (i := i) (by omega) (by omega) hm.1 (by omega) (by omega)
          refine ⟨r, ?_, ?_⟩
          · unfold f_BH_letter
            rw [x_isMark hw hx h3 h4]
            simp (disch := omega) only [zI_lit, zJ_lit, zI_neg, zJ_neg, zI_add, zI_sub, zI_mul, zJ_add, zJ_sub, zJ_mul, zI_lt, zI_le, zI_eq, zJ_lt, zJ_le, zJ_eq, zJ_w, zJ_n, in_z, zI_cl, zI_in, nz_z, nzJ_z, iMin_z, iMax_z, lg_cmp_lt, lg_cmp_le, lg_cmp_gt, lg_cmp_ge, lg_cmp_eq, lt_q, gd_q, bp_q, bd_q, Int.toNat_natCast, Int.toNat_zero, Int.toNat_one, Int.reduceToNat, ite_true, ite_false, bz, isB_i, isB0, isB1, ti, if_neg (show ¬ ¬ (0 ≤ (y : Int) ∧ (y : Int) < nM d) by omega), e1, q2]
          · have e0 : (zI 0) = zI (0 : Nat) := rfl
            rw [e0, hM, e2, ← q1, q2]
        · have hM := m_letter_a (p := 0) (n := nM d) (σ := σm) (y := y) (i := i) (by omega) (by omega) hm.1 h3 h4 c1
          refine ⟨_, ?_, hM⟩
          unfold f_BH_letter f_BH_letter_38
          rw [x_isMark hw hx h3 h4]
          simp (disch := omega) only [zI_lit, zJ_lit, zI_neg, zJ_neg, zI_add, zI_sub, zI_mul, zJ_add, zJ_sub, zJ_mul, zI_lt, zI_le, zI_eq, zJ_lt, zJ_le, zJ_eq, zJ_w, zJ_n, in_z, zI_cl, zI_in, nz_z, nzJ_z, iMin_z, iMax_z, lg_cmp_lt, lg_cmp_le, lg_cmp_gt, lg_cmp_ge, lg_cmp_eq, lt_q, gd_q, bp_q, bd_q, Int.toNat_natCast, Int.toNat_zero, Int.toNat_one, Int.reduceToNat, ite_true, ite_false, bz, isB_i, isB0, isB1, ti, if_pos c1, if_neg (show ¬ ((0 : Int) = 1) by omega)]
      · by_cases c1 : 0 ≤ y ∧ y < nT d
        · obtain ⟨y, rfl⟩ := Int.eq_ofNat_of_zero_le c1.1
          have hv := hw.2.2.2.2.2.2.2.2 y (by omega)
          have e1 := hx.2.2.2.2.2.2.2.2.2 y (by omega)
          have e2 : sB σm 0 (16 + 8 * 1 + y) = _ := hm.2.2.2.2.2.2.2.2.2 y (by omega)
          obtain ⟨q1, r, q2⟩ := letter_both (σx := σx) (σm := σm) (i := i) (by omega) hv
          have hM := m_letter_c (p := 1) (n := nT d) (σ := σm) (y := y) (i := i) (by omega) (by omega) hm.2.1 (by omega) (by omega)
          refine ⟨r, ?_, ?_⟩
          · unfold f_BH_letter f_BH_letter_38
            rw [x_isTrier hw hx h3 h4]
            simp (disch := omega) only [zI_lit, zJ_lit, zI_neg, zJ_neg, zI_add, zI_sub, zI_mul, zJ_add, zJ_sub, zJ_mul, zI_lt, zI_le, zI_eq, zJ_lt, zJ_le, zJ_eq, zJ_w, zJ_n, in_z, zI_cl, zI_in, nz_z, nzJ_z, iMin_z, iMax_z, lg_cmp_lt, lg_cmp_le, lg_cmp_gt, lg_cmp_ge, lg_cmp_eq, lt_q, gd_q, bp_q, bd_q, Int.toNat_natCast, Int.toNat_zero, Int.toNat_one, Int.reduceToNat, ite_true, ite_false, bz, isB_i, isB0, isB1, ti, if_neg (show ¬ ((1 : Int) = 0) by omega), if_neg (show ¬ ¬ (0 ≤ (y : Int) ∧ (y : Int) < nT d) by omega), e1, q2]
          · have e0 : (zI 1) = zI (1 : Nat) := rfl
            rw [e0, hM, e2, ← q1, q2]
        · have hM := m_letter_a (p := 1) (n := nT d) (σ := σm) (y := y) (i := i) (by omega) (by omega) hm.2.1 h3 h4 c1
          refine ⟨_, ?_, hM⟩
          unfold f_BH_letter f_BH_letter_38
          rw [x_isTrier hw hx h3 h4]
          simp (disch := omega) only [zI_lit, zJ_lit, zI_neg, zJ_neg, zI_add, zI_sub, zI_mul, zJ_add, zJ_sub, zJ_mul, zI_lt, zI_le, zI_eq, zJ_lt, zJ_le, zJ_eq, zJ_w, zJ_n, in_z, zI_cl, zI_in, nz_z, nzJ_z, iMin_z, iMax_z, lg_cmp_lt, lg_cmp_le, lg_cmp_gt, lg_cmp_ge, lg_cmp_eq, lt_q, gd_q, bp_q, bd_q, Int.toNat_natCast, Int.toNat_zero, Int.toNat_one, Int.reduceToNat, ite_true, ite_false, bz, isB_i, isB0, isB1, ti, if_pos c1, if_neg (show ¬ ((1 : Int) = 0) by omega)]
    · rcases c with rfl | rfl
      · exact ⟨_, x_letter_b h5 h6 c2 _, m_letter_b (p := 0) (n := nM d) (by omega) (by omega) hm.1 h3 h4 h5 h6 c2⟩
      · exact ⟨_, x_letter_b h5 h6 c2 _, m_letter_b (p := 1) (n := nT d) (by omega) (by omega) hm.2.1 h3 h4 h5 h6 c2⟩
  · unfold f_BH_letter f_BH_letter_38 f_M_letter
    simp (disch := omega) only [zI_lit, zJ_lit, zI_neg, zJ_neg, zI_add, zI_sub, zI_mul, zJ_add, zJ_sub, zJ_mul, zI_lt, zI_le, zI_eq, zJ_lt, zJ_le, zJ_eq, zJ_w, zJ_n, in_z, zI_cl, zI_in, nz_z, nzJ_z, iMin_z, iMax_z, lg_cmp_lt, lg_cmp_le, lg_cmp_gt, lg_cmp_ge, lg_cmp_eq, lt_q, gd_q, bp_q, bd_q, Int.toNat_natCast, Int.toNat_zero, Int.toNat_one, Int.reduceToNat, ite_true, ite_false, bz, isB_i, isB0, isB1]
    rw [if_pos (show ¬ (0 ≤ p ∧ p ≤ 1) by omega), if_neg (show ¬ p = 0 by omega), if_neg (show ¬ p = 1 by omega), ite_self, ite_self]
    exact ⟨_, rfl, rfl⟩
