theorem nP_h {v z : Nat} (h : wfN v z) : 1 ≤ nP v z ∧ nP v z < 387420489 := by
  obtain ⟨h1, h2, h3, h4, h5⟩ := h
  unfold nP
  have a : v * 27 ^ (6 - z) < 27 ^ z * 27 ^ (6 - z) := Nat.mul_lt_mul_of_pos_right h4 (Nat.pow_pos (by omega))
  rw [← Nat.pow_add] at a
  have e : z + (6 - z) = 6 := by omega
  rw [e] at a
  have hv : 1 ≤ v := by
    have : 1 ≤ 27 ^ (z - 1) := Nat.pow_pos (by omega)
    omega
  have : 1 * 1 ≤ v * 27 ^ (6 - z) := Nat.mul_le_mul hv (Nat.pow_pos (by omega))
  exact ⟨by omega, a⟩
theorem wfN_v {v z : Nat} (h : wfN v z) : v < 387420489 := by
  obtain ⟨h1, h2, h3, h4, h5⟩ := h
  have : 27 ^ z ≤ 27 ^ 6 := Nat.pow_le_pow_right (by omega) h2
  omega
theorem wfN_l {v z w : Nat} (h : wfN v z) (g : wfN v w) : z = w := by
  have key : ∀ {a c : Nat}, wfN v a → wfN v c → ¬ a < c := by
    intro a c ha hc hl
    obtain ⟨h1, h2, h3, h4, h5⟩ := ha
    obtain ⟨g1, g2, g3, g4, g5⟩ := hc
    have : 27 ^ a ≤ 27 ^ (c - 1) := Nat.pow_le_pow_right (by omega) (by omega)
    omega
  have := key h g
  have := key g h
  omega
theorem nP_k {v z u w : Nat} (h : wfN v z) (g : wfN u w) (e : nP v z = nP u w) : ¬ z < w := by
  intro hl
  obtain ⟨h1, h2, h3, h4, h5⟩ := h
  obtain ⟨g1, g2, g3, g4, g5⟩ := g
  unfold nP at e
  have e1 : 6 - z = (w - z) + (6 - w) := by omega
  rw [e1, Nat.pow_add, ← Nat.mul_assoc] at e
  have e2 := Nat.eq_of_mul_eq_mul_right (Nat.pow_pos (by omega)) e
  have e3 : w - z = (w - z - 1) + 1 := by omega
  rw [e3, Nat.pow_succ, ← Nat.mul_assoc] at e2
  rw [← e2] at g5
  exact g5 (Nat.mul_mod_left _ _)
theorem nP_i {v z u w : Nat} (h : wfN v z) (g : wfN u w) : nP v z = nP u w ↔ v = u := by
  constructor
  · intro e
    have a := nP_k h g e
    have c := nP_k g h e.symm
    have d : z = w := by omega
    subst d
    unfold nP at e
    exact Nat.eq_of_mul_eq_mul_right (Nat.pow_pos (by omega)) e
  · intro e
    subst e
    rw [wfN_l h g]
def knw (d : FD) (v : Nat) : Prop := (∃ k, k < nM d ∧ nV d 0 k = v) ∨ (∃ k, k < nT d ∧ nV d 1 k = v)
/-- names in X's draft -/
def xN (d : FD) (σ : St) : Prop := sI σ 13 = zI (nM d) ∧ sI σ 14 = zI (nT d) ∧ (∀ k, k < nM d → sA σ 2 k = zI (nP (nV d 0 k) (nN d 0 k))) ∧ (∀ k, k < nT d → sA σ 4 k = zI (nP (nV d 1 k) (nN d 1 k)))
def mN (d : FD) (σ : St) : Prop := sA σ 2 0 = zI (nM d) ∧ sA σ 2 1 = zI (nT d) ∧ (∀ k, k < nM d → sB σ 0 k = zJ (nV d 0 k)) ∧ (∀ k, k < nT d → sB σ 0 (8 + k) = zJ (nV d 1 k))
theorem x_has30 {d : FD} {v z : Nat} {σ : St} (hw : wfD d) (hx : xN d σ) (hv : wfN v z) : ∀ (m k q : Nat), k + m = nT d → m < q → ((∃ j, k ≤ j ∧ j < nT d ∧ nV d 1 j = v) ∧ f_Fair_hasName_30 q (zI (nP v z)) (zI k) σ = some 1) ∨ (¬ (∃ j, k ≤ j ∧ j < nT d ∧ nV d 1 j = v) ∧ f_Fair_hasName_30 q (zI (nP v z)) (zI k) σ = some 0) := by
  obtain ⟨w1, w2, w3, w4, w5, w6, w7, w8, w9⟩ := hw
  obtain ⟨x1, x2, x3, x4⟩ := hx
  have hb := nP_h hv
  intro m
  induction m with
  | zero =>
    intro k q h1 h2
    obtain ⟨q, rfl⟩ : ∃ r, q = r + 1 := ⟨q - 1, by omega⟩
    refine .inr ⟨fun ⟨j, j1, j2, j3⟩ => by omega, ?_⟩
    show f_Fair_hasName_30b (f_Fair_hasName_30 q) _ _ σ = _
    unfold f_Fair_hasName_30b
    rw [x2, if_pos (by rw [zI_le (by omega) (by omega) (by omega) (by omega)]; omega)]
  | succ m ih =>
    intro k q h1 h2
    obtain ⟨q, rfl⟩ : ∃ r, q = r + 1 := ⟨q - 1, by omega⟩
    have hk := w9 k (by omega)
    have hkb := nP_h hk
    have hd : f_Fair_hasName_30 (q + 1) (zI (nP v z)) (zI k) σ = if nV d 1 k = v then some 1 else f_Fair_hasName_30 q (zI (nP v z)) (zI (k + 1 : Nat)) σ := by
      show f_Fair_hasName_30b (f_Fair_hasName_30 q) _ _ σ = _
      unfold f_Fair_hasName_30b
      rw [x2, if_neg (by rw [zI_le (by omega) (by omega) (by omega) (by omega)]; omega), zI_in (by omega) (by omega) (by omega), gd_t, zI_cl (by omega) (by omega), Int.toNat_natCast, x4 k (by omega), zS, lt_s']
      have : (zI (nP (nV d 1 k) (nN d 1 k) : Nat) = zI (nP v z : Nat)) ↔ nV d 1 k = v := by
        rw [zI_eq (by omega) (by omega) (by omega) (by omega), ← nP_i hk hv]
        omega
      simp only [this]
    rw [hd]
    by_cases c : nV d 1 k = v
    · rw [if_pos c]
      exact .inl ⟨⟨k, by omega, by omega, c⟩, rfl⟩
    · rw [if_neg c]
      rcases ih (k + 1) q (by omega) (by omega) with ⟨⟨j, j1, j2, j3⟩, j4⟩ | ⟨j1, j4⟩
      · exact .inl ⟨⟨j, by omega, j2, j3⟩, j4⟩
      · refine .inr ⟨fun ⟨j, i1, i2, i3⟩ => ?_, j4⟩
        by_cases e : j = k
        · subst e; exact c i3
        · exact j1 ⟨j, by omega, i2, i3⟩
theorem x_has2 {d : FD} {v z : Nat} {σ : St} (hw : wfD d) (hx : xN d σ) (hv : wfN v z) : ∀ (m k q : Nat), k + m = nM d → m < q → (((∃ j, k ≤ j ∧ j < nM d ∧ nV d 0 j = v) ∨ (∃ j, 0 ≤ j ∧ j < nT d ∧ nV d 1 j = v)) ∧ f_Fair_hasName_2 q (zI (nP v z)) (zI k) σ = some 1) ∨ (¬ ((∃ j, k ≤ j ∧ j < nM d ∧ nV d 0 j = v) ∨ (∃ j, 0 ≤ j ∧ j < nT d ∧ nV d 1 j = v)) ∧ f_Fair_hasName_2 q (zI (nP v z)) (zI k) σ = some 0) := by
  have h30 := x_has30 hw hx hv (nT d) 0 FU (by omega) (FU_gt (by have := hw.2.1; omega))
  obtain ⟨w1, w2, w3, w4, w5, w6, w7, w8, w9⟩ := hw
  obtain ⟨x1, x2, x3, x4⟩ := hx
  have hb := nP_h hv
  intro m
  induction m with
  | zero =>
    intro k q h1 h2
    obtain ⟨q, rfl⟩ : ∃ r, q = r + 1 := ⟨q - 1, by omega⟩
    have e : f_Fair_hasName_2 (q + 1) (zI (nP v z)) (zI k) σ = f_Fair_hasName_30 FU (zI (nP v z)) (zI (0 : Nat)) σ := by
      show f_Fair_hasName_2b (f_Fair_hasName_2 q) _ _ σ = _
      unfold f_Fair_hasName_2b
      rw [x1, if_pos (by rw [zI_le (by omega) (by omega) (by omega) (by omega)]; omega)]
      rfl
    rw [e]
    rcases h30 with ⟨a, c⟩ | ⟨a, c⟩
    · exact .inl ⟨.inr a, c⟩
    · refine .inr ⟨?_, c⟩
      rintro (⟨j, j1, j2, j3⟩ | g)
      · omega
      · exact a g
  | succ m ih =>
    intro k q h1 h2
    obtain ⟨q, rfl⟩ : ∃ r, q = r + 1 := ⟨q - 1, by omega⟩
    have hk := w8 k (by omega)
    have hkb := nP_h hk
    have hd : f_Fair_hasName_2 (q + 1) (zI (nP v z)) (zI k) σ = if nV d 0 k = v then some 1 else f_Fair_hasName_2 q (zI (nP v z)) (zI (k + 1 : Nat)) σ := by
      show f_Fair_hasName_2b (f_Fair_hasName_2 q) _ _ σ = _
      unfold f_Fair_hasName_2b
      rw [x1, if_neg (by rw [zI_le (by omega) (by omega) (by omega) (by omega)]; omega), zI_in (by omega) (by omega) (by omega), gd_t, zI_cl (by omega) (by omega), Int.toNat_natCast, x3 k (by omega), zS, lt_s']
      have : (zI (nP (nV d 0 k) (nN d 0 k) : Nat) = zI (nP v z : Nat)) ↔ nV d 0 k = v := by
        rw [zI_eq (by omega) (by omega) (by omega) (by omega), ← nP_i hk hv]
        omega
      simp only [this]
    rw [hd]
    by_cases c : nV d 0 k = v
    · rw [if_pos c]
      exact .inl ⟨.inl ⟨k, by omega, by omega, c⟩, rfl⟩
    · rw [if_neg c]
      rcases ih (k + 1) q (by omega) (by omega) with ⟨g, j4⟩ | ⟨j1, j4⟩
      · refine .inl ⟨?_, j4⟩
        rcases g with ⟨j, j1, j2, j3⟩ | g
        · exact .inl ⟨j, by omega, j2, j3⟩
        · exact .inr g
      · refine .inr ⟨?_, j4⟩
        rintro (⟨j, i1, i2, i3⟩ | g)
        · by_cases e : j = k
          · subst e; exact c i3
          · exact j1 (.inl ⟨j, by omega, i2, i3⟩)
        · exact j1 (.inr g)
theorem x_has {d : FD} {v z : Nat} {σ : St} (hw : wfD d) (hx : xN d σ) (hv : wfN v z) : (knw d v ∧ f_Fair_hasName (zI (nP v z)) σ = some 1) ∨ (¬ knw d v ∧ f_Fair_hasName (zI (nP v z)) σ = some 0) := by
  have := x_has2 hw hx hv (nM d) 0 FU (by omega) (FU_gt (by have := hw.1; omega))
  have e : f_Fair_hasName (zI (nP v z)) σ = f_Fair_hasName_2 FU (zI (nP v z)) (zI (0 : Nat)) σ := rfl
  rw [e]
  have k : knw d v ↔ ((∃ j, 0 ≤ j ∧ j < nM d ∧ nV d 0 j = v) ∨ (∃ j, 0 ≤ j ∧ j < nT d ∧ nV d 1 j = v)) := by
    unfold knw
    simp only [Nat.zero_le, true_and]
  rw [k]
  exact this
def knk (d : FD) (v k : Nat) : Prop := ∃ j, k ≤ j ∧ j < 16 ∧ j % 8 < (if j < 8 then nM d else nT d) ∧ nV d (j / 8) (j % 8) = v
theorem knk_w {d : FD} {v : Nat} (hw : wfD d) : knk d v 0 ↔ knw d v := by
  have w1 := hw.1
  have w2 := hw.2.1
  constructor
  · rintro ⟨j, j1, j2, j3, j4⟩
    by_cases c : j < 8
    · rw [if_pos c] at j3
      have e : j / 8 = 0 := by omega
      rw [e] at j4
      exact .inl ⟨j % 8, j3, j4⟩
    · rw [if_neg c] at j3
      have e : j / 8 = 1 := by omega
      rw [e] at j4
      exact .inr ⟨j % 8, j3, j4⟩
  · rintro (⟨k, k1, k2⟩ | ⟨k, k1, k2⟩)
    · refine ⟨k, by omega, by omega, ?_, ?_⟩
      · rw [if_pos (by omega)]; omega
      · have e : k / 8 = 0 := by omega
        have e2 : k % 8 = k := by omega
        rw [e, e2]; exact k2
    · refine ⟨8 + k, by omega, by omega, ?_, ?_⟩
      · rw [if_neg (by omega)]; omega
      · have e : (8 + k) / 8 = 1 := by omega
        have e2 : (8 + k) % 8 = k := by omega
        rw [e, e2]; exact k2
theorem nn_bad {v : Int64} {σ : St} (h : ¬ sI σ 4 = 0) : ∀ (m k q : Nat), k + m = 16 → m < q → f_M_newName_7 q v (zI k) σ = some (v, σ) := by
  have e16 : (16 : Int32) = zI (16 : Nat) := rfl
  intro m
  induction m with
  | zero =>
    intro k q h1 h2
    obtain ⟨q, rfl⟩ : ∃ r, q = r + 1 := ⟨q - 1, by omega⟩
    show f_M_newName_7b (f_M_newName_7 q) _ _ σ = _
    unfold f_M_newName_7b
    rw [e16, if_pos (by rw [zI_le (by omega) (by omega) (by omega) (by omega)]; omega)]
  | succ m ih =>
    intro k q h1 h2
    obtain ⟨q, rfl⟩ : ∃ r, q = r + 1 := ⟨q - 1, by omega⟩
    show f_M_newName_7b (f_M_newName_7 q) _ _ σ = _
    unfold f_M_newName_7b
    rw [e16, if_neg (by rw [zI_le (by omega) (by omega) (by omega) (by omega)]; omega), if_neg h, zS, lt_s']
    exact ih (k + 1) q (by omega) (by omega)
theorem m_new {d : FD} {v : Nat} {σ : St} (hw : wfD d) (hx : mN d σ) (hv : v < 387420489) (h4 : sI σ 4 = 0) : ∀ (m k q : Nat), k + m = 16 → m < q → (knk d v k ∧ f_M_newName_7 q (zJ v) (zI k) σ = some (zJ v, uI (uI σ 4 3) 5 (sI σ 8))) ∨ (¬ knk d v k ∧ f_M_newName_7 q (zJ v) (zI k) σ = some (zJ v, σ)) := by
  obtain ⟨w1, w2, w3, w4, w5, w6, w7, w8, w9⟩ := hw
  obtain ⟨x1, x2, x3, x4⟩ := hx
  have e16 : (16 : Int32) = zI (16 : Nat) := rfl
  have e8 : (8 : Int32) = zI (8 : Nat) := rfl
  have e0 : (0 : Int32) = zI (0 : Nat) := rfl
  intro m
  induction m with
  | zero =>
    intro k q h1 h2
    obtain ⟨q, rfl⟩ : ∃ r, q = r + 1 := ⟨q - 1, by omega⟩
    refine .inr ⟨fun ⟨j, j1, j2, j3, j4⟩ => by omega, ?_⟩
    show f_M_newName_7b (f_M_newName_7 q) _ _ σ = _
    unfold f_M_newName_7b
    rw [e16, if_pos (by rw [zI_le (by omega) (by omega) (by omega) (by omega)]; omega)]
  | succ m ih =>
    intro k q h1 h2
    obtain ⟨q, rfl⟩ : ∃ r, q = r + 1 := ⟨q - 1, by omega⟩
    have ed : zI (k : Int) / 8 = zI (k / 8 : Nat) := by
      rw [e8, zI_div (by omega) (by omega) (by omega) (by omega)]
      rfl
    have er : iR (zI (k : Int)) 8 = zI (k % 8 : Nat) := by
      rw [e8, zI_rem (by omega) (by omega) (by omega) (by omega)]
      rfl
    have hmy : sA σ 2 (k / 8) = zI (if k < 8 then nM d else nT d : Nat) := by
      by_cases c : k < 8
      · have e : k / 8 = 0 := by omega
        rw [e, if_pos c, x1]
      · have e : k / 8 = 1 := by omega
        rw [e, if_neg c, x2]
    have hmb : (if k < 8 then nM d else nT d : Nat) ≤ 8 := by
      split <;> omega
    have hnm : k % 8 < (if k < 8 then nM d else nT d : Nat) → sB σ 0 k = zJ (nV d (k / 8) (k % 8)) ∧ nV d (k / 8) (k % 8) < 387420489 := by
      intro hl
      by_cases c : k < 8
      · have e : k / 8 = 0 := by omega
        have e2 : k % 8 = k := by omega
        rw [if_pos c, e2] at hl
        rw [e, e2]
        exact ⟨x3 k hl, wfN_v (w8 k hl)⟩
      · have e : k / 8 = 1 := by omega
        have e2 : k = 8 + k % 8 := by omega
        rw [if_neg c] at hl
        rw [e]
        refine ⟨?_, wfN_v (w9 _ hl)⟩
        have := x4 _ hl
        rw [← e2] at this
        exact this
    have hd : f_M_newName_7 (q + 1) (zJ v) (zI k) σ = if (if k < 8 then nM d else nT d : Nat) ≤ k % 8 then f_M_newName_7 q (zJ v) (zI (k + 1 : Nat)) σ else if lg_cmp (sB σ 0 k) (zJ v) = 0 then f_M_newName_7 q (zJ v) (zI (k + 1 : Nat)) (uI (uI σ 4 3) 5 (sI σ 8)) else f_M_newName_7 q (zJ v) (zI (k + 1 : Nat)) σ := by
      show f_M_newName_7b (f_M_newName_7 q) _ _ σ = _
      unfold f_M_newName_7b
      rw [e16, if_neg (by rw [zI_le (by omega) (by omega) (by omega) (by omega)]; omega), if_pos h4, ed, er, zI_in (by omega) (by omega) (by omega), gd_t, zI_in (by omega) (by omega) (by omega), gd_t, zI_cl (by omega) (by omega), Int.toNat_natCast, hmy, zI_cl (by omega) (by omega), Int.toNat_natCast, m_fail _ _ h4, bp_s, zS, lt_s']
      have : (zI (if k < 8 then nM d else nT d : Nat) ≤ zI (k % 8 : Nat)) ↔ (if k < 8 then nM d else nT d : Nat) ≤ k % 8 := by
        rw [zI_le (by omega) (by omega) (by omega) (by omega)]
        omega
      simp only [this]
      rfl
    rw [hd]
    have stp1 : ¬ (k % 8 < (if k < 8 then nM d else nT d : Nat) ∧ nV d (k / 8) (k % 8) = v) → (knk d v k ↔ knk d v (k + 1)) := by
      intro hno
      constructor
      · rintro ⟨j, j1, j2, j3, j4⟩
        by_cases e : j = k
        · subst e; exact absurd ⟨j3, j4⟩ hno
        · exact ⟨j, by omega, j2, j3, j4⟩
      · rintro ⟨j, j1, j2, j3, j4⟩
        exact ⟨j, by omega, j2, j3, j4⟩
    by_cases c : (if k < 8 then nM d else nT d : Nat) ≤ k % 8
    · rw [if_pos c, stp1 (fun g => by omega)]
      exact ih (k + 1) q (by omega) (by omega)
    · rw [if_neg c]
      obtain ⟨y1, y2⟩ := hnm (by omega)
      have ec : (lg_cmp (sB σ 0 k) (zJ v) = 0) ↔ nV d (k / 8) (k % 8) = v := by
        rw [y1, lg_cmp_eq, zJ_eq (by omega) (by omega) (by omega) (by omega)]
        omega
      by_cases c2 : nV d (k / 8) (k % 8) = v
      · rw [if_pos (ec.mpr c2), nn_bad (σ := uI (uI σ 4 3) 5 (sI σ 8)) (show ¬ ((3 : Int32) = 0) by decide) m (k + 1) q (by omega) (by omega)]
        exact .inl ⟨⟨k, by omega, by omega, by omega, c2⟩, rfl⟩
      · rw [if_neg (fun g => c2 (ec.mp g)), stp1 (fun g => c2 g.2)]
        exact ih (k + 1) q (by omega) (by omega)
section
variable {b : Nat → Nat} {n : Nat}
theorem wfN_n {s z : Nat} (h1 : 1 ≤ z) (h6 : z ≤ 6) (hl : ∀ i, i < z → 97 ≤ b (s + i) ∧ b (s + i) ≤ 122) : wfN (nvL b s z) z := by
  refine ⟨h1, h6, ?_, nvL_b z (fun i hi => (hl i hi).2), ?_⟩
  · have key : ∀ k, (∀ i, i < k + 1 → 97 ≤ b (s + i)) → 27 ^ k ≤ nvL b s (k + 1) := by
      intro k
      induction k with
      | zero =>
        intro hk
        have := hk 0 (by omega)
        show 1 ≤ 0 * 27 + (b (s + 0) - 96)
        omega
      | succ k ih =>
        intro hk
        have a := ih (fun i hi => hk i (by omega))
        show 27 ^ (k + 1) ≤ nvL b s (k + 1) * 27 + (b (s + (k + 1)) - 96)
        rw [Nat.pow_succ]
        omega
    have := key (z - 1) (fun i hi => (hl i (by omega)).1)
    rw [show z - 1 + 1 = z by omega] at this
    exact this
  · obtain ⟨k, rfl⟩ : ∃ k, z = k + 1 := ⟨z - 1, by omega⟩
    have := hl k (by omega)
    show (nvL b s k * 27 + (b (s + k) - 96)) % 27 ≠ 0
    omega
theorem x_own {s : Nat} {st : Bool} {σx σm : St} (a1 : SY b n s st σx σm) : ∀ (m i q : Nat), i + m = 27 → m < q → ((∃ j, i ≤ j ∧ j < 27 ∧ (kd b n s st = 1 ∧ wAt b n s j)) ∧ f_Reader_isOwnWord_2 q (zI i) σx = some 1) ∨ (¬ (∃ j, i ≤ j ∧ j < 27 ∧ (kd b n s st = 1 ∧ wAt b n s j)) ∧ f_Reader_isOwnWord_2 q (zI i) σx = some 0) := by
  have e27 : (27 : Int32) = zI (27 : Nat) := rfl
  intro m
  induction m with
  | zero =>
    intro i q h1 h2
    obtain ⟨q, rfl⟩ : ∃ r, q = r + 1 := ⟨q - 1, by omega⟩
    refine .inr ⟨fun ⟨j, j1, j2, j3⟩ => by omega, ?_⟩
    show f_Reader_isOwnWord_2b (f_Reader_isOwnWord_2 q) _ σx = _
    unfold f_Reader_isOwnWord_2b
    rw [e27, if_pos (by rw [zI_le (by omega) (by omega) (by omega) (by omega)]; omega)]
  | succ m ih =>
    intro i q h1 h2
    obtain ⟨q, rfl⟩ : ∃ r, q = r + 1 := ⟨q - 1, by omega⟩
    have hd : f_Reader_isOwnWord_2 (q + 1) (zI i) σx = bp (f_Reader_isWord (zI i) σx) fun r_2 => if r_2 = 0 then f_Reader_isOwnWord_2 q (zI (i + 1 : Nat)) σx else some 1 := by
      show f_Reader_isOwnWord_2b (f_Reader_isOwnWord_2 q) _ σx = _
      unfold f_Reader_isOwnWord_2b
      rw [e27, if_neg (by rw [zI_le (by omega) (by omega) (by omega) (by omega)]; omega), zS]
      rfl
    rw [hd]
    by_cases c : kd b n s st = 1 ∧ wAt b n s i
    · refine .inl ⟨⟨i, by omega, by omega, c⟩, ?_⟩
      rw [(x_isWord a1.1.1 a1.2.2.1 a1.2.2.2.2.2 (by omega)).1 c, bp_s, if_neg (by decide)]
    · rw [x_noWord a1 (by omega) c, bp_s, if_pos rfl]
      rcases ih (i + 1) q (by omega) (by omega) with ⟨⟨j, j1, j2, j3⟩, j4⟩ | ⟨j1, j4⟩
      · exact .inl ⟨⟨j, by omega, j2, j3⟩, j4⟩
      · refine .inr ⟨fun ⟨j, i1, i2, i3⟩ => ?_, j4⟩
        by_cases e : j = i
        · subst e; exact c i3
        · exact j1 ⟨j, by omega, i2, i3⟩
theorem m_here {s j : Nat} {st : Bool} {σx σm : St} (h : SY b n s st σx σm) (hj : j < 27) (c : kd b n s st = 1 ∧ wAt b n s j) : f_M_isHere j (uI σm 1 (zI s)) = some (1, uI σm 1 (zI s)) := by
  obtain ⟨σx', σm', s', st', h1, h2, h3, h4, _⟩ := t_word' h hj c
  exact h4
theorem own_b0 {s : Nat} {st : Bool} {σx σm : St} (a1 : SY b n s st σx σm) : ((∃ j, 24 ≤ j ∧ j < 27 ∧ (kd b n s st = 1 ∧ wAt b n s j)) ∧ f_M_isOwnHere_299 0 (uI σm 1 (zI s)) = some (1, uI σm 1 (zI s))) ∨ (¬ (∃ j, 24 ≤ j ∧ j < 27 ∧ (kd b n s st = 1 ∧ wAt b n s j)) ∧ f_M_isOwnHere_299 0 (uI σm 1 (zI s)) = some (0, uI σm 1 (zI s))) := by
  unfold f_M_isOwnHere_299
  rw [if_pos rfl]
  by_cases c24 : kd b n s st = 1 ∧ wAt b n s 24
  · rw [m_here a1 (by omega) c24, bd_s, if_neg (by decide)]
    exact .inl ⟨⟨24, by omega, by omega, c24⟩, rfl⟩
  rw [(no_take a1 (by omega) c24).2, bd_s, if_pos rfl]
  by_cases c25 : kd b n s st = 1 ∧ wAt b n s 25
  · rw [m_here a1 (by omega) c25, bd_s, if_neg (by decide)]
    exact .inl ⟨⟨25, by omega, by omega, c25⟩, rfl⟩
  rw [(no_take a1 (by omega) c25).2, bd_s, if_pos rfl]
  by_cases c26 : kd b n s st = 1 ∧ wAt b n s 26
  · rw [m_here a1 (by omega) c26, bd_s, if_neg (by decide)]
    exact .inl ⟨⟨26, by omega, by omega, c26⟩, rfl⟩
  rw [(no_take a1 (by omega) c26).2, bd_s, if_pos rfl]
  refine .inr ⟨?_, rfl⟩
  rintro ⟨j, j1, j2, j3⟩
  have e : j = 24 ∨ j = 25 ∨ j = 26 := by omega
  rcases e with rfl | rfl | rfl
  · exact c24 j3
  · exact c25 j3
  · exact c26 j3
theorem own_b1 {s : Nat} {st : Bool} {σx σm : St} (a1 : SY b n s st σx σm) : ((∃ j, 18 ≤ j ∧ j < 27 ∧ (kd b n s st = 1 ∧ wAt b n s j)) ∧ f_M_isOwnHere_223 0 (uI σm 1 (zI s)) = some (1, uI σm 1 (zI s))) ∨ (¬ (∃ j, 18 ≤ j ∧ j < 27 ∧ (kd b n s st = 1 ∧ wAt b n s j)) ∧ f_M_isOwnHere_223 0 (uI σm 1 (zI s)) = some (0, uI σm 1 (zI s))) := by
  unfold f_M_isOwnHere_223
  rw [if_pos rfl]
  by_cases c18 : kd b n s st = 1 ∧ wAt b n s 18
  · rw [m_here a1 (by omega) c18, bd_s, if_neg (by decide)]
    exact .inl ⟨⟨18, by omega, by omega, c18⟩, rfl⟩
  rw [(no_take a1 (by omega) c18).2, bd_s, if_pos rfl]
  by_cases c19 : kd b n s st = 1 ∧ wAt b n s 19
  · rw [m_here a1 (by omega) c19, bd_s, if_neg (by decide)]
    exact .inl ⟨⟨19, by omega, by omega, c19⟩, rfl⟩
  rw [(no_take a1 (by omega) c19).2, bd_s, if_pos rfl]
  by_cases c20 : kd b n s st = 1 ∧ wAt b n s 20
  · rw [m_here a1 (by omega) c20, bd_s, if_neg (by decide)]
    exact .inl ⟨⟨20, by omega, by omega, c20⟩, rfl⟩
  rw [(no_take a1 (by omega) c20).2, bd_s, if_pos rfl]
  by_cases c21 : kd b n s st = 1 ∧ wAt b n s 21
  · rw [m_here a1 (by omega) c21, bd_s, if_neg (by decide)]
    exact .inl ⟨⟨21, by omega, by omega, c21⟩, rfl⟩
  rw [(no_take a1 (by omega) c21).2, bd_s, if_pos rfl]
  by_cases c22 : kd b n s st = 1 ∧ wAt b n s 22
  · rw [m_here a1 (by omega) c22, bd_s, if_neg (by decide)]
    exact .inl ⟨⟨22, by omega, by omega, c22⟩, rfl⟩
  rw [(no_take a1 (by omega) c22).2, bd_s, if_pos rfl]
  by_cases c23 : kd b n s st = 1 ∧ wAt b n s 23
  · rw [m_here a1 (by omega) c23, bd_s, if_neg (by decide)]
    exact .inl ⟨⟨23, by omega, by omega, c23⟩, rfl⟩
  rw [(no_take a1 (by omega) c23).2, bd_s, if_pos rfl]
  rcases own_b0 a1 with ⟨⟨j, j1, j2, j3⟩, j4⟩ | ⟨j1, j4⟩
  · exact .inl ⟨⟨j, by omega, j2, j3⟩, j4⟩
  · refine .inr ⟨?_, j4⟩
    rintro ⟨j, i1, i2, i3⟩
    by_cases g : 24 ≤ j
    · exact j1 ⟨j, g, i2, i3⟩
    have e : j = 18 ∨ j = 19 ∨ j = 20 ∨ j = 21 ∨ j = 22 ∨ j = 23 := by omega
    rcases e with rfl | rfl | rfl | rfl | rfl | rfl
    · exact c18 i3
    · exact c19 i3
    · exact c20 i3
    · exact c21 i3
    · exact c22 i3
    · exact c23 i3
theorem own_b2 {s : Nat} {st : Bool} {σx σm : St} (a1 : SY b n s st σx σm) : ((∃ j, 12 ≤ j ∧ j < 27 ∧ (kd b n s st = 1 ∧ wAt b n s j)) ∧ f_M_isOwnHere_147 0 (uI σm 1 (zI s)) = some (1, uI σm 1 (zI s))) ∨ (¬ (∃ j, 12 ≤ j ∧ j < 27 ∧ (kd b n s st = 1 ∧ wAt b n s j)) ∧ f_M_isOwnHere_147 0 (uI σm 1 (zI s)) = some (0, uI σm 1 (zI s))) := by
  unfold f_M_isOwnHere_147
  rw [if_pos rfl]
  by_cases c12 : kd b n s st = 1 ∧ wAt b n s 12
  · rw [m_here a1 (by omega) c12, bd_s, if_neg (by decide)]
    exact .inl ⟨⟨12, by omega, by omega, c12⟩, rfl⟩
  rw [(no_take a1 (by omega) c12).2, bd_s, if_pos rfl]
  by_cases c13 : kd b n s st = 1 ∧ wAt b n s 13
  · rw [m_here a1 (by omega) c13, bd_s, if_neg (by decide)]
    exact .inl ⟨⟨13, by omega, by omega, c13⟩, rfl⟩
  rw [(no_take a1 (by omega) c13).2, bd_s, if_pos rfl]
  by_cases c14 : kd b n s st = 1 ∧ wAt b n s 14
  · rw [m_here a1 (by omega) c14, bd_s, if_neg (by decide)]
    exact .inl ⟨⟨14, by omega, by omega, c14⟩, rfl⟩
  rw [(no_take a1 (by omega) c14).2, bd_s, if_pos rfl]
  by_cases c15 : kd b n s st = 1 ∧ wAt b n s 15
  · rw [m_here a1 (by omega) c15, bd_s, if_neg (by decide)]
    exact .inl ⟨⟨15, by omega, by omega, c15⟩, rfl⟩
  rw [(no_take a1 (by omega) c15).2, bd_s, if_pos rfl]
  by_cases c16 : kd b n s st = 1 ∧ wAt b n s 16
  · rw [m_here a1 (by omega) c16, bd_s, if_neg (by decide)]
    exact .inl ⟨⟨16, by omega, by omega, c16⟩, rfl⟩
  rw [(no_take a1 (by omega) c16).2, bd_s, if_pos rfl]
  by_cases c17 : kd b n s st = 1 ∧ wAt b n s 17
  · rw [m_here a1 (by omega) c17, bd_s, if_neg (by decide)]
    exact .inl ⟨⟨17, by omega, by omega, c17⟩, rfl⟩
  rw [(no_take a1 (by omega) c17).2, bd_s, if_pos rfl]
  rcases own_b1 a1 with ⟨⟨j, j1, j2, j3⟩, j4⟩ | ⟨j1, j4⟩
  · exact .inl ⟨⟨j, by omega, j2, j3⟩, j4⟩
  · refine .inr ⟨?_, j4⟩
    rintro ⟨j, i1, i2, i3⟩
    by_cases g : 18 ≤ j
    · exact j1 ⟨j, g, i2, i3⟩
    have e : j = 12 ∨ j = 13 ∨ j = 14 ∨ j = 15 ∨ j = 16 ∨ j = 17 := by omega
    rcases e with rfl | rfl | rfl | rfl | rfl | rfl
    · exact c12 i3
    · exact c13 i3
    · exact c14 i3
    · exact c15 i3
    · exact c16 i3
    · exact c17 i3
theorem own_b3 {s : Nat} {st : Bool} {σx σm : St} (a1 : SY b n s st σx σm) : ((∃ j, 6 ≤ j ∧ j < 27 ∧ (kd b n s st = 1 ∧ wAt b n s j)) ∧ f_M_isOwnHere_71 0 (uI σm 1 (zI s)) = some (1, uI σm 1 (zI s))) ∨ (¬ (∃ j, 6 ≤ j ∧ j < 27 ∧ (kd b n s st = 1 ∧ wAt b n s j)) ∧ f_M_isOwnHere_71 0 (uI σm 1 (zI s)) = some (0, uI σm 1 (zI s))) := by
  unfold f_M_isOwnHere_71
  rw [if_pos rfl]
  by_cases c6 : kd b n s st = 1 ∧ wAt b n s 6
  · rw [m_here a1 (by omega) c6, bd_s, if_neg (by decide)]
    exact .inl ⟨⟨6, by omega, by omega, c6⟩, rfl⟩
  rw [(no_take a1 (by omega) c6).2, bd_s, if_pos rfl]
  by_cases c7 : kd b n s st = 1 ∧ wAt b n s 7
  · rw [m_here a1 (by omega) c7, bd_s, if_neg (by decide)]
    exact .inl ⟨⟨7, by omega, by omega, c7⟩, rfl⟩
  rw [(no_take a1 (by omega) c7).2, bd_s, if_pos rfl]
  by_cases c8 : kd b n s st = 1 ∧ wAt b n s 8
  · rw [m_here a1 (by omega) c8, bd_s, if_neg (by decide)]
    exact .inl ⟨⟨8, by omega, by omega, c8⟩, rfl⟩
  rw [(no_take a1 (by omega) c8).2, bd_s, if_pos rfl]
  by_cases c9 : kd b n s st = 1 ∧ wAt b n s 9
  · rw [m_here a1 (by omega) c9, bd_s, if_neg (by decide)]
    exact .inl ⟨⟨9, by omega, by omega, c9⟩, rfl⟩
  rw [(no_take a1 (by omega) c9).2, bd_s, if_pos rfl]
  by_cases c10 : kd b n s st = 1 ∧ wAt b n s 10
  · rw [m_here a1 (by omega) c10, bd_s, if_neg (by decide)]
    exact .inl ⟨⟨10, by omega, by omega, c10⟩, rfl⟩
  rw [(no_take a1 (by omega) c10).2, bd_s, if_pos rfl]
  by_cases c11 : kd b n s st = 1 ∧ wAt b n s 11
  · rw [m_here a1 (by omega) c11, bd_s, if_neg (by decide)]
    exact .inl ⟨⟨11, by omega, by omega, c11⟩, rfl⟩
  rw [(no_take a1 (by omega) c11).2, bd_s, if_pos rfl]
  rcases own_b2 a1 with ⟨⟨j, j1, j2, j3⟩, j4⟩ | ⟨j1, j4⟩
  · exact .inl ⟨⟨j, by omega, j2, j3⟩, j4⟩
  · refine .inr ⟨?_, j4⟩
    rintro ⟨j, i1, i2, i3⟩
    by_cases g : 12 ≤ j
    · exact j1 ⟨j, g, i2, i3⟩
    have e : j = 6 ∨ j = 7 ∨ j = 8 ∨ j = 9 ∨ j = 10 ∨ j = 11 := by omega
    rcases e with rfl | rfl | rfl | rfl | rfl | rfl
    · exact c6 i3
    · exact c7 i3
    · exact c8 i3
    · exact c9 i3
    · exact c10 i3
    · exact c11 i3
theorem own_b4 {s : Nat} {st : Bool} {σx σm : St} (a1 : SY b n s st σx σm) : ((∃ j, 0 ≤ j ∧ j < 27 ∧ (kd b n s st = 1 ∧ wAt b n s j)) ∧ f_M_isOwnHere (uI σm 1 (zI s)) = some (1, uI σm 1 (zI s))) ∨ (¬ (∃ j, 0 ≤ j ∧ j < 27 ∧ (kd b n s st = 1 ∧ wAt b n s j)) ∧ f_M_isOwnHere (uI σm 1 (zI s)) = some (0, uI σm 1 (zI s))) := by
  unfold f_M_isOwnHere
  by_cases c0 : kd b n s st = 1 ∧ wAt b n s 0
  · rw [m_here a1 (by omega) c0, bd_s, if_neg (by decide)]
    exact .inl ⟨⟨0, by omega, by omega, c0⟩, rfl⟩
  rw [(no_take a1 (by omega) c0).2, bd_s, if_pos rfl]
  by_cases c1 : kd b n s st = 1 ∧ wAt b n s 1
  · rw [m_here a1 (by omega) c1, bd_s, if_neg (by decide)]
    exact .inl ⟨⟨1, by omega, by omega, c1⟩, rfl⟩
  rw [(no_take a1 (by omega) c1).2, bd_s, if_pos rfl]
  by_cases c2 : kd b n s st = 1 ∧ wAt b n s 2
  · rw [m_here a1 (by omega) c2, bd_s, if_neg (by decide)]
    exact .inl ⟨⟨2, by omega, by omega, c2⟩, rfl⟩
  rw [(no_take a1 (by omega) c2).2, bd_s, if_pos rfl]
  by_cases c3 : kd b n s st = 1 ∧ wAt b n s 3
  · rw [m_here a1 (by omega) c3, bd_s, if_neg (by decide)]
    exact .inl ⟨⟨3, by omega, by omega, c3⟩, rfl⟩
  rw [(no_take a1 (by omega) c3).2, bd_s, if_pos rfl]
  by_cases c4 : kd b n s st = 1 ∧ wAt b n s 4
  · rw [m_here a1 (by omega) c4, bd_s, if_neg (by decide)]
    exact .inl ⟨⟨4, by omega, by omega, c4⟩, rfl⟩
  rw [(no_take a1 (by omega) c4).2, bd_s, if_pos rfl]
  by_cases c5 : kd b n s st = 1 ∧ wAt b n s 5
  · rw [m_here a1 (by omega) c5, bd_s, if_neg (by decide)]
    exact .inl ⟨⟨5, by omega, by omega, c5⟩, rfl⟩
  rw [(no_take a1 (by omega) c5).2, bd_s, if_pos rfl]
  rcases own_b3 a1 with ⟨⟨j, j1, j2, j3⟩, j4⟩ | ⟨j1, j4⟩
  · exact .inl ⟨⟨j, by omega, j2, j3⟩, j4⟩
  · refine .inr ⟨?_, j4⟩
    rintro ⟨j, i1, i2, i3⟩
    by_cases g : 6 ≤ j
    · exact j1 ⟨j, g, i2, i3⟩
    have e : j = 0 ∨ j = 1 ∨ j = 2 ∨ j = 3 ∨ j = 4 ∨ j = 5 := by omega
    rcases e with rfl | rfl | rfl | rfl | rfl | rfl
    · exact c0 i3
    · exact c1 i3
    · exact c2 i3
    · exact c3 i3
    · exact c4 i3
    · exact c5 i3

theorem m_name58 {s : Nat} {σ0 : St} (hT : tM' b n σ0) (hbad : sI σ0 4 = 0) (h8 : sI σ0 8 = zI s) (hs : s ≤ n) : ∀ (m k q : Nat) (σ : St), k + m = rn isLt b n s → m < q → k ≤ 6 → oS [1] [] [] [] σ0 σ → sI σ 1 = zI (s + k : Nat) → (rn isLt b n s ≤ 6 ∧ ∃ σ1, f_M_name_58 q (zJ (nvL b s k)) σ = some (zJ (nvL b s (rn isLt b n s)), σ1) ∧ oS [1, 3] [] [] [] σ0 σ1 ∧ sI σ1 1 = zI (s + rn isLt b n s : Nat) ∧ sI σ1 3 = zI (s + rn isLt b n s : Nat)) ∨ (6 < rn isLt b n s ∧ ∃ r σ1, f_M_name_58 q (zJ (nvL b s k)) σ = some (r, σ1) ∧ oS [1, 3, 4, 5] [] [] [] σ0 σ1 ∧ sI σ1 4 = zI (1 : Nat) ∧ sI σ1 5 = zI (s + 6 : Nat)) := by
  have hrb := rn_b (P := isLt) (b := b) hs
  obtain ⟨hn, t2, tb, tbl⟩ := id hT
  have hall := rn_all (P := isLt) (b := b) (n := n) (n - s) s (Nat.le_refl _) hs
  intro m
  induction m with
  | zero =>
    intro k q σ h1 h2 h3 o h7
    obtain ⟨q, rfl⟩ : ∃ r, q = r + 1 := ⟨q - 1, by omega⟩
    have ek : k = rn isLt b n s := by omega
    have q2 : sI σ 2 = zI n := by rw [o.1 2 (by decide)]; exact t2
    have key : f_M_name_58 (q + 1) (zJ (nvL b s k)) σ = f_M_name_145 (zJ (nvL b s k)) σ := by
      show f_M_name_58b (f_M_name_58 q) _ σ = _
      unfold f_M_name_58b
      rw [q2, h7]
      by_cases c : s + k = n
      · rw [if_pos (by rw [zI_le (by omega) (by omega) (by omega) (by omega)]; omega)]
      · have hend := rn_end (P := isLt) (b := b) (n := n) (n - s) s (Nat.le_refl _) hs (by omega)
        rw [← ek] at hend
        have hbb := tbl (s + k) (by omega)
        have hnl : ¬ (97 ≤ (b (s + k) : Int) ∧ (b (s + k) : Int) ≤ 122) := by
          intro h
          unfold isLt at hend
          simp only [Bool.and_eq_false_iff, decide_eq_false_iff_not] at hend
          omega
        rw [if_neg (by rw [zI_le (by omega) (by omega) (by omega) (by omega)]; omega), zI_in (by omega) (by omega) (by omega), gd_t, zI_cl (by omega) (by omega), Int.toNat_natCast, o.2.2.1 0 (by decide), tb (s + k) (by omega), m_isLetter σ (by omega) (by omega), bp_s, if_pos (bz0.mpr hnl)]
    rw [key]
    left
    unfold f_M_name_145
    rw [h7, lt_s', ek]
    refine ⟨by omega, _, rfl, oS_uI (by decide) (oS_w o (by decide) (by decide) (by decide) (by decide)), ?_, rfl⟩
    rw [← ek]
    exact h7
  | succ m ih =>
    intro k q σ h1 h2 h3 o h7
    obtain ⟨q, rfl⟩ : ∃ r, q = r + 1 := ⟨q - 1, by omega⟩
    obtain ⟨hlt, hlt2⟩ := hall k (by omega)
    have q2 : sI σ 2 = zI n := by rw [o.1 2 (by decide)]; exact t2
    have q8 : sI σ 8 = zI s := by rw [o.1 8 (by decide)]; exact h8
    have hl := lt_f hlt
    have hbb := tbl (s + k) (by omega)
    have e6 : (6 : Int32) = zI (6 : Nat) := rfl
    have es : zI ((s + k : Nat) : Int) - zI (s : Int) = zI (k : Int) := by
      rw [zI_sub]
      congr 1
      omega
    have ev : ((27 * zJ (nvL b s k) + (zI (b (s + k) : Int)).toInt64) - 97 + 1 : Int64) = zJ (nvL b s (k + 1)) := by
      have e : nvL b s (k + 1) = nvL b s k * 27 + (b (s + k) - 96) := rfl
      rw [zJ_w (by omega) (by omega)]
      simp only [zJ_lit, zJ_mul, zJ_add, zJ_sub]
      congr 1
      rw [e]
      omega
    have key : f_M_name_58 (q + 1) (zJ (nvL b s k)) σ = if zI (k : Int) = 6 then bp (f_M_fail 1 (zI (s + k : Nat)) σ) (fun σ_8 => some (0, σ_8)) else f_M_name_58 q (zJ (nvL b s (k + 1))) (uI σ 1 (zI (s + k + 1 : Nat))) := by
      show f_M_name_58b (f_M_name_58 q) _ σ = _
      unfold f_M_name_58b
      rw [q2, h7, q8, if_neg (by rw [zI_le (by omega) (by omega) (by omega) (by omega)]; omega), zI_in (by omega) (by omega) (by omega), gd_t, zI_cl (by omega) (by omega), Int.toNat_natCast, o.2.2.1 0 (by decide), tb (s + k) (by omega), m_isLetter σ (by omega) (by omega), bp_s, if_neg (fun e => bz0.mp e (by omega)), es, gd_t, ev, zS, lt_s', lt_s']
    rw [key]
    by_cases c : k = 6
    · subst c
      rw [if_pos (by rfl)]
      have b4 : sI σ 4 = 0 := by rw [o.1 4 (by decide)]; exact hbad
      rw [m_fail 1 _ b4, bp_s]
      exact .inr ⟨by omega, _, _, rfl, oS_uI (by decide) (oS_uI (by decide) (oS_w o (by decide) (by decide) (by decide) (by decide))), rfl, rfl⟩
    · rw [if_neg (by rw [e6, zI_eq (by omega) (by omega) (by omega) (by omega)]; omega)]
      exact ih (k + 1) q _ (by omega) (by omega) (by omega) (oS_uI (by decide) o) rfl
theorem xN_o {d : FD} {I J A B : List Nat} {σ σ' : St} (h : xN d σ) (o : oS I J A B σ σ') (h1 : 13 ∉ I) (h2 : 14 ∉ I) (h3 : 2 ∉ A) (h4 : 4 ∉ A) : xN d σ' := by
  unfold xN
  rw [o.1 13 h1, o.1 14 h2, o.2.2.1 2 h3, o.2.2.1 4 h4]
  exact h
theorem mN_o {d : FD} {I J A B : List Nat} {σ σ' : St} (h : mN d σ) (o : oS I J A B σ σ') (h3 : 2 ∉ A) (h4 : 0 ∉ B) : mN d σ' := by
  unfold mN
  rw [o.2.2.1 2 h3, o.2.2.2 0 h4]
  exact h
theorem t_name {d : FD} {s : Nat} {st : Bool} {σx σm : St} (hw : wfD d) (h : SY b n s st σx σm) (hx : xN d σx) (hm : mN d σm) : (∃ (v z : Nat) (σx' σm' : St) (s' : Nat) (st' : Bool), f_Parser_passName σx = some (zI (nP v z), σx') ∧ f_M_newName σm = some (zJ v, σm') ∧ wfN v z ∧ SY b n s' st' σx' σm' ∧ oS [7, 8, 9, 10, 11] [] [] [] σx σx' ∧ oS [1, 3, 8] [] [] [] σm σm' ∧ s < s') ∨ (∃ (f pl : Nat) (r : Int64) (σx' σm' : St), f_Parser_passName σx = some (zI (-1), σx') ∧ f_M_newName σm = some (r, σm') ∧ FL f pl σx' σm' ∧ oS [4, 5] [] [] [] σx σx' ∧ oS [1, 3, 4, 5, 8] [] [] [] σm σm') := by
  have h' := h
  obtain ⟨l1, l2⟩ := SY_look h
  obtain ⟨a1, a2, a3, a4, a5, a6⟩ := h
  have hn := a1.1
  have hcb := chA_b (b := b) (n := n) (s := s) a2.2.2.2
  have hkb := kd_b (b := b) (n := n) (s := s) (st := st)
  have e1 : (1 : Int32) = zI (1 : Nat) := rfl
  have e6 : (6 : Int32) = zI (6 : Nat) := rfl
  have b4' : sI (uI σm 1 (zI s)) 4 = 0 := a5
  have oX : ∀ f pl, oS [4, 5] [] [] [] σx (uI (uI σx 4 f) 5 pl) := fun f pl => oS_uI (by decide) (oS_uI (by decide) oS_r)
  have hW := x_wrong a3
  have o1' : oS [1, 3, 4, 5, 8] [] [] [] σm (uI σm 1 (zI s)) := oS_uI (by decide) oS_r
  have y1 : sI (uI σm 1 (zI s)) 1 = zI s := rfl
  -- a wrong token: both fail at s
  have wr : f_Parser_passName σx = f_Parser_passName_76 σx → f_M_name σm = f_M_name_37 (uI σm 1 (zI s)) → (∃ (f pl : Nat) (r : Int64) (σx' σm' : St), f_Parser_passName σx = some (zI (-1), σx') ∧ f_M_newName σm = some (r, σm') ∧ FL f pl σx' σm' ∧ oS [4, 5] [] [] [] σx σx' ∧ oS [1, 3, 4, 5, 8] [] [] [] σm σm') := by
    intro q1 q2
    refine ⟨1, s, 0, _, uI (uI (uI σm 1 (zI s)) 4 1) 5 (zI s), ?_, ?_, FL_wrong σx _, oX 1 (zI s), oS_uI (by decide) (oS_uI (by decide) o1')⟩
    · rw [q1]
      unfold f_Parser_passName_76
      rw [hW, bd_s]
      rfl
    · unfold f_M_newName
      rw [q2]
      unfold f_M_name_37
      rw [y1, m_fail 1 _ b4', bp_s, bd_s]
      exact nn_bad (σ := uI (uI (uI σm 1 (zI s)) 4 1) 5 (zI s)) (show ¬ ((1 : Int32) = 0) by decide) 16 0 FU (by omega) (FU_gt (by omega))
  have hM : f_M_name σm = (if (if 97 ≤ chA b n s ∧ chA b n s ≤ 122 then zI 1 else zI 0) = 0 then f_M_name_37 (uI σm 1 (zI s)) else if (zI (s : Int)) = (sI (uI σm 1 (zI s)) 3) then f_M_name_37 (uI σm 1 (zI s)) else bd (f_M_isOwnHere (uI σm 1 (zI s))) fun r_7 σ_8 => if r_7 = 0 then lt (uI σ_8 8 (sI σ_8 1)) fun σ_9 => f_M_name_58 FU 0 σ_9 else f_M_name_37 σ_8) := by
    unfold f_M_name
    rw [if_pos a5, l1, bd_s, m_isLetter _ hcb.1 hcb.2, bp_s, y1]
  by_cases c : kd b n s st = 1
  · obtain ⟨g1, g2, g3⟩ := kd_1.mp c
    obtain ⟨b7, b10, b11⟩ := a3.2.2.2.2.1 g1 g2
    have hr1 := rn_1 (P := isLt) g1 g2
    have hrb := rn_b (P := isLt) (b := b) (n := n) (p := s) (by omega)
    have hall := rn_all (P := isLt) (b := b) (n := n) (n - s) s (Nat.le_refl _) (by omega)
    have hne : ¬ zI (s : Int) = sI (uI σm 1 (zI s)) 3 := by
      obtain ⟨p, e, p1, p3, pp, ps, pk, pe1, pe2, pst⟩ := a4
      have : sI (uI σm 1 (zI s)) 3 = zI e := p3
      rw [this, zI_eq (by omega) (by omega) (by omega) (by omega)]
      intro q
      have := pst.mpr q.symm
      rw [g3] at this
      exact absurd this (by decide)
    rw [if_neg (fun e => bz0.mp e (chA_l.mpr ⟨g1, g2⟩)), if_neg hne] at hM
    have hX8 : sI σx 8 = 1 := by rw [a3.2.1, c]; rfl
    have hX : f_Parser_passName σx = if 6 < rn isLt b n s then bd (f_Parser_tell 1 (zI (s : Int) + 6) σx) (fun r_2 σ_3 => some ((-1), σ_3)) else f_Parser_passName_62 1 σx := by
      unfold f_Parser_passName f_Parser_passName_27 f_Parser_passName_28
      rw [if_pos hX8, if_pos hX8, if_pos hX8, b10, a3.1, if_pos rfl, if_neg (show ¬ ((1 : Int32) = 0) by decide)]
      have : ((6 : Int32) < zI (rn isLt b n s : Nat)) ↔ 6 < rn isLt b n s := by
        rw [e6, zI_lt (by omega) (by omega) (by omega) (by omega)]
        omega
      simp only [this]
    have ho := own_b4 h'
    have hxo := x_own h' 27 0 FU (by omega) (FU_gt (by omega))
    have σ0e : oS [1, 8] [] [] [] σm (uI (uI σm 1 (zI s)) 8 (zI s)) := oS_uI (by decide) (oS_uI (by decide) oS_r)
    have hT0 : tM' b n (uI (uI σm 1 (zI s)) 8 (zI s)) := tM_o a2 σ0e (by decide) (by decide)
    have hbad0 : sI (uI (uI σm 1 (zI s)) 8 (zI s)) 4 = 0 := a5
    have M := m_name58 hT0 hbad0 rfl (by omega) (rn isLt b n s) 0 FU (uI (uI σm 1 (zI s)) 8 (zI s)) (by omega) (FU_gt (by omega)) (by omega) oS_r rfl
    by_cases c6 : 6 < rn isLt b n s
    · -- too long
      have hno : ¬ (∃ j, 0 ≤ j ∧ j < 27 ∧ (kd b n s st = 1 ∧ wAt b n s j)) := by
        rintro ⟨j, j1, j2, j3, j4⟩
        have := wlen_b j
        have := j4.1
        omega
      rcases ho with ⟨q1, q2⟩ | ⟨q1, q2⟩
      · exact absurd q1 hno
      rw [q2, bd_s, if_pos rfl, lt_s', y1] at hM
      rcases M with ⟨m1, _⟩ | ⟨m1, r, σ1, m4, m5, m6, m7⟩
      · omega
      · right
        have hM2 : f_M_name σm = some (r, σ1) := hM.trans m4
        have e5 : zI (s : Int) + 6 = zI (s + 6 : Nat) := by rw [e6, zI_add]; rfl
        refine ⟨1, s + 6, r, _, σ1, ?_, ?_, ⟨by omega, by omega, rfl, rfl, m6, m7⟩, oX 1 (zI (s + 6 : Nat)), oS_t (oS_w σ0e (by decide) (by decide) (by decide) (by decide)) (oS_w m5 (by decide) (by decide) (by decide) (by decide))⟩
        · rw [hX, if_pos c6, e5, x_tell, bd_s]
          rfl
        · unfold f_M_newName
          rw [hM2, bd_s]
          refine nn_bad ?_ 16 0 FU (by omega) (FU_gt (by omega))
          rw [m6]
          decide
    · rw [if_neg c6] at hX
      rcases ho with ⟨q1, q2⟩ | ⟨q1, q2⟩
      · -- an own word
        right
        refine wr ?_ ?_
        · rw [hX]
          unfold f_Parser_passName_62
          rcases hxo with ⟨p1, p2⟩ | ⟨p1, p2⟩
          · have p3 : f_Reader_isOwnWord σx = some 1 := p2
            rw [if_neg (by decide), p3, bp_s, if_neg (by decide)]
          · exact absurd q1 p1
        · rw [hM, q2, bd_s, if_neg (by decide)]
      · rw [q2, bd_s, if_pos rfl, lt_s', y1] at hM
        rcases M with ⟨m1, σ1, m4, m5, m6, m7⟩ | ⟨m1, _⟩
        · have hM2 : f_M_name σm = some (zJ (nvL b s (rn isLt b n s)), σ1) := hM.trans m4
          have hwf : wfN (nvL b s (rn isLt b n s)) (rn isLt b n s) := wfN_n hr1 m1 (fun i hi => lt_f (hall i hi).1)
          have hwv : wvP b s (rn isLt b n s) = nP (nvL b s (rn isLt b n s)) (rn isLt b n s) := by
            unfold wvP
            rw [Nat.min_eq_right m1]
          rw [hwv] at b11
          have o13 : oS [1, 3, 8] [] [] [] σm σ1 := oS_t (oS_w σ0e (by decide) (by decide) (by decide) (by decide)) (oS_w m5 (by decide) (by decide) (by decide) (by decide))
          have h4σ : sI σ1 4 = 0 := by rw [o13.1 4 (by decide)]; exact a5
          have h8σ : sI σ1 8 = zI s := by rw [m5.1 8 (by decide)]; rfl
          have hm1 : mN d σ1 := mN_o hm o13 (by decide) (by decide)
          have N := m_new hw hm1 (wfN_v hwf) h4σ 16 0 FU (by omega) (FU_gt (by omega))
          rw [knk_w hw, h8σ] at N
          have hN : f_M_newName σm = f_M_newName_7 FU (zJ (nvL b s (rn isLt b n s))) (zI (0 : Nat)) σ1 := by
            unfold f_M_newName
            rw [hM2, bd_s]
            rfl
          have hX2 : f_Parser_passName σx = bp (f_Fair_hasName (zI (nP (nvL b s (rn isLt b n s)) (rn isLt b n s))) σx) fun r_5 => if r_5 = 0 then bp (f_Reader_step σx) (fun σ_7 => some (zI (nP (nvL b s (rn isLt b n s)) (rn isLt b n s)), σ_7)) else bd (f_Parser_tell 3 (zI s) σx) (fun r_9 σ_10 => some ((-1), σ_10)) := by
            rw [hX]
            unfold f_Parser_passName_62
            rcases hxo with ⟨p1, p2⟩ | ⟨p1, p2⟩
            · exact absurd p1 q1
            · have p3 : f_Reader_isOwnWord σx = some 0 := p2
              rw [if_neg (by decide), p3, bp_s, if_pos rfl, b11, a3.1]
              rfl
          rw [hX2, hN]
          rcases x_has hw hx hwf with ⟨k1, k2⟩ | ⟨k1, k2⟩
          · right
            rcases N with ⟨n1, n2⟩ | ⟨n1, n2⟩
            · refine ⟨3, s, _, _, _, ?_, n2, ⟨by omega, by omega, rfl, rfl, rfl, rfl⟩, oX 3 (zI s), oS_uI (by decide) (oS_uI (by decide) (oS_w o13 (by decide) (by decide) (by decide) (by decide)))⟩
              rw [k2, bp_s, if_neg (by decide), x_tell, bd_s]
              rfl
            · exact absurd k1 n1
          · left
            rcases N with ⟨n1, n2⟩ | ⟨n1, n2⟩
            · exact absurd n1 k1
            · have hS8 : SY b n s st σx (uI σm 8 (zI s)) := SY_o h' (oS_r (I := []) (J := []) (A := []) (B := [])) (oS_uI (I := [8]) (J := []) (A := []) (B := []) (by decide) oS_r) (by decide) (by decide) (by decide) (by decide)
              have oM : oS [1, 3] [] [] [] (uI σm 8 (zI s)) σ1 := by
                refine ⟨fun k hk => ?_, fun k hk => ?_, fun k hk => ?_, fun k hk => ?_⟩
                · rw [m5.1 k hk]
                  have : k ≠ 1 := fun e => hk (by rw [e]; decide)
                  simp only [sI_uI, if_neg this]
                · rw [m5.2.1 k hk]; rfl
                · rw [m5.2.2.1 k hk]; rfl
                · rw [m5.2.2.2 k hk]; rfl
              obtain ⟨σx', s', st', n1', n2', n3, n4⟩ := SY_next (a := s + rn isLt b n s) hS8 (by omega) (by omega) b7 c oM m6 (.inl ⟨.inl rfl, m7⟩)
              refine ⟨_, _, σx', σ1, s', st', ?_, n2, hwf, n3, n2', o13, n4⟩
              rw [k2, bp_s, if_pos rfl, n1', bp_s]
        · omega
  · right
    refine wr ?_ ?_
    · have hX8 : ¬ sI σx 8 = 1 := by
        rw [a3.2.1, e1, zI_eq (by omega) (by omega) (by omega) (by omega)]
        omega
      unfold f_Parser_passName f_Parser_passName_27 f_Parser_passName_28 f_Parser_passName_62
      rw [if_neg hX8, if_neg hX8, if_pos rfl]
    · rw [hM]
      by_cases q : 97 ≤ chA b n s ∧ chA b n s ≤ 122
      · rw [if_neg (fun e => bz0.mp e q)]
        obtain ⟨g1, g2⟩ := chA_l.mp q
        have g3 : st = true := by
          cases st
          · exact absurd (kd_1.mpr ⟨g1, g2, rfl⟩) c
          · rfl
        obtain ⟨p, e, p1, p3, pp, ps, pk, pe1, pe2, pst⟩ := a4
        have p3' : sI (uI σm 1 (zI s)) 3 = zI e := p3
        rw [p3', pst.mp g3, if_pos rfl]
      · rw [if_pos (bz0.mpr q)]
end
