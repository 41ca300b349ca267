theorem cp_2  : ∀ (m k q : Nat) (σ : St), k + m = 3 → m < q → ∃ σ', f_M_stands_2 q (zI k) σ = f_M_stands_29 FU 0 σ' ∧ oS [] [] [2] [] σ σ' ∧ (∀ j, j < 3 → sA σ' 2 j = sA σ 2 j) ∧ (∀ j, k ≤ j → j < 3 → sA σ' 2 (3 + j) = sA σ 2 j) ∧ (∀ j, j < k → sA σ' 2 (3 + j) = sA σ 2 (3 + j)) := by
  have eN : (3 : Int32) = zI (3 : Nat) := rfl
  intro m
  induction m with
  | zero =>
    intro k q σ h1 h2
    obtain ⟨q, rfl⟩ : ∃ r, q = r + 1 := ⟨q - 1, by omega⟩
    refine ⟨σ, ?_, oS_r, fun j _ => rfl, fun j h3 h4 => by omega, fun j _ => rfl⟩
    show f_M_stands_2b (f_M_stands_2 q) (zI k) σ = _
    unfold f_M_stands_2b
    rw [eN, if_pos (by rw [zI_le (by omega) (by omega) (by omega) (by omega)]; omega)]
  | succ m ih =>
    intro k q σ h1 h2
    obtain ⟨q, rfl⟩ : ∃ r, q = r + 1 := ⟨q - 1, by omega⟩
    have ea : (3 : Int32) + zI (k : Int) = zI (3 + k : Nat) := by rw [zI_lit, zI_add]; rfl
    have hd : f_M_stands_2 (q + 1) (zI k) σ = f_M_stands_2 q (zI (k + 1 : Nat)) (uA σ 2 (upd (sA σ 2) (3 + k) (sA σ 2 k))) := by
      show f_M_stands_2b (f_M_stands_2 q) (zI k) σ = _
      unfold f_M_stands_2b
      rw [ea, eN, if_neg (by rw [zI_le (by omega) (by omega) (by omega) (by omega)]; omega), zI_in (a := k) (n := 6) (by omega) (by omega) (by omega), zI_in (a := (3 + k : Nat)) (n := 6) (by omega) (by omega) (by omega), gd_t, gd_t, zI_cl (a := k) (by omega) (by omega), zI_cl (a := (3 + k : Nat)) (by omega) (by omega), Int.toNat_natCast, Int.toNat_natCast, zS]
      rfl
    rw [hd]
    obtain ⟨σ', g1, g2, g3, g4, g5⟩ := ih (k + 1) q (uA σ 2 (upd (sA σ 2) (3 + k) (sA σ 2 k))) (by omega) (by omega)
    have e : ∀ j, sA (uA σ 2 (upd (sA σ 2) (3 + k) (sA σ 2 k))) 2 j = if j = 3 + k then sA σ 2 k else sA σ 2 j := fun j => rfl
    refine ⟨σ', g1, oS_t (oS_uA (by decide) oS_r) g2, fun j hj => ?_, fun j h3 h4 => ?_, fun j hj => ?_⟩
    · rw [g3 j hj, e, if_neg (by omega)]
    · by_cases ek : j = k
      · rw [ek, g5 k (by omega), e, if_pos rfl]
      · rw [g4 j (by omega) h4, e, if_neg (by omega)]
    · rw [g5 j (by omega), e, if_neg (by omega)]
theorem cp_117  : ∀ (m k q : Nat) (σ : St), k + m = 48 → m < q → ∃ σ', f_M_stands_117 q (zI k) σ = f_M_stands_146 FU 0 σ' ∧ oS [] [] [4] [] σ σ' ∧ (∀ j, j < 48 → sA σ' 4 j = sA σ 4 j) ∧ (∀ j, k ≤ j → j < 48 → sA σ' 4 (48 + j) = sA σ 4 j) ∧ (∀ j, j < k → sA σ' 4 (48 + j) = sA σ 4 (48 + j)) := by
  have eN : (48 : Int32) = zI (48 : Nat) := rfl
  intro m
  induction m with
  | zero =>
    intro k q σ h1 h2
    obtain ⟨q, rfl⟩ : ∃ r, q = r + 1 := ⟨q - 1, by omega⟩
    refine ⟨σ, ?_, oS_r, fun j _ => rfl, fun j h3 h4 => by omega, fun j _ => rfl⟩
    show f_M_stands_117b (f_M_stands_117 q) (zI k) σ = _
    unfold f_M_stands_117b
    rw [eN, if_pos (by rw [zI_le (by omega) (by omega) (by omega) (by omega)]; omega)]
  | succ m ih =>
    intro k q σ h1 h2
    obtain ⟨q, rfl⟩ : ∃ r, q = r + 1 := ⟨q - 1, by omega⟩
    have ea : (48 : Int32) + zI (k : Int) = zI (48 + k : Nat) := by rw [zI_lit, zI_add]; rfl
    have hd : f_M_stands_117 (q + 1) (zI k) σ = f_M_stands_117 q (zI (k + 1 : Nat)) (uA σ 4 (upd (sA σ 4) (48 + k) (sA σ 4 k))) := by
      show f_M_stands_117b (f_M_stands_117 q) (zI k) σ = _
      unfold f_M_stands_117b
      rw [ea, eN, if_neg (by rw [zI_le (by omega) (by omega) (by omega) (by omega)]; omega), zI_in (a := k) (n := 96) (by omega) (by omega) (by omega), zI_in (a := (48 + k : Nat)) (n := 96) (by omega) (by omega) (by omega), gd_t, gd_t, zI_cl (a := k) (by omega) (by omega), zI_cl (a := (48 + k : Nat)) (by omega) (by omega), Int.toNat_natCast, Int.toNat_natCast, zS]
      rfl
    rw [hd]
    obtain ⟨σ', g1, g2, g3, g4, g5⟩ := ih (k + 1) q (uA σ 4 (upd (sA σ 4) (48 + k) (sA σ 4 k))) (by omega) (by omega)
    have e : ∀ j, sA (uA σ 4 (upd (sA σ 4) (48 + k) (sA σ 4 k))) 4 j = if j = 48 + k then sA σ 4 k else sA σ 4 j := fun j => rfl
    refine ⟨σ', g1, oS_t (oS_uA (by decide) oS_r) g2, fun j hj => ?_, fun j h3 h4 => ?_, fun j hj => ?_⟩
    · rw [g3 j hj, e, if_neg (by omega)]
    · by_cases ek : j = k
      · rw [ek, g5 k (by omega), e, if_pos rfl]
      · rw [g4 j (by omega) h4, e, if_neg (by omega)]
    · rw [g5 j (by omega), e, if_neg (by omega)]
theorem cp_146  : ∀ (m k q : Nat) (σ : St), k + m = 9 → m < q → ∃ σ', f_M_stands_146 q (zI k) σ = f_M_stands_175 FU 0 σ' ∧ oS [] [] [5] [] σ σ' ∧ (∀ j, j < 9 → sA σ' 5 j = sA σ 5 j) ∧ (∀ j, k ≤ j → j < 9 → sA σ' 5 (9 + j) = sA σ 5 j) ∧ (∀ j, j < k → sA σ' 5 (9 + j) = sA σ 5 (9 + j)) := by
  have eN : (9 : Int32) = zI (9 : Nat) := rfl
  intro m
  induction m with
  | zero =>
    intro k q σ h1 h2
    obtain ⟨q, rfl⟩ : ∃ r, q = r + 1 := ⟨q - 1, by omega⟩
    refine ⟨σ, ?_, oS_r, fun j _ => rfl, fun j h3 h4 => by omega, fun j _ => rfl⟩
    show f_M_stands_146b (f_M_stands_146 q) (zI k) σ = _
    unfold f_M_stands_146b
    rw [eN, if_pos (by rw [zI_le (by omega) (by omega) (by omega) (by omega)]; omega)]
  | succ m ih =>
    intro k q σ h1 h2
    obtain ⟨q, rfl⟩ : ∃ r, q = r + 1 := ⟨q - 1, by omega⟩
    have ea : (9 : Int32) + zI (k : Int) = zI (9 + k : Nat) := by rw [zI_lit, zI_add]; rfl
    have hd : f_M_stands_146 (q + 1) (zI k) σ = f_M_stands_146 q (zI (k + 1 : Nat)) (uA σ 5 (upd (sA σ 5) (9 + k) (sA σ 5 k))) := by
      show f_M_stands_146b (f_M_stands_146 q) (zI k) σ = _
      unfold f_M_stands_146b
      rw [ea, eN, if_neg (by rw [zI_le (by omega) (by omega) (by omega) (by omega)]; omega), zI_in (a := k) (n := 18) (by omega) (by omega) (by omega), zI_in (a := (9 + k : Nat)) (n := 18) (by omega) (by omega) (by omega), gd_t, gd_t, zI_cl (a := k) (by omega) (by omega), zI_cl (a := (9 + k : Nat)) (by omega) (by omega), Int.toNat_natCast, Int.toNat_natCast, zS]
      rfl
    rw [hd]
    obtain ⟨σ', g1, g2, g3, g4, g5⟩ := ih (k + 1) q (uA σ 5 (upd (sA σ 5) (9 + k) (sA σ 5 k))) (by omega) (by omega)
    have e : ∀ j, sA (uA σ 5 (upd (sA σ 5) (9 + k) (sA σ 5 k))) 5 j = if j = 9 + k then sA σ 5 k else sA σ 5 j := fun j => rfl
    refine ⟨σ', g1, oS_t (oS_uA (by decide) oS_r) g2, fun j hj => ?_, fun j h3 h4 => ?_, fun j hj => ?_⟩
    · rw [g3 j hj, e, if_neg (by omega)]
    · by_cases ek : j = k
      · rw [ek, g5 k (by omega), e, if_pos rfl]
      · rw [g4 j (by omega) h4, e, if_neg (by omega)]
    · rw [g5 j (by omega), e, if_neg (by omega)]
theorem cp_175 {ℓ : Nat}  (hl : ℓ ≤ 1600) : ∀ (m k q : Nat) (σ : St), sI σ 10 = zI ℓ → k + m = ℓ → m < q → ∃ σ', f_M_stands_175 q (zI k) σ = f_M_stands_207 FU 0 σ' ∧ oS [] [] [6] [] σ σ' ∧ (∀ j, j < 1600 → sA σ' 6 j = sA σ 6 j) ∧ (∀ j, k ≤ j → j < ℓ → sA σ' 6 (1600 + j) = sA σ 6 j) ∧ (∀ j, j < k → sA σ' 6 (1600 + j) = sA σ 6 (1600 + j)) := by
  have eN : (1600 : Int32) = zI (1600 : Nat) := rfl
  intro m
  induction m with
  | zero =>
    intro k q σ h10 h1 h2
    obtain ⟨q, rfl⟩ : ∃ r, q = r + 1 := ⟨q - 1, by omega⟩
    refine ⟨σ, ?_, oS_r, fun j _ => rfl, fun j h3 h4 => by omega, fun j _ => rfl⟩
    show f_M_stands_175b (f_M_stands_175 q) (zI k) σ = _
    unfold f_M_stands_175b
    rw [h10, if_pos (by rw [zI_le (by omega) (by omega) (by omega) (by omega)]; omega)]
  | succ m ih =>
    intro k q σ h10 h1 h2
    obtain ⟨q, rfl⟩ : ∃ r, q = r + 1 := ⟨q - 1, by omega⟩
    have ea : (1600 : Int32) + zI (k : Int) = zI (1600 + k : Nat) := by rw [zI_lit, zI_add]; rfl
    have hd : f_M_stands_175 (q + 1) (zI k) σ = f_M_stands_175 q (zI (k + 1 : Nat)) (uA σ 6 (upd (sA σ 6) (1600 + k) (sA σ 6 k))) := by
      show f_M_stands_175b (f_M_stands_175 q) (zI k) σ = _
      unfold f_M_stands_175b
      rw [ea, h10, if_neg (by rw [zI_le (by omega) (by omega) (by omega) (by omega)]; omega), zI_in (a := k) (n := 3200) (by omega) (by omega) (by omega), zI_in (a := (1600 + k : Nat)) (n := 3200) (by omega) (by omega) (by omega), gd_t, gd_t, zI_cl (a := k) (by omega) (by omega), zI_cl (a := (1600 + k : Nat)) (by omega) (by omega), Int.toNat_natCast, Int.toNat_natCast, zS]
      rfl
    rw [hd]
    obtain ⟨σ', g1, g2, g3, g4, g5⟩ := ih (k + 1) q (uA σ 6 (upd (sA σ 6) (1600 + k) (sA σ 6 k))) h10 (by omega) (by omega)
    have e : ∀ j, sA (uA σ 6 (upd (sA σ 6) (1600 + k) (sA σ 6 k))) 6 j = if j = 1600 + k then sA σ 6 k else sA σ 6 j := fun j => rfl
    refine ⟨σ', g1, oS_t (oS_uA (by decide) oS_r) g2, fun j hj => ?_, fun j h3 h4 => ?_, fun j hj => ?_⟩
    · rw [g3 j hj, e, if_neg (by omega)]
    · by_cases ek : j = k
      · rw [ek, g5 k (by omega), e, if_pos rfl]
      · rw [g4 j (by omega) h4, e, if_neg (by omega)]
    · rw [g5 j (by omega), e, if_neg (by omega)]
theorem cp_29 : ∀ (m k q : Nat) (σ : St), k + m = 16 → m < q → ∃ σ', f_M_stands_29 q (zI k) σ = f_M_stands_58 FU 0 σ' ∧ oS [] [] [] [0] σ σ' ∧ (∀ j, j < 16 → sB σ' 0 j = sB σ 0 j) ∧ (∀ j, k ≤ j → j < 16 → sB σ' 0 (16 + j) = sB σ 0 j) ∧ (∀ j, j < k → sB σ' 0 (16 + j) = sB σ 0 (16 + j)) := by
  have eN : (16 : Int32) = zI (16 : Nat) := rfl
  intro m
  induction m with
  | zero =>
    intro k q σ h1 h2
    obtain ⟨q, rfl⟩ : ∃ r, q = r + 1 := ⟨q - 1, by omega⟩
    refine ⟨σ, ?_, oS_r, fun j _ => rfl, fun j h3 h4 => by omega, fun j _ => rfl⟩
    show f_M_stands_29b (f_M_stands_29 q) (zI k) σ = _
    unfold f_M_stands_29b
    rw [eN, if_pos (by rw [zI_le (by omega) (by omega) (by omega) (by omega)]; omega)]
  | succ m ih =>
    intro k q σ h1 h2
    obtain ⟨q, rfl⟩ : ∃ r, q = r + 1 := ⟨q - 1, by omega⟩
    have ea : (16 : Int32) + zI (k : Int) = zI (16 + k : Nat) := by rw [zI_lit, zI_add]; rfl
    have hd : f_M_stands_29 (q + 1) (zI k) σ = f_M_stands_29 q (zI (k + 1 : Nat)) (uB σ 0 (vp_updL (sB σ 0) (16 + k) (sB σ 0 k))) := by
      show f_M_stands_29b (f_M_stands_29 q) (zI k) σ = _
      unfold f_M_stands_29b
      rw [ea, eN, if_neg (by rw [zI_le (by omega) (by omega) (by omega) (by omega)]; omega), zI_in (a := k) (n := 32) (by omega) (by omega) (by omega), zI_in (a := (16 + k : Nat)) (n := 32) (by omega) (by omega) (by omega), gd_t, gd_t, zI_cl (a := k) (by omega) (by omega), zI_cl (a := (16 + k : Nat)) (by omega) (by omega), Int.toNat_natCast, Int.toNat_natCast, zS]
      rfl
    rw [hd]
    obtain ⟨σ', g1, g2, g3, g4, g5⟩ := ih (k + 1) q (uB σ 0 (vp_updL (sB σ 0) (16 + k) (sB σ 0 k))) (by omega) (by omega)
    have e : ∀ j, sB (uB σ 0 (vp_updL (sB σ 0) (16 + k) (sB σ 0 k))) 0 j = if j = 16 + k then sB σ 0 k else sB σ 0 j := by
      intro j
      rw [sB_uB, if_pos rfl, updL_e]
    refine ⟨σ', g1, oS_t (oS_uB (by decide) oS_r) g2, fun j hj => ?_, fun j h3 h4 => ?_, fun j hj => ?_⟩
    · rw [g3 j hj, e, if_neg (by omega)]
    · by_cases ek : j = k
      · rw [ek, g5 k (by omega), e, if_pos rfl]
      · rw [g4 j (by omega) h4, e, if_neg (by omega)]
    · rw [g5 j (by omega), e, if_neg (by omega)]
def c3 (σ : St) (k : Nat) : St := uA (uA (uA σ 3 (upd (sA σ 3) (6 + k) (sA σ 3 k))) 8 (upd (sA σ 8) (6 + k) (sA σ 8 k))) 9 (upd (sA σ 9) (6 + k) (sA σ 9 k))
theorem c3_e (σ : St) (k r j : Nat) (hr : r = 3 ∨ r = 8 ∨ r = 9) : sA (c3 σ k) r j = if j = 6 + k then sA σ r k else sA σ r j := by
  rcases hr with rfl | rfl | rfl <;> rfl
theorem cp_58 : ∀ (m k q : Nat) (σ : St), k + m = 6 → m < q → ∃ σ', f_M_stands_58 q (zI k) σ = f_M_stands_117 FU 0 σ' ∧ oS [] [] [3, 8, 9] [] σ σ' ∧ (∀ r j, (r = 3 ∨ r = 8 ∨ r = 9) → j < 6 → sA σ' r j = sA σ r j) ∧ (∀ r j, (r = 3 ∨ r = 8 ∨ r = 9) → k ≤ j → j < 6 → sA σ' r (6 + j) = sA σ r j) ∧ (∀ r j, (r = 3 ∨ r = 8 ∨ r = 9) → j < k → sA σ' r (6 + j) = sA σ r (6 + j)) := by
  have eN : (6 : Int32) = zI (6 : Nat) := rfl
  intro m
  induction m with
  | zero =>
    intro k q σ h1 h2
    obtain ⟨q, rfl⟩ : ∃ r, q = r + 1 := ⟨q - 1, by omega⟩
    refine ⟨σ, ?_, oS_r, fun r j _ _ => rfl, fun r j _ h3 h4 => by omega, fun r j _ _ => rfl⟩
    show f_M_stands_58b (f_M_stands_58 q) (zI k) σ = _
    unfold f_M_stands_58b
    rw [eN, if_pos (by rw [zI_le (by omega) (by omega) (by omega) (by omega)]; omega)]
  | succ m ih =>
    intro k q σ h1 h2
    obtain ⟨q, rfl⟩ : ∃ r, q = r + 1 := ⟨q - 1, by omega⟩
    have ea : (6 : Int32) + zI (k : Int) = zI (6 + k : Nat) := by rw [zI_lit, zI_add]; rfl
    have hd : f_M_stands_58 (q + 1) (zI k) σ = f_M_stands_58 q (zI (k + 1 : Nat)) (c3 σ k) := by
      show f_M_stands_58b (f_M_stands_58 q) (zI k) σ = _
      unfold f_M_stands_58b
      rw [ea, eN, if_neg (by rw [zI_le (by omega) (by omega) (by omega) (by omega)]; omega), zI_in (a := k) (n := 12) (by omega) (by omega) (by omega), zI_in (a := (6 + k : Nat)) (n := 12) (by omega) (by omega) (by omega), zI_cl (a := k) (by omega) (by omega), zI_cl (a := (6 + k : Nat)) (by omega) (by omega), Int.toNat_natCast, Int.toNat_natCast, zS]
      rfl
    rw [hd]
    obtain ⟨σ', g1, g2, g3, g4, g5⟩ := ih (k + 1) q (c3 σ k) (by omega) (by omega)
    refine ⟨σ', g1, oS_t (oS_uA (by decide) (oS_uA (by decide) (oS_uA (by decide) oS_r))) g2, fun r j hr hj => ?_, fun r j hr h3 h4 => ?_, fun r j hr hj => ?_⟩
    · rw [g3 r j hr hj, c3_e _ _ _ _ hr, if_neg (by omega)]
    · by_cases ek : j = k
      · rw [ek, g5 r k hr (by omega), c3_e _ _ _ _ hr, if_pos rfl]
      · rw [g4 r j hr (by omega) h4, c3_e _ _ _ _ hr, if_neg (by omega)]
    · rw [g5 r j hr (by omega), c3_e _ _ _ _ hr, if_neg (by omega)]
def lstS (σ : St) : Option St := lt (uA σ 11 (upd (sA σ 11) 2 ((1 <<< ((sA σ 2 2) &&& 31)) - 1))) fun σ_1 => lt (uA σ_1 11 (upd (sA σ_1 11) 3 (sA σ_1 5 0))) fun σ_2 => lt (uA σ_2 11 (upd (sA σ_2 11) 4 (sA σ_2 5 3))) fun σ_3 => lt (uA σ_3 11 (upd (sA σ_3 11) 5 (sA σ_3 5 1))) fun σ_4 => lt (uI σ_4 26 0) fun σ_5 => lt (uI σ_5 28 0) fun σ_6 => some σ_6
theorem cp_207 : ∀ (m k q : Nat) (σ : St), k + m = 7 → m < q → ∃ σ', f_M_stands_207 q (zI k) σ = lstS σ' ∧ oS [] [] [11] [] σ σ' ∧ (∀ j, k ≤ j → j < 7 → sA σ' 11 j = 0) ∧ (∀ j, j < k → sA σ' 11 j = sA σ 11 j) := by
  have eN : (7 : Int32) = zI (7 : Nat) := rfl
  intro m
  induction m with
  | zero =>
    intro k q σ h1 h2
    obtain ⟨q, rfl⟩ : ∃ r, q = r + 1 := ⟨q - 1, by omega⟩
    refine ⟨σ, ?_, oS_r, fun j h3 h4 => by omega, fun j _ => rfl⟩
    show f_M_stands_207b (f_M_stands_207 q) (zI k) σ = _
    unfold f_M_stands_207b
    rw [eN, if_pos (by rw [zI_le (by omega) (by omega) (by omega) (by omega)]; omega)]
    rfl
  | succ m ih =>
    intro k q σ h1 h2
    obtain ⟨q, rfl⟩ : ∃ r, q = r + 1 := ⟨q - 1, by omega⟩
    have hd : f_M_stands_207 (q + 1) (zI k) σ = f_M_stands_207 q (zI (k + 1 : Nat)) (uA σ 11 (upd (sA σ 11) k 0)) := by
      show f_M_stands_207b (f_M_stands_207 q) (zI k) σ = _
      unfold f_M_stands_207b
      rw [eN, if_neg (by rw [zI_le (by omega) (by omega) (by omega) (by omega)]; omega), zI_in (a := k) (n := 10) (by omega) (by omega) (by omega), gd_t, zI_cl (a := k) (by omega) (by omega), Int.toNat_natCast, zS]
      rfl
    rw [hd]
    obtain ⟨σ', g1, g2, g3, g4⟩ := ih (k + 1) q (uA σ 11 (upd (sA σ 11) k 0)) (by omega) (by omega)
    have e : ∀ j, sA (uA σ 11 (upd (sA σ 11) k 0)) 11 j = if j = k then 0 else sA σ 11 j := fun j => rfl
    refine ⟨σ', g1, oS_t (oS_uA (by decide) oS_r) g2, fun j h3 h4 => ?_, fun j hj => ?_⟩
    · by_cases ek : j = k
      · rw [ek, g4 k (by omega), e, if_pos rfl]
      · exact g3 j (by omega) h4
    · rw [g4 j (by omega), e, if_neg (by omega)]
theorem m_stands {ℓ : Nat} {σ : St} (hl : ℓ ≤ 1600) (h10 : sI σ 10 = zI ℓ) : ∃ σ', f_M_stands σ = some σ' ∧ oS [26, 28] [] [2, 3, 4, 5, 6, 8, 9, 11] [0] σ σ' ∧ sI σ' 26 = 0 ∧ sI σ' 28 = 0 ∧ (∀ j, j < 3 → sA σ' 2 (3 + j) = sA σ 2 j) ∧ (∀ j, j < 16 → sB σ' 0 (16 + j) = sB σ 0 j) ∧ (∀ r j, (r = 3 ∨ r = 8 ∨ r = 9) → j < 6 → sA σ' r (6 + j) = sA σ r j) ∧ (∀ j, j < 48 → sA σ' 4 (48 + j) = sA σ 4 j) ∧ (∀ j, j < 9 → sA σ' 5 (9 + j) = sA σ 5 j) ∧ (∀ j, j < ℓ → sA σ' 6 (1600 + j) = sA σ 6 j) ∧ (sA σ' 11 0 = 0 ∧ sA σ' 11 1 = 0 ∧ sA σ' 11 2 = (1 <<< ((sA σ 2 2) &&& 31)) - 1 ∧ sA σ' 11 3 = sA σ 5 0 ∧ sA σ' 11 4 = sA σ 5 3 ∧ sA σ' 11 5 = sA σ 5 1 ∧ sA σ' 11 6 = 0) := by
  obtain ⟨a, a1, a2, a3, a4, a5⟩ := cp_2 3 0 FU σ (by omega) (FU_gt (by omega))
  obtain ⟨b, b1, b2, b3, b4, b5⟩ := cp_29 16 0 FU a (by omega) (FU_gt (by omega))
  obtain ⟨c, c1, c2, c3, c4, c5⟩ := cp_58 6 0 FU b (by omega) (FU_gt (by omega))
  obtain ⟨d, d1, d2, d3, d4, d5⟩ := cp_117 48 0 FU c (by omega) (FU_gt (by omega))
  obtain ⟨e, e1, e2, e3, e4, e5⟩ := cp_146 9 0 FU d (by omega) (FU_gt (by omega))
  have he10 : sI e 10 = zI ℓ := by
    rw [e2.1 10 (by decide), d2.1 10 (by decide), c2.1 10 (by decide), b2.1 10 (by decide), a2.1 10 (by decide)]; exact h10
  obtain ⟨f, f1, f2, f3, f4, f5⟩ := cp_175 hl ℓ 0 FU e he10 (by omega) (FU_gt (by omega))
  obtain ⟨g, g1, g2, g3, g4⟩ := cp_207 7 0 FU f (by omega) (FU_gt (by omega))
  have w : ∀ {A B A' B' : List Nat} {σ σ' : St}, oS [] [] A B σ σ' → (∀ k, k ∈ A → k ∈ A') → (∀ k, k ∈ B → k ∈ B') → oS [26, 28] [] A' B' σ σ' := fun h h1 h2 => oS_w h (fun k hk => absurd hk List.not_mem_nil) (fun k hk => absurd hk List.not_mem_nil) h1 h2
  have oall : oS [26, 28] [] [2, 3, 4, 5, 6, 8, 9, 11] [0] σ g := oS_t (w a2 (by decide) (by decide)) (oS_t (w b2 (by decide) (by decide)) (oS_t (w c2 (by decide) (by decide)) (oS_t (w d2 (by decide) (by decide)) (oS_t (w e2 (by decide) (by decide)) (oS_t (w f2 (by decide) (by decide)) (w g2 (by decide) (by decide)))))))
  have q2 : ∀ j, sA g 2 j = sA a 2 j := fun j => by rw [g2.2.2.1 2 (by decide), f2.2.2.1 2 (by decide), e2.2.2.1 2 (by decide), d2.2.2.1 2 (by decide), c2.2.2.1 2 (by decide), b2.2.2.1 2 (by decide)]
  have q5 : ∀ j, j < 9 → sA g 5 j = sA σ 5 j := fun j hj => by rw [g2.2.2.1 5 (by decide), f2.2.2.1 5 (by decide), e3 j hj, d2.2.2.1 5 (by decide), c2.2.2.1 5 (by decide), b2.2.2.1 5 (by decide), a2.2.2.1 5 (by decide)]
  refine ⟨uI (uI (uA (uA (uA (uA g 11 (upd (sA g 11) 2 ((1 <<< ((sA g 2 2) &&& 31)) - 1))) 11 (upd (upd (sA g 11) 2 ((1 <<< ((sA g 2 2) &&& 31)) - 1)) 3 (sA g 5 0))) 11 (upd (upd (upd (sA g 11) 2 ((1 <<< ((sA g 2 2) &&& 31)) - 1)) 3 (sA g 5 0)) 4 (sA g 5 3))) 11 (upd (upd (upd (upd (sA g 11) 2 ((1 <<< ((sA g 2 2) &&& 31)) - 1)) 3 (sA g 5 0)) 4 (sA g 5 3)) 5 (sA g 5 1))) 26 0) 28 0, ?_, oS_uI (by decide) (oS_uI (by decide) (oS_uA (by decide) (oS_uA (by decide) (oS_uA (by decide) (oS_uA (by decide) oall))))), rfl, rfl, fun j hj => ?_, fun j hj => ?_, fun r j hr hj => ?_, fun j hj => ?_, fun j hj => ?_, fun j hj => ?_, ?_, ?_, ?_, ?_, ?_, ?_, ?_⟩
  · have h0 : f_M_stands σ = f_M_stands_2 FU (zI (0 : Nat)) σ := rfl
    have b1' : f_M_stands_29 FU 0 a = f_M_stands_58 FU 0 b := b1
    have c1' : f_M_stands_58 FU 0 b = f_M_stands_117 FU 0 c := c1
    have d1' : f_M_stands_117 FU 0 c = f_M_stands_146 FU 0 d := d1
    have e1' : f_M_stands_146 FU 0 d = f_M_stands_175 FU 0 e := e1
    have f1' : f_M_stands_175 FU 0 e = f_M_stands_207 FU 0 f := f1
    have g1' : f_M_stands_207 FU 0 f = lstS g := g1
    rw [h0, a1, b1', c1', d1', e1', f1', g1']
    rfl
  · show sA g 2 (3 + j) = _
    rw [q2, a4 j (by omega) hj]
  · show sB g 0 (16 + j) = _
    rw [g2.2.2.2 0 (by decide), f2.2.2.2 0 (by decide), e2.2.2.2 0 (by decide), d2.2.2.2 0 (by decide), c2.2.2.2 0 (by decide), b4 j (by omega) hj, a2.2.2.2 0 (by decide)]
  · have n11 : ∀ (τ : St) (v : Nat → Int32), sA (uA τ 11 v) r = sA τ r := by
      intro τ v
      rw [sA_uA, if_neg (by omega)]
    simp only [sA_uI, n11]
    have nr : ∀ (A : List Nat), A = [11] ∨ A = [6] ∨ A = [5] ∨ A = [4] ∨ A = [2] ∨ A = [] → r ∉ A := by
      intro A hA hm
      rcases hA with rfl | rfl | rfl | rfl | rfl | rfl <;> simp at hm <;> omega
    rw [g2.2.2.1 r (nr _ (by simp)), f2.2.2.1 r (nr _ (by simp)), e2.2.2.1 r (nr _ (by simp)), d2.2.2.1 r (nr _ (by simp)), c4 r j hr (by omega) hj, b2.2.2.1 r (nr _ (by simp)), a2.2.2.1 r (nr _ (by simp))]
  · show sA g 4 (48 + j) = _
    rw [g2.2.2.1 4 (by decide), f2.2.2.1 4 (by decide), e2.2.2.1 4 (by decide), d4 j (by omega) hj, c2.2.2.1 4 (by decide), b2.2.2.1 4 (by decide), a2.2.2.1 4 (by decide)]
  · show sA g 5 (9 + j) = _
    rw [g2.2.2.1 5 (by decide), f2.2.2.1 5 (by decide), e4 j (by omega) hj, d2.2.2.1 5 (by decide), c2.2.2.1 5 (by decide), b2.2.2.1 5 (by decide), a2.2.2.1 5 (by decide)]
  · show sA g 6 (1600 + j) = _
    rw [g2.2.2.1 6 (by decide), f4 j (by omega) hj, e2.2.2.1 6 (by decide), d2.2.2.1 6 (by decide), c2.2.2.1 6 (by decide), b2.2.2.1 6 (by decide), a2.2.2.1 6 (by decide)]
  · show sA g 11 0 = 0
    exact g3 0 (by omega) (by omega)
  · show sA g 11 1 = 0
    exact g3 1 (by omega) (by omega)
  · show (1 <<< ((sA g 2 2) &&& 31)) - 1 = _
    rw [q2, a3 2 (by omega)]
  · show sA g 5 0 = _
    exact q5 0 (by omega)
  · show sA g 5 3 = _
    exact q5 3 (by omega)
  · show sA g 5 1 = _
    exact q5 1 (by omega)
  · show sA g 11 6 = 0
    exact g3 6 (by omega) (by omega)
theorem rel_flt {σx σm : St} {f p : Int32} (h : Rel σx σm) : Rel (uI (uI σx 4 f) 5 p) (uI (uI σm 6 f) 7 p) := ⟨⟨h.1.1, ⟨rfl, rfl⟩, h.1.2.2⟩, h.2⟩
def d00 : FD := (0, 0, 0, fun _ => 0, fun _ _ => 0, fun _ => 1, fun _ => 0, fun _ => 0, fun _ _ => 0, fun _ _ => 0)
def u00 (i : Nat) : Nat := [50, 20, 1, 3, 0, 3, 3, 1, 0].getD i 0
theorem u00_x : ∀ i : Fin 9, stF 2 i.val = zI (u00 i.val : Nat) ∧ sLo i.val ≤ u00 i.val ∧ u00 i.val ≤ sHi i.val := by decide
def l45 (σ : St) : St := uA (uA (uA (uA (uA (uA (uA (uA (uA σ 5 (upd (sA σ 5) 0 50)) 5 (upd (upd (sA σ 5) 0 50) 1 1)) 5 (upd (upd (upd (sA σ 5) 0 50) 1 1) 2 3)) 5 (upd (upd (upd (upd (sA σ 5) 0 50) 1 1) 2 3) 3 20)) 5 (upd (upd (upd (upd (upd (sA σ 5) 0 50) 1 1) 2 3) 3 20) 4 0)) 5 (upd (upd (upd (upd (upd (upd (sA σ 5) 0 50) 1 1) 2 3) 3 20) 4 0) 5 3)) 5 (upd (upd (upd (upd (upd (upd (upd (sA σ 5) 0 50) 1 1) 2 3) 3 20) 4 0) 5 3) 6 3)) 5 (upd (upd (upd (upd (upd (upd (upd (upd (sA σ 5) 0 50) 1 1) 2 3) 3 20) 4 0) 5 3) 6 3) 7 1)) 5 (upd (upd (upd (upd (upd (upd (upd (upd (upd (sA σ 5) 0 50) 1 1) 2 3) 3 20) 4 0) 5 3) 6 3) 7 1) 8 0)
theorem l45_5 (σ : St) : sA (l45 σ) 5 = upd (upd (upd (upd (upd (upd (upd (upd (upd (sA σ 5) 0 50) 1 1) 2 3) 3 20) 4 0) 5 3) 6 3) 7 1) 8 0 := rfl
theorem l45_u (σ : St) : ∀ i, i < 9 → sA (l45 σ) 5 (tI i) = zI (u00 i : Nat) := by
  intro i hi
  rw [l45_5]
  match i, hi with
  | 0, _ => rfl
  | 1, _ => rfl
  | 2, _ => rfl
  | 3, _ => rfl
  | 4, _ => rfl
  | 5, _ => rfl
  | 6, _ => rfl
  | 7, _ => rfl
  | 8, _ => rfl
theorem l45_h (σ : St) (k : Nat) : sA (l45 σ) 5 (9 + k) = sA σ 5 (9 + k) := by
  rw [l45_5]
  simp only [upd_e]
  rw [if_neg (by omega), if_neg (by omega), if_neg (by omega), if_neg (by omega), if_neg (by omega), if_neg (by omega), if_neg (by omega), if_neg (by omega), if_neg (by omega)]
theorem l45_o (σ : St) : oS [] [] [5] [] σ (l45 σ) := oS_uA (by decide) (oS_uA (by decide) (oS_uA (by decide) (oS_uA (by decide) (oS_uA (by decide) (oS_uA (by decide) (oS_uA (by decide) (oS_uA (by decide) (oS_uA (by decide) oS_r))))))))
theorem m_45 : ∀ (m k q : Nat) (σ : St), k + m = 3 → m < q → ∃ σ', f_M_fair_45 q (zI k) σ = f_M_fair_131 FU (l45 σ') ∧ oS [] [] [2] [] σ σ' ∧ (∀ j, k ≤ j → j < 3 → sA σ' 2 j = 0) ∧ (∀ j, j < k ∨ 3 ≤ j → sA σ' 2 j = sA σ 2 j) := by
  have eN : (3 : Int32) = zI (3 : Nat) := rfl
  intro m
  induction m with
  | zero =>
    intro k q σ h1 h2
    obtain ⟨q, rfl⟩ : ∃ r, q = r + 1 := ⟨q - 1, by omega⟩
    refine ⟨σ, ?_, oS_r, fun j h3 h4 => by omega, fun j _ => rfl⟩
    show f_M_fair_45b (f_M_fair_45 q) (zI k) σ = _
    unfold f_M_fair_45b
    rw [if_pos (by rw [eN, zI_le (by omega) (by omega) (by omega) (by omega)]; omega)]
    rfl
  | succ m ih =>
    intro k q σ h1 h2
    obtain ⟨q, rfl⟩ : ∃ r, q = r + 1 := ⟨q - 1, by omega⟩
    have hd : f_M_fair_45 (q + 1) (zI k) σ = f_M_fair_45 q (zI (k + 1 : Nat)) (uA σ 2 (upd (sA σ 2) k 0)) := by
      show f_M_fair_45b (f_M_fair_45 q) (zI k) σ = _
      unfold f_M_fair_45b
      rw [if_neg (by rw [eN, zI_le (by omega) (by omega) (by omega) (by omega)]; omega), zI_in (a := k) (n := 6) (by omega) (by omega) (by omega), gd_t, zI_cl (a := k) (by omega) (by omega), Int.toNat_natCast, zS]
      rfl
    rw [hd]
    obtain ⟨σ', g1, g2, g3, g4⟩ := ih (k + 1) q (uA σ 2 (upd (sA σ 2) k 0)) (by omega) (by omega)
    have e : ∀ j, sA (uA σ 2 (upd (sA σ 2) k 0)) 2 j = if j = k then 0 else sA σ 2 j := fun j => rfl
    refine ⟨σ', g1, oS_t (oS_uA (by decide) oS_r) g2, fun j h3 h4 => ?_, fun j hj => ?_⟩
    · by_cases ek : j = k
      · rw [ek, g4 k (by omega), e, if_pos rfl]
      · exact g3 j (by omega) h4
    · rw [g4 j (by omega), e, if_neg (by omega)]
def xFg (n : Nat) (σ : St) : St := uI (uI (uI (uI (uI (uI (uI (uI (uA (uI (uI σ 4 0) 5 (-1)) 6 (va_cpy (stF 2) (sA σ 6) 0 0 9)) 12 0) 13 0) 14 0) 15 0) 16 0) 6 (zI n)) 7 0) 8 0
def mFg (σ : St) : St := uI (uI (uI (uI (uI (uI (uI (uI σ 2 (sI σ 0)) 0 0) 1 0) 3 (-1)) 4 0) 5 (-1)) 9 0) 10 0
theorem wf_d00 : wfD d00 := ⟨by decide, by decide, by decide, fun k hk => absurd hk (Nat.not_lt_zero _), fun k hk => absurd hk (Nat.not_lt_zero _), ⟨by decide, by decide, by decide, by decide, by decide, by decide, by decide⟩, fun k hk => absurd hk (Nat.not_lt_zero _), fun k hk => absurd hk (Nat.not_lt_zero _), fun k hk => absurd hk (Nat.not_lt_zero _)⟩
theorem t_start {σx σm : St} (h : Rel σx σm) : ∃ (b : Nat → Nat) (n s : Nat) (st : Bool) (σx1 σm1 : St), f_Parser_parse (sI σx 3) σx = f_Parser_parse_28 FU (zI (0 : Nat)) σx1 ∧ f_M_fair σm = f_M_fair_131 FU σm1 ∧ DR b n d00 u00 0 (fun _ => 0) [] s st σx1 σm1 ∧ sI σm1 9 = zI (0 : Nat) ∧ oS [4, 5, 6, 7, 8, 9, 10, 11, 12, 13, 14, 15, 16] [] [6] [] σx σx1 ∧ oS [0, 1, 2, 3, 4, 5, 9, 10] [] [2, 5] [] σm σm1 ∧ uH σm σm1 ∧ sI σm1 0 = 0 := by
  obtain ⟨⟨⟨n, hn, t1, t2, t3⟩, q2, q3, q4, q5, q6⟩, -⟩ := h
  have hb : ∀ k, k < n → sA σm 0 k = zI ((sA σm 0 k).toNatClampNeg : Nat) ∧ (sA σm 0 k).toNatClampNeg < 256 := by
    intro k hk
    obtain ⟨-, β, b1, b2⟩ := t3 k hk
    rw [b2, zI_cl (by omega) (by omega), Int.toNat_natCast]
    exact ⟨rfl, b1⟩
  have e1600 : (1600 : Int32) = zI (1600 : Nat) := rfl
  have oX0 : oS [4, 5, 6, 7, 8, 9, 10, 11, 12, 13, 14, 15, 16] [] [6] [] σx (xFg n σx) := oS_uI (by decide) (oS_uI (by decide) (oS_uI (by decide) (oS_uI (by decide) (oS_uI (by decide) (oS_uI (by decide) (oS_uI (by decide) (oS_uI (by decide) (oS_uA (by decide) (oS_uI (by decide) (oS_uI (by decide) oS_r))))))))))
  have oM0 : oS [0, 1, 2, 3, 4, 5, 9, 10] [] [2, 5] [] σm (mFg σm) := oS_uI (by decide) (oS_uI (by decide) (oS_uI (by decide) (oS_uI (by decide) (oS_uI (by decide) (oS_uI (by decide) (oS_uI (by decide) (oS_uI (by decide) oS_r)))))))
  have hTx : tX' (fun k => (sA σm 0 k).toNatClampNeg) n (xFg n σx) := by
    refine ⟨hn, rfl, fun k hk => ?_, fun k hk => (hb k hk).2⟩
    show sA σx 0 k = _
    rw [(t3 k hk).1]
    exact (hb k hk).1
  obtain ⟨σx1, x1, x2, x3⟩ := x_step (a := 0) (κ := 0) hTx (by omega) rfl rfl (by omega)
  have hst : (decide ((0 : Nat) = 1 ∨ (0 : Nat) = 2) && decide (skp (fun k => (sA σm 0 k).toNatClampNeg) n 0 = 0)) = false := rfl
  rw [hst] at x3
  obtain ⟨σ2, m1, m2, m3, m4⟩ := m_45 3 0 FU (mFg σm) (by omega) (FU_gt (by omega))
  have oM1 : oS [] [] [2, 5] [] (mFg σm) (l45 σ2) := oS_t (oS_w m2 (by decide) (by decide) (by decide) (by decide)) (oS_w (l45_o σ2) (by decide) (by decide) (by decide) (by decide))
  have oM2 : oS [0, 1, 2, 3, 4, 5, 9, 10] [] [2, 5] [] σm (l45 σ2) := oS_t oM0 (oS_w oM1 (fun k hk => absurd hk List.not_mem_nil) (by decide) (by decide) (by decide))
  have hs0 := skp_b (b := fun k => (sA σm 0 k).toNatClampNeg) (n := n) (p := 0) (by omega)
  have hl2 : sA (l45 σ2) 2 = sA σ2 2 := rfl
  refine ⟨fun k => (sA σm 0 k).toNatClampNeg, n, skp (fun k => (sA σm 0 k).toNatClampNeg) n 0, false, σx1, l45 σ2, ?_, ?_, ⟨⟨?_, ?_, x3, ?_, ?_, ?_⟩, ?_, ?_, ?_, ?_, ?_, ?_⟩, ?_, ?_, oM2, ?_, ?_⟩
  · have e : f_Parser_parse (sI σx 3) σx = bp (bp (f_Reader_step (xFg n σx)) fun σ_5 => some σ_5) fun σ_6 => f_Parser_parse_28 FU 0 σ_6 := by
      have hmin : iMin (sI σx 3) 1600 = zI (n : Nat) := by
        rw [t1, e1600, iMin_z (by omega) (by omega) (by omega) (by omega)]
        congr 1
        omega
      unfold f_Parser_parse f_Fair_forget f_Reader_begin
      rw [hmin]
      rfl
    rw [e, x1, bp_s, bp_s]
    rfl
  · rw [← m1]
    unfold f_M_fair
    simp only [lt_q]
    rfl
  · exact tX_o hTx x2 (by decide) (by decide)
  · have : tM' (fun k => (sA σm 0 k).toNatClampNeg) n (mFg σm) := ⟨hn, t2, fun k hk => (hb k hk).1, fun k hk => (hb k hk).2⟩
    exact tM_o this oM1 (by decide) (by decide)
  · refine ⟨0, -1, ?_, ?_, by omega, hs0.2, rfl, by omega, by omega, ?_⟩
    · rw [oM1.1 1 (by decide)]; rfl
    · rw [oM1.1 3 (by decide)]; rfl
    · constructor
      · intro g; exact absurd g (by decide)
      · intro g; omega
  · rw [oM1.1 4 (by decide)]; rfl
  · unfold rO
    rw [x2.2.2.1 1 (by decide)]
    exact q6
  · have x0 : xD d00 u00 0 (fun _ => 0) [] (xFg n σx) := by
      refine ⟨⟨rfl, rfl, fun k hk => absurd hk (Nat.not_lt_zero _), fun k hk => absurd hk (Nat.not_lt_zero _)⟩, fun k hk => absurd hk (Nat.not_lt_zero _), fun t j hk => absurd hk (Nat.not_lt_zero _), fun i hi => ?_, rfl, fun k hk => absurd hk (Nat.not_lt_zero _), rfl, fun i hi => absurd hi (Nat.not_lt_zero _)⟩
      show va_cpy (stF 2) (sA σx 6) 0 0 9 i = _
      unfold va_cpy
      rw [if_pos (by omega), Nat.sub_zero, Nat.zero_add]
      exact (u00_x ⟨i, hi⟩).1
    exact xD_o x0 x2 (by decide) (by decide)
  · refine ⟨⟨?_, ?_, fun k hk => absurd hk (Nat.not_lt_zero _), fun k hk => absurd hk (Nat.not_lt_zero _)⟩, fun k hk => absurd hk (Nat.not_lt_zero _), fun t j hk => absurd hk (Nat.not_lt_zero _), l45_u σ2, ?_, fun k hk => absurd hk (Nat.not_lt_zero _), ?_, fun i hi => absurd hi (Nat.not_lt_zero _)⟩
    · rw [hl2, m3 0 (by omega) (by omega)]; rfl
    · rw [hl2, m3 1 (by omega) (by omega)]; rfl
    · rw [hl2, m3 2 (by omega) (by omega)]; rfl
    · rw [oM1.1 10 (by decide)]; rfl
  · exact ⟨wf_d00, fun i hi => (u00_x ⟨i, hi⟩).2, by omega, fun k hk => absurd hk (Nat.not_lt_zero _), rfl, Nat.zero_le _⟩
  · rw [x2.1 4 (by decide)]; rfl
  · rw [x2.1 5 (by decide)]; rfl
  · rw [oM1.1 5 (by decide)]; rfl
  · rw [oM1.1 9 (by decide)]; rfl
  · exact oS_t oX0 (oS_w x2 (by decide) (by decide) (by decide) (by decide))
  · refine ⟨fun k => ?_, fun k => ?_, fun k => ?_, fun k => ?_, fun k => ?_, fun k => ?_, fun k => ?_, fun k => ?_⟩
    · rw [hl2, m4 (3 + k) (by omega)]; rfl
    · rw [oM2.2.2.1 3 (by decide)]
    · rw [oM2.2.2.1 4 (by decide)]
    · rw [l45_h, m2.2.2.1 5 (by decide)]; rfl
    · rw [oM2.2.2.1 6 (by decide)]
    · rw [oM2.2.2.1 8 (by decide)]
    · rw [oM2.2.2.1 9 (by decide)]
    · rw [oM2.2.2.2 0 (by decide)]
  · rw [oM1.1 0 (by decide)]; rfl
def Yf (σ : St) : St := uI (uI (uI (uA (uI (uI (uI (sw (uI σ 3 0)) 17 0) 18 0) 19 ((1 <<< (sI σ 15 &&& 31)) - 1)) 9 (va_cpy (sA σ 6) (sA σ 9) 0 0 3)) 23 0) 24 0) 0 0
theorem x_fin (σ : St) : (lt (sw (uI σ 3 0)) fun σ_5 => bp (f_Book_open σ_5) fun σ_7 => lt (uI σ_7 0 0) fun σ_8 => some ((sI σ_8 56), σ_8)) = some (sI σ 16, Yf σ) := rfl
def dFin (d : FD) (u : Nat → Nat) (R : Nat) (E : Nat → Nat) (L : List Nat) : FD := (nM d, nT d, R, mH d, tV d, fun k => u (3 + k), fun i => L.getD i 0, E, nV d, nN d)
def cFin (u : Nat → Nat) (R : Nat) (i : Nat) : Nat := if i = 2 then 2 ^ R - 1 else if i = 3 then u 0 else if i = 4 then u 1 else if i = 5 then u 2 else 0
theorem wf_fin {d : FD} {u : Nat → Nat} {R : Nat} {E : Nat → Nat} {L : List Nat} {s : Nat} (h : wfDr d u R E L s) : wfD (dFin d u R E L) ∧ wfC (dFin d u R E L) (cFin u R) := by
  obtain ⟨⟨w1, w2, w3, w4, w5, w6, w7, w8, w9⟩, h2, h3, h4, h5, h6⟩ := h
  have l0 : 1 ≤ u 0 ∧ u 0 ≤ 99 := h2 0 (by omega)
  have l1 : 0 ≤ u 1 ∧ u 1 ≤ 90 := h2 1 (by omega)
  have l2 : 1 ≤ u 2 ∧ u 2 ≤ 9 := h2 2 (by omega)
  have l3 : 1 ≤ u 3 ∧ u 3 ≤ 4 := h2 3 (by omega)
  have l4 : 0 ≤ u 4 ∧ u 4 ≤ 99 := h2 4 (by omega)
  have l5 : 0 ≤ u 5 ∧ u 5 ≤ 20 := h2 5 (by omega)
  have l6 : 0 ≤ u 6 ∧ u 6 ≤ 9 := h2 6 (by omega)
  have l7 : 0 ≤ u 7 ∧ u 7 ≤ 9 := h2 7 (by omega)
  have l8 : 0 ≤ u 8 ∧ u 8 ≤ 9 := h2 8 (by omega)
  have hp : 0 < 2 ^ R := Nat.pow_pos (by omega)
  refine ⟨⟨w1, w2, h3, w4, w5, ⟨l3.1, l3.2, l4.2, l5.2, l6.2, l7.2, l8.2⟩, fun k hk => (h4 k hk).2, w8, w9⟩, ?_⟩
  refine ⟨Nat.zero_le _, Nat.zero_le _, ?_, l0.1, l0.2, l1.2, l2.1, l2.2, Nat.zero_le _⟩
  show 2 ^ R - 1 < 2 ^ R
  omega
theorem pw_1 {R : Nat} (hR : R ≤ 6) : (1 : Int32) <<< (zI R &&& 31) - 1 = zI (2 ^ R - 1 : Nat) := by
  rw [pow_z (by omega), zI_lit, zI_sub]
  have hp : 0 < 2 ^ R := Nat.pow_pos (by omega)
  have e : ((2 ^ R : Nat) : Int) - 1 = ((2 ^ R - 1 : Nat) : Int) := by
    generalize 2 ^ R = x at hp ⊢
    omega
  exact congrArg zI e
theorem Yf_9 (σ : St) (k : Nat) (hk : k < 3) : sA (Yf σ) 9 k = sA σ 6 k := by
  have : sA (Yf σ) 9 = va_cpy (sA σ 6) (sA σ 9) 0 0 3 := rfl
  rw [this]
  unfold va_cpy
  rw [if_pos (by omega), Nat.sub_zero, Nat.zero_add]
theorem cF_2 (u : Nat → Nat) (R : Nat) : cFin u R 2 = 2 ^ R - 1 := rfl
theorem cF_3 (u : Nat → Nat) (R : Nat) : cFin u R 3 = u 0 := rfl
theorem cF_4 (u : Nat → Nat) (R : Nat) : cFin u R 4 = u 1 := rfl
theorem cF_5 (u : Nat → Nat) (R : Nat) : cFin u R 5 = u 2 := rfl
theorem sim_fair : Sim_fair Rel := by
  intro σx σm h
  obtain ⟨b, n, s, st, σx1, σm1, p1, p2, p3, p4, p5, p6, p7, p8⟩ := t_start h
  have hn := p3.1.1.1
  have P := t_parse (n - s) 0 FU FU d00 u00 0 (fun _ => 0) [] s st σx1 σm1 (Nat.le_refl _) (FU_gt (m := n - s + 1) (by omega)) (FU_gt (m := n - s + 1) (by omega)) (by omega) p3 p4
  unfold f_BH_fair
  rw [p1, p2]
  rcases P with ⟨d, u, R, E, L, c, s', st', σx', σm', k1, k2, k3, k4, k5, k6, k7⟩ | ⟨f, pl, σx', σm', k1, k2, k3, k4, k5⟩
  · -- the fair stands
    have oX : oS [4, 5, 6, 7, 8, 9, 10, 11, 12, 13, 14, 15, 16] [] [2, 3, 4, 5, 6, 7, 8] [] σx σx' := oS_t (oS_w p5 (by decide) (by decide) (by decide) (by decide)) (oS_w k4 (by decide) (by decide) (by decide) (by decide))
    have oM : oS [0, 1, 2, 3, 4, 5, 8, 9, 10, 11, 12, 13] [] [2, 3, 4, 5, 6, 7, 8, 9] [0] σm σm' := oS_t (oS_w p6 (by decide) (by decide) (by decide) (by decide)) (oS_w k5.1 (by decide) (by decide) (by decide) (by decide))
    obtain ⟨a1, a2, a3, a4, a5, a6, a7⟩ := k3
    obtain ⟨hwd, hwc⟩ := wf_fin a4
    have hb4 : sI σm' 4 = 0 := a1.2.2.2.2.1
    have hs' : s' ≤ n ∧ n ≤ 1600 := ⟨a1.2.2.1.2.2.1.1, a1.1.1⟩
    have hR := a4.2.2.1
    have hLl := a4.2.2.2.2.2
    have hEl := a4.2.2.2.1
    obtain ⟨⟨x13, x14, xm, xt⟩, xh, xtr, xs, x15, x8, x7⟩ := a2
    obtain ⟨⟨y20, y21, ym, yt⟩, yh, ytr, ys, y22, y8, y6⟩ := a3
    have z0 : sI σm' 0 = 0 := by rw [k5.1.1 0 (by decide)]; exact p8
    -- M
    have oτ : oS [6, 7] [] [] [] σm' (uI (uI σm' 6 (sI σm' 4)) 7 (sI σm' 5)) := oS_uI (by decide) (oS_uI (by decide) oS_r)
    have τ10 : sI (uI (uI σm' 6 (sI σm' 4)) 7 (sI σm' 5)) 10 = zI L.length := y6.1
    obtain ⟨σ'', g1, g2, g26, g28, ga, gb, gc, gd', ge, gf, gr0, gr1, gr2, gr3, gr4, gr5, gr6⟩ := m_stands (σ := uI (uI σm' 6 (sI σm' 4)) 7 (sI σm' 5)) (ℓ := L.length) (by omega) τ10
    have hM : f_M_fair_153 σm' = some (zI c, σ'') := by
      unfold f_M_fair_153
      rw [lt_s', lt_s']
      have e5 : sI (uI σm' 6 (sI σm' 4)) 5 = sI σm' 5 := rfl
      rw [e5]
      have e4 : sI (uI (uI σm' 6 (sI σm' 4)) 7 (sI σm' 5)) 4 = 0 := hb4
      rw [if_pos e4, g1, bp_s]
      have e9 : sI σ'' 9 = zI c := by rw [g2.1 9 (by decide)]; exact k6
      rw [e9]
    have hX : (lt (uI σx' 3 0) fun σ_4 => if (1 : Int32) = 0 then lt (uA σ_4 30 (upd (sA σ_4 30) (1 : Int32).toNatClampNeg ((sA σ_4 30 (1 : Int32).toNatClampNeg) + 1))) fun σ_9 => some ((-1 : Int32), σ_9) else lt (sw σ_4) fun σ_5 => bp (f_Book_open σ_5) fun σ_7 => lt (uI σ_7 0 0) fun σ_8 => some ((sI σ_8 56), σ_8)) = some (zI c, Yf σx') := by
      rw [lt_s', if_neg (by decide), x_fin, k7]
    have oMM : ∀ r, r ∉ [2, 3, 4, 5, 6, 7, 8, 9, 11] → sA σ'' r = sA σm r := by
      intro r hr
      rw [g2.2.2.1 r (fun g => hr (by simp at g ⊢; omega))]
      show sA σm' r = sA σm r
      exact oM.2.2.1 r (fun g => hr (by simp at g ⊢; omega))
    have oMI : ∀ k, k ∉ [0, 1, 2, 3, 4, 5, 6, 7, 8, 9, 10, 11, 12, 13, 26, 28] → sI σ'' k = sI σm k := by
      intro k hk
      rw [g2.1 k (fun g => hk (by simp at g ⊢; omega)), oτ.1 k (fun g => hk (by simp at g ⊢; omega))]
      exact oM.1 k (fun g => hk (by simp at g ⊢; omega))
    obtain ⟨⟨q1, q2, q3, q4, q5, q6⟩, dd, -, -, -, -, aa, w, hs0, ks0, -, -, mh1, mh2, mh3, -⟩ := h
    refine ⟨zI c, Yf σx', σ'', ?_, ?_, ?_⟩
    · rw [k1, bd_s]
      exact hX
    · rw [k2, hM]
    · refine ⟨⟨⟨0, by omega, rfl, ?_, fun k hk => absurd hk (Nat.not_lt_zero _)⟩, ⟨?_, ?_⟩, fun k hk => ?_, ⟨?_, ?_, fun k hk => ?_⟩, ?_, ?_⟩, dFin d u R E L, hwd, ?_, ?_, ⟨0, by omega, rfl, ?_, fun g => absurd g (Nat.lt_irrefl _)⟩, 0, w, fun _ => cFin u R, ks0, ?_, ?_, ?_⟩
      · rw [g2.1 0 (by decide)]; exact z0
      · have e : sI σ'' 6 = sI σm' 4 := by rw [g2.1 6 (by decide)]; rfl
        rw [e, hb4]
        exact a5
      · have e : sI σ'' 7 = sI σm' 5 := by rw [g2.1 7 (by decide)]; rfl
        rw [e, a7]
        exact a6
      · rw [oMM 1 (by decide)]
        have : sA (Yf σx') 30 = sA σx' 30 := rfl
        rw [this, oX.2.2.1 30 (by decide)]
        exact q3 k hk
      · rw [oMI 30 (by decide)]
        have : sI (Yf σx') 2 = sI σx' 2 := rfl
        rw [this, oX.1 2 (by decide)]
        exact q4.1
      · rw [oMI 30 (by decide)]
        exact q4.2.1
      · rw [oMM 15 (by decide)]
        have : sA (Yf σx') 29 = sA σx' 29 := rfl
        rw [this, oX.2.2.1 29 (by decide)]
        exact q4.2.2 k hk
      · obtain ⟨v, v1, v2, v3⟩ := q5
        refine ⟨v, v1, ?_, ?_⟩
        · have : sI (Yf σx') 22 = sI σx' 22 := rfl
          rw [this, oX.1 22 (by decide)]
          exact v2
        · rw [g2.2.1 5 (by decide)]
          show sJ σm' 5 = _
          rw [oM.2.1 5 (by decide)]
          exact v3
      · show sA (Yf σx') 1 = _
        have : sA (Yf σx') 1 = sA σx' 1 := rfl
        rw [this, oX.2.2.1 1 (by decide)]
        exact q6
      · -- XD
        refine ⟨x13, x14, x15, xh, xtr, fun k hk => xs (3 + k) (by omega), fun k i hk hi => ?_, x8, xm, xt⟩
        have hk' : k < R := hk
        have hi' : i < E k := hi
        have := (hEl k hk').1
        exact x7.2 i (by omega)
      · -- MD
        have hEk : ∀ k, k < R → sA σ'' 8 (6 + k) = zI (fE E k) ∧ sA σ'' 9 (6 + k) = zI (E k) := by
          intro k hk
          rw [gc 8 k (by omega) (by omega), gc 9 k (by omega) (by omega)]
          exact y8 k hk
        have wd := a4.1
        have wd1 := wd.1
        have wd2 := wd.2.1
        refine ⟨?_, ?_, ?_, fun k hk => ?_, fun t j ht hj => ?_, fun k hk => ?_, fun k i hk hi => ?_, hEk, fun k hk => ?_, fun k hk => ?_⟩
        · rw [ga 0 (by omega)]; exact y20
        · rw [ga 1 (by omega)]; exact y21
        · rw [ga 2 (by omega)]; exact y22
        · have hk' : k < nM d := hk
          rw [gc 3 k (by omega) (by omega)]; exact yh k hk'
        · have ht' : t < nT d := ht
          rw [gd' (6 * t + j) (by omega)]; exact ytr t j ht' hj
        · have e : (if k = 0 then 11 else 12 + k) = 9 + tI (3 + k) := by
            match k, hk with
            | 0, _ => rfl
            | 1, _ => rfl
            | 2, _ => rfl
            | 3, _ => rfl
            | 4, _ => rfl
            | 5, _ => rfl
          rw [e, ge _ (tI_b ⟨3 + k, by omega⟩)]
          exact ys (3 + k) (by omega)
        · have hk' : k < R := hk
          have hi' : i < E k := hi
          have := (hEl k hk').1
          rw [gf i (by omega)]
          exact y6.2 i (by omega)
        · have hk' : k < nM d := hk
          rw [gb k (by omega)]; exact ym k hk'
        · have hk' : k < nT d := hk
          have e : 24 + k = 16 + (8 + k) := by omega
          rw [e, gb (8 + k) (by omega)]; exact yt k hk'
      · exact g28
      · exact ⟨by omega, fun j hj => hwc, fun i hi => absurd hi (Nat.not_lt_zero _)⟩
      · refine ⟨rfl, ⟨rfl, rfl, ?_, ?_, ?_, ?_, rfl⟩, fun j hj => absurd hj (Nat.not_lt_zero _), fun i hi => absurd hi (Nat.not_lt_zero _)⟩
        · have : sI (Yf σx') 19 = (1 <<< (sI σx' 15 &&& 31)) - 1 := rfl
          show _ = zI (cFin u R 2 : Nat)
          rw [this, x15, cF_2]
          exact pw_1 hR
        · show _ = zI (cFin u R 3 : Nat)
          rw [Yf_9 _ 0 (by omega), cF_3]; exact xs 0 (by omega)
        · show _ = zI (cFin u R 4 : Nat)
          rw [Yf_9 _ 1 (by omega), cF_4]; exact xs 1 (by omega)
        · show _ = zI (cFin u R 5 : Nat)
          rw [Yf_9 _ 2 (by omega), cF_5]; exact xs 2 (by omega)
      · refine ⟨g26, ?_, mh3, ⟨fun k hk => ?_, ?_, fun i j hi => absurd hi (Nat.not_lt_zero _)⟩, fun j hj => absurd hj (Nat.not_lt_zero _)⟩
        · rw [oMI 27 (by decide)]; exact mh2
        · match k, hk with
          | 0, _ => exact gr0
          | 1, _ => exact gr1
          | 2, _ =>
            have : sA (uI (uI σm' 6 (sI σm' 4)) 7 (sI σm' 5)) 2 2 = zI R := y22
            show _ = zI (cFin u R 2 : Nat)
            rw [gr2, this, cF_2]
            exact pw_1 hR
          | 3, _ =>
            show _ = zI (cFin u R 3 : Nat)
            rw [gr3, cF_3]; exact ys 0 (by omega)
          | 4, _ =>
            show _ = zI (cFin u R 4 : Nat)
            rw [gr4, cF_4]; exact ys 1 (by omega)
          | 5, _ =>
            show _ = zI (cFin u R 5 : Nat)
            rw [gr5, cF_5]; exact ys 2 (by omega)
        · exact gr6
  · -- a fault
    have oX : oS [4, 5, 6, 7, 8, 9, 10, 11, 12, 13, 14, 15, 16] [] [2, 3, 4, 5, 6, 7, 8] [] σx σx' := oS_t (oS_w p5 (by decide) (by decide) (by decide) (by decide)) (oS_w k4 (by decide) (by decide) (by decide) (by decide))
    have oM : oS [0, 1, 2, 3, 4, 5, 8, 9, 10, 11, 12, 13] [] [2, 3, 4, 5, 6, 7, 8, 9] [0] σm σm' := oS_t (oS_w p6 (by decide) (by decide) (by decide) (by decide)) (oS_w k5.1 (by decide) (by decide) (by decide) (by decide))
    obtain ⟨u2, u3, u4, u5, u6, u8, u9, uB⟩ := uH_t p7 k5.2
    obtain ⟨f1, f2, f3, f4, f5, f6⟩ := k3
    have z0 : sI σm' 0 = 0 := by rw [k5.1.1 0 (by decide)]; exact p8
    have R0 : Rel (uI (uI (uI σx 3 (zI (0 : Nat))) 4 (zI f)) 5 (zI pl)) (uI (uI (uI σm 0 (zI (0 : Nat))) 6 (zI f)) 7 (zI pl)) := rel_flt (rel_tape (n := 0) (by omega) h (fun k hk => absurd hk (Nat.not_lt_zero _)))
    have eI : ∀ k, k ∉ [4, 5, 6, 7, 8, 9, 10, 11, 12, 13, 14, 15, 16] → sI σx' k = sI σx k := fun k hk => oX.1 k hk
    have eA : ∀ k, k ∉ [2, 3, 4, 5, 6, 7, 8] → sA σx' k = sA σx k := fun k hk => oX.2.2.1 k hk
    have ex : eX (uI (uI (uI σx 3 (zI (0 : Nat))) 4 (zI f)) 5 (zI pl)) (uI σx' 3 0) := ⟨⟨eI 0 (by decide), eI 1 (by decide), eI 2 (by decide), rfl, f3, f4, eI 17 (by decide), eI 18 (by decide), eI 19 (by decide), eI 22 (by decide), eI 23 (by decide), eI 24 (by decide), eI 53 (by decide), eI 54 (by decide), eI 55 (by decide)⟩, eA 0 (by decide), eA 1 (by decide), eA 9 (by decide), eA 10 (by decide), eA 11 (by decide), eA 12 (by decide), eA 13 (by decide), eA 21 (by decide), eA 22 (by decide), eA 23 (by decide), eA 24 (by decide), eA 25 (by decide), eA 26 (by decide), eA 27 (by decide), eA 28 (by decide), eA 29 (by decide), eA 30 (by decide)⟩
    have mI : ∀ k, k ∉ [0, 1, 2, 3, 4, 5, 8, 9, 10, 11, 12, 13] → sI σm' k = sI σm k := fun k hk => oM.1 k hk
    have mA : ∀ k, k ∉ [2, 3, 4, 5, 6, 7, 8, 9] → sA σm' k = sA σm k := fun k hk => oM.2.2.1 k hk
    have em : eM (uI (uI (uI σm 0 (zI (0 : Nat))) 6 (zI f)) 7 (zI pl)) (uI (uI σm' 6 (zI f)) 7 (zI pl)) := by
      refine ⟨⟨z0, rfl, rfl, mI 26 (by decide), mI 27 (by decide), mI 28 (by decide), mI 29 (by decide), mI 30 (by decide), oM.2.1 5 (by decide)⟩, ⟨mA 0 (by decide), mA 1 (by decide), mA 11 (by decide), mA 12 (by decide), mA 13 (by decide), mA 14 (by decide), mA 15 (by decide)⟩, u2 0, u2 1, u2 2, u3, u4, fun k => ?_, u6, u8, u9, uB, fun k => ?_⟩
      · show sA σm' 5 (if k = 0 then 11 else 12 + k) = sA σm 5 (if k = 0 then 11 else 12 + k)
        have e : (if k = 0 then 11 else 12 + k) = 9 + (if k = 0 then 2 else 3 + k) := by
          split <;> omega
        rw [e]
        exact u5 _
      · have := uB (8 + k)
        have e : 16 + (8 + k) = 24 + k := by omega
        rw [e] at this
        exact this
    have R1 := rel_no (k := 1) (by omega) (Rel_eM (Rel_eX R0 ex) em)
    refine ⟨-1, _, _, ?_, ?_, R1⟩
    · rw [k1, bd_s, lt_s', if_pos rfl, lt_s']
      rfl
    · rw [k2]
      unfold f_M_fair_153
      rw [lt_s', lt_s', f5]
      have e5 : sI (uI σm' 6 (zI f)) 5 = zI pl := f6
      rw [e5]
      have e4 : sI (uI (uI σm' 6 (zI f)) 7 (zI pl)) 4 = zI f := f5
      have e0 : (0 : Int32) = zI (0 : Nat) := rfl
      rw [e4, e0, if_neg (by rw [zI_eq (by omega) (by omega) (by omega) (by omega)]; omega), lt_s']
      rfl
