-- ===== images =====
def ck (o : Nat → Nat) : Nat → Nat → Nat → Nat
  | 0, _, v => v
  | j + 1, k, v => ck o j (k + 1) ((3 * v + o k) % 253)
theorem ck_b (o : Nat → Nat) : ∀ j k v, v < 253 → ck o j k v < 253 := by
  intro j
  induction j with
  | zero => intro k v h; exact h
  | succ j ih => intro k v h; exact ih (k + 1) _ (Nat.mod_lt _ (by omega))
theorem ck_c {o o' : Nat → Nat} : ∀ j k v, (∀ i, k ≤ i → i < k + j → o i = o' i) → ck o j k v = ck o' j k v := by
  intro j
  induction j with
  | zero => intro k v h; rfl
  | succ j ih =>
    intro k v h
    unfold ck
    rw [h k (by omega) (by omega)]
    exact ih (k + 1) _ (fun i h1 h2 => h i (by omega) (by omega))
theorem x_ck {σ : St} {o : Nat → Nat} (h : ∀ k, k < 9 → sA σ 29 k = zI (o k)) (ho : ∀ k, k < 9 → o k ≤ 1000) :
    ∀ (j k v q : Nat), k + j = 9 → j < q → v < 253 → f_Book_checkOf_6 q (zI v) (zI k) σ = some (zI (ck o j k v)) := by
  intro j
  induction j with
  | zero =>
    intro k v q h1 h2 h3
    obtain ⟨q, rfl⟩ : ∃ r, q = r + 1 := ⟨q - 1, by omega⟩
    unfold f_Book_checkOf_6 f_Book_checkOf_6b
    have e9 : (9 : Int32) = zI (9 : Nat) := rfl
    rw [e9, if_pos (by rw [zI_le (by omega) (by omega) (by omega) (by omega)]; omega)]
    rfl
  | succ j ih =>
    intro k v q h1 h2 h3
    obtain ⟨q, rfl⟩ : ∃ r, q = r + 1 := ⟨q - 1, by omega⟩
    unfold f_Book_checkOf_6 f_Book_checkOf_6b
    have e9 : (9 : Int32) = zI (9 : Nat) := rfl
    have eg : (10 : Int32) = zI (10 : Nat) := rfl
    have e253 : (253 : Int32) = zI (253 : Nat) := rfl
    have e3 : (3 : Int32) = zI (3 : Nat) := rfl
    have hk := ho k (by omega)
    rw [e9, if_neg (by rw [zI_le (by omega) (by omega) (by omega) (by omega)]; omega), eg, if_neg (by rw [zI_le (by omega) (by omega) (by omega) (by omega)]; omega), zI_in (by omega) (by omega) (by omega), gd_t, zI_cl (by omega) (by omega), Int.toNat_natCast, h k (by omega), e3, e253, zI_mul, zI_add, ← Int.natCast_mul, ← Int.natCast_add, zI_rem (by omega) (by omega) (by omega) (by omega), ← Int.natCast_emod, zS, lt_s', lt_s', ih (k + 1) _ q (by omega) (by omega) (Nat.mod_lt _ (by omega))]
    rfl
theorem x_ck2 {σ : St} {o : Nat → Nat} (h : ∀ k, k < 9 → sA σ 0 k = zI (o k)) (ho : ∀ k, k < 9 → o k ≤ 1000) :
    ∀ (j k v q : Nat), k + j = 9 → j < q → v < 253 → f_Book_checkOf_2_6 q (zI v) (zI k) σ = some (zI (ck o j k v)) := by
  intro j
  induction j with
  | zero =>
    intro k v q h1 h2 h3
    obtain ⟨q, rfl⟩ : ∃ r, q = r + 1 := ⟨q - 1, by omega⟩
    unfold f_Book_checkOf_2_6 f_Book_checkOf_2_6b
    have e9 : (9 : Int32) = zI (9 : Nat) := rfl
    rw [e9, if_pos (by rw [zI_le (by omega) (by omega) (by omega) (by omega)]; omega)]
    rfl
  | succ j ih =>
    intro k v q h1 h2 h3
    obtain ⟨q, rfl⟩ : ∃ r, q = r + 1 := ⟨q - 1, by omega⟩
    unfold f_Book_checkOf_2_6 f_Book_checkOf_2_6b
    have e9 : (9 : Int32) = zI (9 : Nat) := rfl
    have eg : (1600 : Int32) = zI (1600 : Nat) := rfl
    have e253 : (253 : Int32) = zI (253 : Nat) := rfl
    have e3 : (3 : Int32) = zI (3 : Nat) := rfl
    have hk := ho k (by omega)
    rw [e9, if_neg (by rw [zI_le (by omega) (by omega) (by omega) (by omega)]; omega), eg, if_neg (by rw [zI_le (by omega) (by omega) (by omega) (by omega)]; omega), zI_in (by omega) (by omega) (by omega), gd_t, zI_cl (by omega) (by omega), Int.toNat_natCast, h k (by omega), e3, e253, zI_mul, zI_add, ← Int.natCast_mul, ← Int.natCast_add, zI_rem (by omega) (by omega) (by omega) (by omega), ← Int.natCast_emod, zS, lt_s', lt_s', ih (k + 1) _ q (by omega) (by omega) (Nat.mod_lt _ (by omega))]
    rfl
theorem m_ck {σ : St} {o : Nat → Nat} (h : ∀ k, k < 9 → sA σ 15 k = zI (o k)) (ho : ∀ k, k < 9 → o k ≤ 1000) :
    ∀ (j k v q : Nat), k + j = 9 → j < q → v < 253 → f_M_checked_6 q (zI (9 : Nat)) (zI v) (zI k) σ = some (zI (ck o j k v)) := by
  intro j
  induction j with
  | zero =>
    intro k v q h1 h2 h3
    obtain ⟨q, rfl⟩ : ∃ r, q = r + 1 := ⟨q - 1, by omega⟩
    unfold f_M_checked_6 f_M_checked_6b
    have e9 : (9 : Int32) = zI (9 : Nat) := rfl
    rw [if_pos (by rw [zI_le (by omega) (by omega) (by omega) (by omega)]; omega)]
    rfl
  | succ j ih =>
    intro k v q h1 h2 h3
    obtain ⟨q, rfl⟩ : ∃ r, q = r + 1 := ⟨q - 1, by omega⟩
    unfold f_M_checked_6 f_M_checked_6b
    have e9 : (9 : Int32) = zI (9 : Nat) := rfl
    have eg : (10 : Int32) = zI (10 : Nat) := rfl
    have e253 : (253 : Int32) = zI (253 : Nat) := rfl
    have e3 : (3 : Int32) = zI (3 : Nat) := rfl
    have hk := ho k (by omega)
    rw [if_neg (by rw [zI_le (by omega) (by omega) (by omega) (by omega)]; omega), zI_in (by omega) (by omega) (by omega), gd_t, zI_cl (by omega) (by omega), Int.toNat_natCast, h k (by omega), e3, e253, zI_mul, zI_add, ← Int.natCast_mul, ← Int.natCast_add, zI_rem (by omega) (by omega) (by omega) (by omega), ← Int.natCast_emod, zS, lt_s', lt_s', ih (k + 1) _ q (by omega) (by omega) (Nat.mod_lt _ (by omega))]
    rfl
theorem m_ck2 {σ : St} {o : Nat → Nat} (h : ∀ k, k < 9 → sA σ 0 k = zI (o k)) (ho : ∀ k, k < 9 → o k ≤ 1000) :
    ∀ (j k v q : Nat), k + j = 9 → j < q → v < 253 → f_M_checked_2_6 q (zI (9 : Nat)) (zI v) (zI k) σ = some (zI (ck o j k v)) := by
  intro j
  induction j with
  | zero =>
    intro k v q h1 h2 h3
    obtain ⟨q, rfl⟩ : ∃ r, q = r + 1 := ⟨q - 1, by omega⟩
    unfold f_M_checked_2_6 f_M_checked_2_6b
    have e9 : (9 : Int32) = zI (9 : Nat) := rfl
    rw [if_pos (by rw [zI_le (by omega) (by omega) (by omega) (by omega)]; omega)]
    rfl
  | succ j ih =>
    intro k v q h1 h2 h3
    obtain ⟨q, rfl⟩ : ∃ r, q = r + 1 := ⟨q - 1, by omega⟩
    unfold f_M_checked_2_6 f_M_checked_2_6b
    have e9 : (9 : Int32) = zI (9 : Nat) := rfl
    have eg : (1600 : Int32) = zI (1600 : Nat) := rfl
    have e253 : (253 : Int32) = zI (253 : Nat) := rfl
    have e3 : (3 : Int32) = zI (3 : Nat) := rfl
    have hk := ho k (by omega)
    rw [if_neg (by rw [zI_le (by omega) (by omega) (by omega) (by omega)]; omega), zI_in (by omega) (by omega) (by omega), gd_t, zI_cl (by omega) (by omega), Int.toNat_natCast, h k (by omega), e3, e253, zI_mul, zI_add, ← Int.natCast_mul, ← Int.natCast_add, zI_rem (by omega) (by omega) (by omega) (by omega), ← Int.natCast_emod, zS, lt_s', lt_s', ih (k + 1) _ q (by omega) (by omega) (Nat.mod_lt _ (by omega))]
    rfl
/-- the octets of a core -/
def oc (c : Nat → Nat) (k : Nat) : Nat := if k = 0 then c 0 / 256 else if k = 1 then c 0 % 256 else if k = 2 then c 1 / 65536 else if k = 3 then c 1 / 256 % 256 else if k = 4 then c 1 % 256 else c (k - 3)
theorem oc_b {d : FD} {c : Nat → Nat} (hw : wfD d) (hc : wfC d c) : ∀ k, k < 9 → oc c k ≤ 1000 := by
  obtain ⟨h0, h1, h2, h3, h4, h5, h6, h7, h8⟩ := hc
  have : 2 ^ nR d ≤ 2 ^ 6 := Nat.pow_le_pow_right (by omega) hw.2.2.1
  intro k hk
  match k, hk with
  | 0, _ => show c 0 / 256 ≤ 1000; omega
  | 1, _ => show c 0 % 256 ≤ 1000; omega
  | 2, _ => show c 1 / 65536 ≤ 1000; omega
  | 3, _ => show c 1 / 256 % 256 ≤ 1000; omega
  | 4, _ => show c 1 % 256 ≤ 1000; omega
  | 5, _ => show c 2 ≤ 1000; omega
  | 6, _ => show c 3 ≤ 1000; omega
  | 7, _ => show c 4 ≤ 1000; omega
  | 8, _ => show c 5 ≤ 1000; omega
theorem sA_eq (σ : St) (k : Nat) (f : Nat → Int32) : sA (uA σ k f) k = f := by
  rw [sA_uA, if_pos rfl]
theorem x_write {d : FD} {c : Nat → Nat} {σ : St} (hw : wfD d) (hc : wfC d c) (h : xC7 c σ) : ∃ g, f_Book_write σ = some (uA σ 29 g) ∧ (∀ k, k < 9 → g k = zI (oc c k)) ∧ g 9 = zI (ck (oc c) 9 0 139) := by
  have hb := oc_b hw hc
  obtain ⟨x17, x18, x19, x90, x91, x92, x24⟩ := h
  obtain ⟨h0, h1, h2, h3, h4, h5, h6, h7, h8⟩ := hc
  unfold f_Book_write f_Book_checkOf
  rw [if_pos (by decide)]
  simp only [lt_q, uA_uA, sI_uA, sA_eq, cl0, cl1, cl2, cl3, cl4, cl5, cl6, cl9, x17, x18, x19]
  have e9 : ∀ f, sA (uA σ 29 f) 9 = sA σ 9 := fun f => rfl
  simp only [e9]
  have s8 : zI (c 0) >>> ((8 : Int32) &&& 31) = zI (c 0 / 256 : Nat) := shr_z (k := 8) (by omega) (by omega)
  have s16 : zI (c 1) >>> ((16 : Int32) &&& 31) = zI (c 1 / 65536 : Nat) := shr_z (k := 16) (by omega) (by omega)
  have t8 : (zI (c 1) >>> ((8 : Int32) &&& 31)) &&& 255 = zI (c 1 / 256 % 256 : Nat) := by
    have e : zI (c 1) >>> ((8 : Int32) &&& 31) = zI (c 1 / 256 : Nat) := shr_z (k := 8) (by omega) (by omega)
    rw [e]
    exact and_255 _ (by omega)
  rw [s8, s16, t8, and_255 (c 0) (by omega), and_255 (c 1) (by omega)]
  have c3 : (3 : Int32).toNatClampNeg = 3 := rfl
  generalize hg : va_cpy (sA σ 9) _ 0 6 3 = g
  have hgk : ∀ k, k < 9 → g k = zI (oc c k) := by
    intro k hk
    rw [← hg]
    match k, hk with
    | 0, _ => rfl
    | 1, _ => rfl
    | 2, _ => rfl
    | 3, _ => rfl
    | 4, _ => rfl
    | 5, _ => rfl
    | 6, _ => exact x90
    | 7, _ => exact x91
    | 8, _ => exact x92
  have hgk' : ∀ k, k < 9 → sA (uA σ 29 g) 29 k = zI (oc c k) := by
    intro k hk
    rw [sA_eq]
    exact hgk k hk
  have K : f_Book_checkOf_6 FU 139 0 (uA σ 29 g) = _ := x_ck hgk' hb 9 0 139 FU (by omega) (FU_gt (by omega)) (by omega)
  rw [K, bp_s]
  refine ⟨_, rfl, fun k hk => ?_, ?_⟩
  · rw [upd_e, if_neg (by omega)]
    exact hgk k hk
  · rw [upd_e, if_pos rfl]
theorem m_img {d : FD} {c : Nat → Nat} {σ : St} (hw : wfD d) (hc : wfC d c) (h : ∀ k, k < 6 → sA σ 11 k = zI (c k)) : ∃ g, f_M_image σ = some (10, uI (uA σ 15 g) 30 10) ∧ (∀ k, k < 9 → g k = zI (oc c k)) ∧ g 9 = zI (ck (oc c) 9 0 139) := by
  have hb := oc_b hw hc
  obtain ⟨h0, h1, h2, h3, h4, h5, h6, h7, h8⟩ := hc
  have r0 := h 0 (by omega)
  have r1 := h 1 (by omega)
  have r2 := h 2 (by omega)
  have r3 := h 3 (by omega)
  have r4 := h 4 (by omega)
  have r5 := h 5 (by omega)
  unfold f_M_image
  have e11 : ∀ f, sA (uA σ 15 f) 11 = sA σ 11 := fun f => rfl
  simp only [lt_q, uA_uA, sA_eq, cl0, cl1, cl2, cl3, cl4, e11, r0, r1]
  have e256 : (256 : Int32) = zI (256 : Nat) := rfl
  have e65 : (65536 : Int32) = zI (65536 : Nat) := rfl
  have w1 : iR (zI (c 0)) (zI (256 : Nat)) = zI (c 0 % 256 : Nat) := by rw [zI_rem (by omega) (by omega) (by omega) (by omega), ← Int.natCast_emod]
  have w2 : iR (zI (c 1)) (zI (256 : Nat)) = zI (c 1 % 256 : Nat) := by rw [zI_rem (by omega) (by omega) (by omega) (by omega), ← Int.natCast_emod]
  have w3 : iR (zI (c 1 / 256 : Nat)) (zI (256 : Nat)) = zI (c 1 / 256 % 256 : Nat) := by rw [zI_rem (by omega) (by omega) (by omega) (by omega), ← Int.natCast_emod]
  rw [e256, e65, zdn (by omega) (by omega) (by omega), zdn (by omega) (by omega) (by omega), zdn (by omega) (by omega) (by omega), w1, w2, w3]
  generalize hg : upd _ 4 (zI ((c 1 % 256 : Nat) : Int)) = g
  have eFU : FU = 99995 + 1 + 1 + 1 + 1 + 1 := rfl
  have step : ∀ (n k : Nat) (f : Nat → Int32), k < 4 → f_M_image_86 (n + 1) (zI k) (uA σ 15 f) = f_M_image_86 n (zI (k + 1 : Nat)) (uA σ 15 (upd f (5 + k) (sA σ 11 (2 + k)))) := by
    intro n k f hk
    show f_M_image_86b (f_M_image_86 n) (zI k) (uA σ 15 f) = _
    unfold f_M_image_86b
    have e4 : (4 : Int32) = zI (4 : Nat) := rfl
    have e2 : (2 + zI (k : Int) : Int32) = zI ((2 + k : Nat) : Int) := by simp only [zI_lit, zI_add]; rfl
    have e5 : (5 + zI (k : Int) : Int32) = zI ((5 + k : Nat) : Int) := by simp only [zI_lit, zI_add]; rfl
    rw [e4, if_neg (by rw [zI_le (by omega) (by omega) (by omega) (by omega)]; omega), e2, e5, zI_in (by omega) (by omega) (by omega), gd_t, zI_in (by omega) (by omega) (by omega), gd_t, zI_cl (by omega) (by omega), zI_cl (by omega) (by omega), Int.toNat_natCast, Int.toNat_natCast, zS, lt_s', lt_s', uA_uA, sA_eq, e11]
  have e00 : (0 : Int32) = zI (0 : Nat) := rfl
  rw [eFU, e00, step _ 0 _ (by omega), step _ 1 _ (by omega), step _ 2 _ (by omega), step _ 3 _ (by omega)]
  simp only [Nat.reduceAdd, r2, r3, r4, r5]
  generalize hg2 : upd (upd (upd (upd g 5 _) 6 _) 7 _) 8 _ = g2
  have hgk : ∀ k, k < 9 → g2 k = zI (oc c k) := by
    intro k hk
    rw [← hg2, ← hg]
    match k, hk with
    | 0, _ => rfl
    | 1, _ => rfl
    | 2, _ => rfl
    | 3, _ => rfl
    | 4, _ => rfl
    | 5, _ => rfl
    | 6, _ => rfl
    | 7, _ => rfl
    | 8, _ => rfl
  have hgk' : ∀ k, k < 9 → sA (uA σ 15 g2) 15 k = zI (oc c k) := by
    intro k hk
    rw [sA_eq]
    exact hgk k hk
  have K : f_M_checked 9 (uA σ 15 g2) = _ := m_ck hgk' hb 9 0 139 FU (by omega) (FU_gt (by omega)) (by omega)
  show ∃ g_1, f_M_image_86b (f_M_image_86 99995) (zI (4 : Nat)) (uA σ 15 g2) = _ ∧ _
  unfold f_M_image_86b
  rw [if_pos (by decide), K, bp_s, lt_s', lt_s', uA_uA, sA_eq, cl9]
  refine ⟨_, rfl, fun k hk => ?_, ?_⟩
  · rw [upd_e, if_neg (by omega)]
    exact hgk k hk
  · rw [upd_e, if_pos rfl]
theorem sim_image : Sim_image Rel := by
  intro σx σm h
  obtain ⟨⟨hT, hF, hR, hI, hG, hO⟩, d, hw, hx, hm, hS, a, w, hs, ks, hh, hX, hM⟩ := h
  have hc := hh.2.1 a (Nat.le_refl a)
  obtain ⟨g, g1, g2, g3⟩ := x_write hw hc hX.2.1
  obtain ⟨f, f1, f2, f3⟩ := m_img hw hc hM.2.2.2.1.1
  unfold f_BH_image
  rw [g1, bp_s, f1, lt_s']
  refine ⟨_, _, _, rfl, rfl, ⟨hT, hF, hR, ⟨rfl, .inr rfl, fun k hk => ?_⟩, hG, hO⟩, d, hw, hx, hm, hS, a, w, hs, ks, hh, hX, hM⟩
  show g k = f k
  by_cases c : k = 9
  · rw [c, g3, f3]
  · rw [g2 k (by omega), f2 k (by omega)]
