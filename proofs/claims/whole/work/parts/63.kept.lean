-- ===== a night: draws, what is kept =====
theorem zJ_bv (n : Nat) : (zJ n).toBitVec = BitVec.ofNat 64 n := by
  unfold zJ
  rw [Int64.toBitVec_ofInt]
  exact BitVec.ofInt_natCast 64 n
theorem zJ_ext {x : Int64} {n : Nat} (h : x.toBitVec.toNat = n % 18446744073709551616) : x = zJ n := by
  apply Int64.toBitVec_inj.mp
  rw [zJ_bv]
  apply BitVec.eq_of_toNat_eq
  rw [h, BitVec.toNat_ofNat]
theorem zJ_tn {n : Nat} (h : n < 18446744073709551616) : (zJ n).toBitVec.toNat = n := by
  rw [zJ_bv, BitVec.toNat_ofNat]
  exact Nat.mod_eq_of_lt h
theorem andJ_31 {n : Nat} (hn : n < 18446744073709551616) : zJ n &&& 2147483647 = zJ (n % 2147483648 : Nat) := by
  have e : (2147483647 : Int64) = zJ (2147483647 : Nat) := rfl
  apply zJ_ext
  rw [e, Int64.toBitVec_and, BitVec.toNat_and, zJ_tn hn, zJ_tn (by omega)]
  have := Nat.and_two_pow_sub_one_eq_mod n 31
  have e2 : 2 ^ 31 - 1 = 2147483647 := rfl
  have e3 : 2 ^ 31 = 2147483648 := rfl
  rw [e2, e3] at this
  rw [this]
  have : n % 2147483648 < 2147483648 := Nat.mod_lt _ (by omega)
  omega
def nx (v : Nat) : Nat := (1103515245 * v + 12345) % 2147483648
def slp (v ai : Nat) : Nat := nx v / 64 % (ai + 1)
theorem nx_b (v : Nat) : nx v < 2147483648 := Nat.mod_lt _ (by omega)
theorem slp_b (v ai : Nat) : slp v ai ≤ ai := by
  unfold slp
  have := Nat.mod_lt (nx v / 64) (show 0 < ai + 1 by omega)
  omega
theorem x_draw {v ai : Nat} {σ : St} (hv : v < 2147483648) (ha : ai ≤ 5) (h : sI σ 22 = zI v) : f_Book_draw (zI ai + 1) σ = some (zI (slp v ai), uI σ 22 (zI (nx v))) := by
  unfold f_Book_draw
  have e1 : (1103515245 : Int64) = zJ (1103515245 : Nat) := rfl
  have e2 : (12345 : Int64) = zJ (12345 : Nat) := rfl
  have hn := nx_b v
  rw [h, zJ_w (by omega) (by omega), e1, e2, zJ_mul, zJ_add, ← Int.natCast_mul, ← Int.natCast_add, andJ_31 (by omega), zJ_n]
  have en : (1103515245 * v + 12345) % 2147483648 = nx v := rfl
  rw [en, lt_s', zS]
  have e0 : (0 : Int32) = zI (0 : Nat) := rfl
  have s22 : sI (uI σ 22 (zI (nx v))) 22 = zI (nx v) := rfl
  have e64 : (64 : Int32) = zI (64 : Nat) := rfl
  rw [if_pos (by rw [e0, zI_lt (by omega) (by omega) (by omega) (by omega)]; omega), nz_z (by omega) (by omega) (by omega), gd_t, s22, e64, zdn (by omega) (by omega) (by omega), zI_rem (by omega) (by omega) (by omega) (by omega), ← Int.natCast_emod]
  rfl
theorem m_draw {v ai : Nat} {σ : St} (hv : v < 2147483648) (ha : ai ≤ 5) (h : sJ σ 5 = zJ v) : f_M_drawOf (zI ai + 1) σ = some (zI (slp v ai), uJ σ 5 (zJ (nx v))) := by
  unfold f_M_drawOf
  have e1 : (1103515245 : Int64) = zJ (1103515245 : Nat) := rfl
  have e2 : (12345 : Int64) = zJ (12345 : Nat) := rfl
  have e3 : (2147483648 : Int64) = zJ (2147483648 : Nat) := rfl
  have hn := nx_b v
  rw [h, e1, e2, e3, zJ_mul, zJ_add, ← Int.natCast_mul, ← Int.natCast_add, zJ_rem (by omega) (by omega) (by omega) (by omega), ← Int.natCast_emod]
  have en : (1103515245 * v + 12345) % 2147483648 = nx v := rfl
  rw [en, lt_s', zS, zJ_w (by omega) (by omega), nzJ_z (by omega) (by omega) (by omega), gd_t]
  have s5 : sJ (uJ σ 5 (zJ (nx v))) 5 = zJ (nx v) := rfl
  have e64 : (64 : Int64) = zJ (64 : Nat) := rfl
  rw [s5, e64, zJ_div (by omega) (by omega) (by omega) (by omega), ← Int.natCast_ediv, zJ_rem (by omega) (by omega) (by omega) (by omega), ← Int.natCast_emod, zJ_n]
  rfl
/-- what is kept of a blow -/
def rec5 (n t o l h : Nat) (j : Nat) : Nat := if j = 0 then n else if j = 1 then t else if j = 2 then o else if j = 3 then l else h
theorem x_keep {n t o l h kp T pr top nb : Nat} {σ : St} (hn : n ≤ 999) (ht : t < 8) (ho : o ≤ 5) (hl : l ≤ 1) (hh : h ≤ 99) (hkp : kp ≤ 40000) (htop : top < 20) (h17 : sI σ 17 = zI n) (h24 : sI σ 24 = zI kp) (h18 : sI σ 18 = zI T) (h92 : sA σ 9 2 = zI pr) (h23 : sI σ 23 = zI (top + 1 : Nat)) (h12 : sA σ 12 top = zI nb) : ∃ σ1, f_Book_keep (zI t) (zI o) (zI l) (zI h) σ = some σ1 ∧ oS [18, 24] [] [12, 13] [] σ σ1 ∧ sI σ1 24 = zI (kp + 1 : Nat) ∧ sI σ1 18 = zI (T + pr : Nat) ∧ sA σ1 13 = upd (sA σ 13) (kp % 700) (zI (kC (rec5 n t o l h))) ∧ sA σ1 12 = upd (sA σ 12) top (zI (nb + 1 : Nat)) := by
  have key : f_Book_keep (zI t) (zI o) (zI l) (zI h) σ = f_Book_keep_25 (zI h) (zI l) (zI ((((n * 8 + t) * 8 + o) * 2 : Nat) : Int)) σ := by
    unfold f_Book_keep
    have e8 : (8 : Int32) = zI (8 : Nat) := rfl
    have e2 : (2 : Int32) = zI (2 : Nat) := rfl
    rw [h17, e8, e2]
    simp only [zI_mul, zI_add]
    rcases (show l = 0 ∨ l = 1 by omega) with rfl | rfl
    · rw [if_pos (by decide)]
      rfl
    · rw [if_neg (by decide)]
      rfl
  rw [key]
  unfold f_Book_keep_25
  have e700 : (700 : Int32) = zI (700 : Nat) := rfl
  have e128 : (128 : Int32) = zI (128 : Nat) := rfl
  rw [h24, e700, e128, zI_rem (by omega) (by omega) (by omega) (by omega), ← Int.natCast_emod, zI_add, ← Int.natCast_add, lt_s', zI_mul, ← Int.natCast_mul, zI_add, ← Int.natCast_add]
  have hmod : kp % 700 < 700 := Nat.mod_lt _ (by omega)
  have ekC : ((((n * 8 + t) * 8 + o) * 2 + l) * 128 + h) = kC (rec5 n t o l h) := rfl
  rw [zI_in (by omega) (by omega) (by omega), zI_cl (by omega) (by omega), Int.toNat_natCast, ekC, gd_t, lt_s']
  have a24 : ∀ f, sI (uA σ 13 f) 24 = zI kp := fun f => h24
  have a18 : ∀ f v, sI (uI (uA σ 13 f) 24 v) 18 = zI T := fun f v => h18
  have a92 : ∀ f v, sA (uI (uA σ 13 f) 24 v) 9 2 = zI pr := fun f v => h92
  have a23 : ∀ f v w, sI (uI (uI (uA σ 13 f) 24 v) 18 w) 23 = zI (top + 1 : Nat) := fun f v w => h23
  have a12 : ∀ f v w, sA (uI (uI (uA σ 13 f) 24 v) 18 w) 12 = sA σ 12 := fun f v w => rfl
  rw [a24, zS, lt_s', cl2, a18, a92, zI_add, ← Int.natCast_add, lt_s', a23, zP]
  have e0 : (0 : Int32) = zI (0 : Nat) := rfl
  rw [if_neg (by rw [e0, zI_le (by omega) (by omega) (by omega) (by omega)]; omega), lt_s', zI_in (by omega) (by omega) (by omega), gd_t, gd_t, zI_cl (by omega) (by omega), Int.toNat_natCast, a12, h12, zS, lt_s']
  exact ⟨_, rfl, oS_uA (by decide) (oS_uI (by decide) (oS_uI (by decide) (oS_uA (by decide) oS_r))), rfl, rfl, rfl, rfl⟩
theorem kept_shift {t o : Int32} {σ : St} : ∀ (m k q : Nat) (f : Nat → Int32), k + m = 295 → m < q → (∀ i, i < k → f i = sA σ 12 (i + 5)) → (∀ i, k ≤ i → f i = sA σ 12 i) → ∃ f', f_M_isKept_14 q t o (zI k) (uA σ 12 f) = f_M_isKept_55 t o (uA σ 12 f') ∧ (∀ i, i < 295 → f' i = sA σ 12 (i + 5)) := by
  intro m
  induction m with
  | zero =>
    intro k q f h1 h2 h3 h4
    obtain ⟨q, rfl⟩ : ∃ r, q = r + 1 := ⟨q - 1, by omega⟩
    have e7 : (295 : Int32) = zI (295 : Nat) := rfl
    refine ⟨f, ?_, fun i hi => h3 i (by omega)⟩
    show f_M_isKept_14b (f_M_isKept_14 q) t o (zI k) (uA σ 12 f) = _
    unfold f_M_isKept_14b
    rw [e7, if_pos (by rw [zI_le (by omega) (by omega) (by omega) (by omega)]; omega)]
  | succ m ih =>
    intro k q f h1 h2 h3 h4
    obtain ⟨q, rfl⟩ : ∃ r, q = r + 1 := ⟨q - 1, by omega⟩
    have e7 : (295 : Int32) = zI (295 : Nat) := rfl
    have e5 : (zI (k : Int) + 5 : Int32) = zI ((k + 5 : Nat) : Int) := by simp only [zI_lit, zI_add]; rfl
    have st : f_M_isKept_14 (q + 1) t o (zI k) (uA σ 12 f) = f_M_isKept_14 q t o (zI (k + 1 : Nat)) (uA σ 12 (upd f k (f (k + 5)))) := by
      show f_M_isKept_14b (f_M_isKept_14 q) t o (zI k) (uA σ 12 f) = _
      unfold f_M_isKept_14b
      rw [e7, if_neg (by rw [zI_le (by omega) (by omega) (by omega) (by omega)]; omega), e5, zI_in (by omega) (by omega) (by omega), gd_t, zI_in (by omega) (by omega) (by omega), gd_t, zI_cl (by omega) (by omega), zI_cl (by omega) (by omega), Int.toNat_natCast, Int.toNat_natCast, zS, lt_s', lt_s', uA_uA, sA_eq]
    rw [st]
    refine ih (k + 1) q _ (by omega) (by omega) (fun i hi => ?_) (fun i hi => ?_)
    · rw [upd_e]
      by_cases c : i = k
      · rw [if_pos c, c]
        exact h4 (k + 5) (by omega)
      · rw [if_neg c]
        exact h3 i (by omega)
    · rw [upd_e, if_neg (by omega)]
      exact h4 i (by omega)
theorem kept_55 {n t o l h cnt : Nat} {σ : St} (hc : cnt < 60) (h6 : sA σ 11 6 = zI (cnt + 1 : Nat)) (h0 : sA σ 11 0 = zI n) (h22 : sI σ 22 = zI l) (hl : l ≤ 1) (h21 : sI σ 21 = zI h) : ∃ f, f_M_isKept_55 (zI t) (zI o) σ = some (uA σ 12 f) ∧ (∀ j, j < 5 → f (5 * cnt + j) = zI (rec5 n t o l h j)) ∧ (∀ i, i < 5 * cnt → f i = sA σ 12 i) := by
  unfold f_M_isKept_55 f_M_isKept_116
  have e1 : (5 * zI ((cnt + 1 : Nat) : Int) - 5 : Int32) = zI ((5 * cnt : Nat) : Int) := by
    simp only [zI_lit, zI_mul, zI_sub]
    congr 1
    omega
  have p : ∀ j : Nat, zI ((5 * cnt : Nat) : Int) + zI (j : Int) = zI ((5 * cnt + j : Nat) : Int) := fun j => by rw [zI_add]; rfl
  have p1 : zI ((5 * cnt : Nat) : Int) + 1 = zI ((5 * cnt + 1 : Nat) : Int) := p 1
  have p2 : zI ((5 * cnt : Nat) : Int) + 2 = zI ((5 * cnt + 2 : Nat) : Int) := p 2
  have p3 : zI ((5 * cnt : Nat) : Int) + 3 = zI ((5 * cnt + 3 : Nat) : Int) := p 3
  have p4 : zI ((5 * cnt : Nat) : Int) + 4 = zI ((5 * cnt + 4 : Nat) : Int) := p 4
  have a22 : ∀ f, sI (uA σ 12 f) 22 = zI l := fun f => h22
  have a21 : ∀ f, sI (uA σ 12 f) 21 = zI h := fun f => h21
  rw [cl6, cl0, h6, h0, e1, lt_s', p1, p2, p3, p4]
  simp only [zI_in (a := ((5 * cnt : Nat) : Int)) (n := 300) (by omega) (by omega) (by omega), zI_in (a := ((5 * cnt + 1 : Nat) : Int)) (n := 300) (by omega) (by omega) (by omega), zI_in (a := ((5 * cnt + 2 : Nat) : Int)) (n := 300) (by omega) (by omega) (by omega), zI_in (a := ((5 * cnt + 3 : Nat) : Int)) (n := 300) (by omega) (by omega) (by omega), zI_in (a := ((5 * cnt + 4 : Nat) : Int)) (n := 300) (by omega) (by omega) (by omega), gd_q, zI_cl (a := ((5 * cnt : Nat) : Int)) (by omega) (by omega), zI_cl (a := ((5 * cnt + 1 : Nat) : Int)) (by omega) (by omega), zI_cl (a := ((5 * cnt + 2 : Nat) : Int)) (by omega) (by omega), zI_cl (a := ((5 * cnt + 3 : Nat) : Int)) (by omega) (by omega), zI_cl (a := ((5 * cnt + 4 : Nat) : Int)) (by omega) (by omega), Int.toNat_natCast, lt_q, uA_uA, sA_eq, a22, a21]
  have fin : ∀ v : Int32, v = zI l → ∃ f, some (uA σ 12 (upd (upd (upd (upd (upd (sA σ 12) (5 * cnt) (zI n)) (5 * cnt + 1) (zI t)) (5 * cnt + 2) (zI o)) (5 * cnt + 3) v) (5 * cnt + 4) (zI h))) = some (uA σ 12 f) ∧ (∀ j, j < 5 → f (5 * cnt + j) = zI (rec5 n t o l h j)) ∧ (∀ i, i < 5 * cnt → f i = sA σ 12 i) := by
    intro v hv
    refine ⟨_, rfl, fun j hj => ?_, fun i hi => ?_⟩
    · simp only [upd_e]
      match j, hj with
      | 0, _ => rw [if_neg (by omega), if_neg (by omega), if_neg (by omega), if_neg (by omega), if_pos (by omega)]; rfl
      | 1, _ => rw [if_neg (by omega), if_neg (by omega), if_neg (by omega), if_pos (by omega)]; rfl
      | 2, _ => rw [if_neg (by omega), if_neg (by omega), if_pos (by omega)]; rfl
      | 3, _ => rw [if_neg (by omega), if_pos (by omega), hv]; rfl
      | 4, _ => rw [if_pos (by omega)]; rfl
    · simp only [upd_e]
      rw [if_neg (by omega), if_neg (by omega), if_neg (by omega), if_neg (by omega), if_neg (by omega)]
  rcases (show l = 0 ∨ l = 1 by omega) with rfl | rfl
  · rw [if_pos (by decide)]
    exact fin 0 rfl
  · rw [if_neg (by decide)]
    exact fin 1 rfl
/-- what is kept, with one more -/
def kqS (kq : Nat → Nat → Nat) (kp : Nat) (r : Nat → Nat) (i : Nat) : Nat → Nat := if i = kp then r else kq i
theorem m_isKept {n t o l h kp : Nat} {kq : Nat → Nat → Nat} {σ : St} (h6 : sA σ 11 6 = zI (min 60 kp : Nat)) (h0 : sA σ 11 0 = zI n) (h22 : sI σ 22 = zI l) (hl : l ≤ 1) (h21 : sI σ 21 = zI h) (hb : ∀ i j, i < min 60 kp → j < 5 → sA σ 12 (5 * i + j) = zI (kq (kp - min 60 kp + i) j)) : ∃ σ1, f_M_isKept (zI t) (zI o) σ = some σ1 ∧ oS [] [] [11, 12] [] σ σ1 ∧ (∀ i, i ≠ 6 → sA σ1 11 i = sA σ 11 i) ∧ sA σ1 11 6 = zI (min 60 (kp + 1) : Nat) ∧ (∀ i j, i < min 60 (kp + 1) → j < 5 → sA σ1 12 (5 * i + j) = zI (kqS kq kp (rec5 n t o l h) (kp + 1 - min 60 (kp + 1) + i) j)) := by
  unfold f_M_isKept
  rw [cl6, h6]
  have e60 : (60 : Int32) = zI (60 : Nat) := rfl
  by_cases c : 60 ≤ kp
  · have e1 : min 60 kp = 60 := Nat.min_eq_left c
    have e2 : min 60 (kp + 1) = 60 := Nat.min_eq_left (by omega)
    rw [e1, if_pos e60.symm]
    rw [e1] at h6 hb
    obtain ⟨f', g1, g2⟩ := kept_shift (σ := σ) (t := zI t) (o := zI o) 295 0 FU (sA σ 12) (by omega) (FU_gt (by omega)) (fun i hi => by omega) (fun i hi => rfl)
    rw [uA_same] at g1
    have g1' : f_M_isKept_14 FU (zI t) (zI o) 0 σ = _ := g1
    obtain ⟨f, q1, q2, q3⟩ := kept_55 (σ := uA σ 12 f') (n := n) (t := t) (o := o) (l := l) (h := h) (cnt := 59) (by omega) h6 h0 h22 hl h21
    rw [g1', q1, uA_uA, e2]
    refine ⟨_, rfl, oS_uA (by decide) oS_r, fun i hi => rfl, h6, fun i j hi hj => ?_⟩
    show f (5 * i + j) = _
    unfold kqS
    by_cases ci : i = 59
    · subst ci
      rw [q2 j hj, if_pos (by omega)]
    · rw [q3 _ (by omega), if_neg (by omega)]
      show f' (5 * i + j) = _
      rw [g2 _ (by omega)]
      have := hb (i + 1) j (by omega) hj
      have ei : 5 * i + j + 5 = 5 * (i + 1) + j := by omega
      have ek : kp - 60 + (i + 1) = kp + 1 - 60 + i := by omega
      rw [ei, this, ek]
  · have e1 : min 60 kp = kp := Nat.min_eq_right (by omega)
    have e2 : min 60 (kp + 1) = kp + 1 := Nat.min_eq_right (by omega)
    rw [e1] at h6 hb ⊢
    rw [e2]
    have h6' : sA (uA σ 11 (upd (sA σ 11) 6 (zI (kp + 1 : Nat)))) 11 6 = zI (kp + 1 : Nat) := by
      rw [sA_eq, upd_e, if_pos rfl]
    have h0' : sA (uA σ 11 (upd (sA σ 11) 6 (zI (kp + 1 : Nat)))) 11 0 = zI n := by
      rw [sA_eq, upd_e, if_neg (by omega), h0]
    obtain ⟨f, q1, q2, q3⟩ := kept_55 (σ := uA σ 11 (upd (sA σ 11) 6 (zI (kp + 1 : Nat)))) (n := n) (t := t) (o := o) (l := l) (h := h) (cnt := kp) (by omega) h6' h0' h22 hl h21
    rw [if_neg (by rw [e60, zI_eq (by omega) (by omega) (by omega) (by omega)]; omega), zS, lt_s', q1]
    refine ⟨_, rfl, oS_uA (by decide) (oS_uA (by decide) oS_r), fun i hi => ?_, h6', fun i j hi hj => ?_⟩
    · show upd (sA σ 11) 6 _ i = _
      rw [upd_e, if_neg hi]
    · show f (5 * i + j) = _
      unfold kqS
      by_cases ci : i = kp
      · subst ci
        rw [q2 j hj, if_pos (by omega)]
      · rw [q3 _ (by omega), if_neg (by omega)]
        have := hb i j (by omega) hj
        have ek : kp - kp + i = kp + 1 - (kp + 1) + i := by omega
        rw [← ek]
        exact this
