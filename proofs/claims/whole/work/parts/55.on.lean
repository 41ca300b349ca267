-- ===== on =====
def bN (b : Nat → Nat) : Nat := 256 * b 0 + b 1
def bK (b : Nat → Nat) : Nat := 65536 * b 2 + 256 * b 3 + b 4
def gOn (r : Nat) (b : Nat → Nat) : Prop := b 9 = ck b 9 0 139 ∧ bN b ≤ 999 ∧ bK b ≤ 288 * bN b ∧ b 5 < 2 ^ r ∧ (1 ≤ b 6 ∧ b 6 ≤ 99) ∧ b 7 ≤ 90 ∧ (1 ≤ b 8 ∧ b 8 ≤ 9)
section
variable {σ : St} {b : Nat → Nat} {r : Nat}
theorem x_tail (h : ∀ k, k < 10 → sA σ 0 k = zI (b k)) (hb : ∀ k, k < 10 → b k < 256) (A B : Int32) :
    ((1 ≤ b 6 ∧ b 6 ≤ 99) ∧ b 7 ≤ 90 ∧ (1 ≤ b 8 ∧ b 8 ≤ 9) ∧ f_Book_takeOver_80 FU A B 0 σ = some (1, uI (uI (uA (uI (uI (uI σ 17 A) 18 B) 19 (sA σ 0 5)) 9 (va_cpy (sA σ 0) (sA σ 9) 6 0 3)) 23 0) 24 0)) ∨ (¬ ((1 ≤ b 6 ∧ b 6 ≤ 99) ∧ b 7 ≤ 90 ∧ (1 ≤ b 8 ∧ b 8 ≤ 9)) ∧ f_Book_takeOver_80 FU A B 0 σ = some (0, σ)) := by
  have b6 := hb 6 (by omega)
  have b7 := hb 7 (by omega)
  have b8 := hb 8 (by omega)
  have step : ∀ (n k lo hi : Nat), k < 3 → stV 3 (zI k) = zI lo → stV 4 (zI k) = zI hi → lo ≤ 100 → hi ≤ 100 → f_Book_takeOver_80 (n + 1) A B (zI k) σ = if lo ≤ b (6 + k) ∧ b (6 + k) ≤ hi then f_Book_takeOver_80 n A B (zI (k + 1 : Nat)) σ else some (0, σ) := by
    intro n k lo hi hk s3 s4 l1 l2
    show f_Book_takeOver_80b (f_Book_takeOver_80 n) A B (zI k) σ = _
    unfold f_Book_takeOver_80b
    have e3 : (3 : Int32) = zI (3 : Nat) := rfl
    have e6 : (6 + zI (k : Int) : Int32) = zI ((6 + k : Nat) : Int) := by simp only [zI_lit, zI_add]; rfl
    have bb := hb (6 + k) (by omega)
    rw [e3, if_neg (by rw [zI_le (by omega) (by omega) (by omega) (by omega)]; omega), e6, s3, s4, zI_in (by omega) (by omega) (by omega), gd_t, zI_in (by omega) (by omega) (by omega), gd_t, zI_cl (by omega) (by omega), Int.toNat_natCast, h (6 + k) (by omega), gd_t, gd_t, zS, lt_s']
    by_cases c1 : lo ≤ b (6 + k)
    · rw [if_neg (by rw [zI_lt (by omega) (by omega) (by omega) (by omega)]; omega)]
      by_cases c2 : b (6 + k) ≤ hi
      · rw [if_pos (by rw [zI_le (by omega) (by omega) (by omega) (by omega)]; omega), if_pos ⟨c1, c2⟩]
      · rw [if_neg (by rw [zI_le (by omega) (by omega) (by omega) (by omega)]; omega), if_neg (by omega)]
    · rw [if_pos (by rw [zI_lt (by omega) (by omega) (by omega) (by omega)]; omega), if_neg (by omega)]
  have eFU : FU = 99996 + 1 + 1 + 1 + 1 := rfl
  have e00 : (0 : Int32) = zI (0 : Nat) := rfl
  have S0 := step (99996 + 1 + 1 + 1) 0 1 99 (by omega) rfl rfl (by omega) (by omega)
  have S1 := step (99996 + 1 + 1) 1 0 90 (by omega) rfl rfl (by omega) (by omega)
  have S2 := step (99996 + 1) 2 1 9 (by omega) rfl rfl (by omega) (by omega)
  simp only [Nat.reduceAdd] at S0 S1 S2
  have eF2 : FU = 99999 + 1 := rfl
  have S0' : f_Book_takeOver_80 FU A B 0 σ = if 1 ≤ b 6 ∧ b 6 ≤ 99 then f_Book_takeOver_80 99999 A B (zI (1 : Nat)) σ else some (0, σ) := S0
  rw [S0']
  by_cases c1 : 1 ≤ b 6 ∧ b 6 ≤ 99
  · rw [if_pos c1, S1]
    by_cases c2 : b 7 ≤ 90
    · rw [if_pos ⟨Nat.zero_le _, c2⟩, S2]
      by_cases c3 : 1 ≤ b 8 ∧ b 8 ≤ 9
      · rw [if_pos c3]
        refine .inl ⟨c1, c2, c3, ?_⟩
        show f_Book_takeOver_80b (f_Book_takeOver_80 99996) A B (zI (3 : Nat)) σ = _
        unfold f_Book_takeOver_80b
        rw [if_pos (by decide), lt_s', lt_s', lt_s', lt_s', lt_s', lt_s']
        rfl
      · rw [if_neg c3]
        exact .inr ⟨fun q => c3 q.2.2, rfl⟩
    · rw [if_neg (fun q => c2 q.2)]
      exact .inr ⟨fun q => c2 q.2.1, rfl⟩
  · rw [if_neg c1]
    exact .inr ⟨fun q => c1 q.1, rfl⟩
theorem x_on (h : ∀ k, k < 10 → sA σ 0 k = zI (b k)) (hb : ∀ k, k < 10 → b k < 256) (hr : r ≤ 6) :
    (gOn r b ∧ f_Book_takeOver (zI r) σ = some (1, uI (uI (uA (uI (uI (uI σ 17 (zI (bN b))) 18 (zI (bK b))) 19 (zI (b 5))) 9 (va_cpy (sA σ 0) (sA σ 9) 6 0 3)) 23 0) 24 0)) ∨ (¬ gOn r b ∧ f_Book_takeOver (zI r) σ = some (0, σ)) := by
  have h0 := hb 0 (by omega)
  have h1 := hb 1 (by omega)
  have h2 := hb 2 (by omega)
  have h3 := hb 3 (by omega)
  have h4 := hb 4 (by omega)
  have h5 := hb 5 (by omega)
  have h9 := hb 9 (by omega)
  have K : f_Book_checkOf_2 σ = _ := x_ck2 (fun k hk => h k (by omega)) (fun k hk => by have := hb k (by omega); omega) 9 0 139 FU (by omega) (FU_gt (by omega)) (by omega)
  have hck := ck_b b 9 0 139 (by omega)
  unfold f_Book_takeOver
  rw [if_neg (by decide), K, bp_s, cl9, cl0, cl1, cl2, cl3, cl4, cl5, h 9 (by omega), h 0 (by omega), h 1 (by omega), h 2 (by omega), h 3 (by omega), h 4 (by omega), h 5 (by omega)]
  have n1 : (zI (b 0) <<< ((8 : Int32) &&& 31)) ||| zI (b 1) = zI (bN b) := by
    have q := shl_or (a := b 0) (b := b 1) (k := 8) (by omega) h0 (by omega)
    have e8 : (8 : Int32) = zI (8 : Nat) := rfl
    rw [e8, q]
    have e : b 0 * 2 ^ 8 + b 1 = bN b := by unfold bN; omega
    rw [e]
  have n2 : ((zI (b 2) <<< ((16 : Int32) &&& 31)) ||| (zI (b 3) <<< ((8 : Int32) &&& 31))) ||| zI (b 4) = zI (bK b) := by
    have q8 := shl_z (k := 8) (n := b 3) (by omega) (by omega) (by omega)
    have q16 := shl_or (a := b 2) (b := b 3 * 2 ^ 8) (k := 16) (by omega) h2 (by omega)
    have e8 : (8 : Int32) = zI (8 : Nat) := rfl
    have e16 : (16 : Int32) = zI (16 : Nat) := rfl
    simp only [Nat.reducePow] at q8 q16
    rw [e8, e16, q8, q16, or_nat (by omega) (by omega)]
    have := Nat.shiftLeft_add_eq_or_of_lt (i := 8) (b := b 4) (by omega) (b 2 * 256 + b 3)
    rw [Nat.shiftLeft_eq] at this
    simp only [Nat.reducePow] at this
    have e : b 2 * 65536 + b 3 * 256 = (b 2 * 256 + b 3) * 256 := by
      rw [Nat.add_mul, Nat.mul_assoc]
    have e' : (b 2 * 256 + b 3) * 256 + b 4 = bK b := by
      unfold bK
      rw [← e, Nat.mul_comm (b 2), Nat.mul_comm (b 3)]
    rw [e, ← this, e']
  have hN : bN b < 70000 := by unfold bN; omega
  have hK : bK b < 20000000 := by unfold bK; omega
  have n3 : zI (b 5) >>> (zI r &&& 31) = zI (b 5 / 2 ^ r : Nat) := shr_z (by omega) (by omega)
  have e999 : (999 : Int32) = zI (999 : Nat) := rfl
  have e288 : (288 : Int32) = zI (288 : Nat) := rfl
  have e00 : (0 : Int32) = zI (0 : Nat) := rfl
  have hd : b 5 / 2 ^ r ≤ b 5 := Nat.div_le_self _ _
  have hdz : b 5 / 2 ^ r = 0 ↔ b 5 < 2 ^ r := by
    rw [Nat.div_eq_zero_iff]
    have : 2 ^ r ≠ 0 := Nat.ne_of_gt (Nat.pow_pos (by omega))
    omega
  have f1 : (zI (b 9) = zI (ck b 9 0 139)) ↔ b 9 = ck b 9 0 139 := by
    rw [zI_eq (by omega) (by omega) (by omega) (by omega)]
    omega
  have f2 : ((999 : Int32) < zI (bN b)) ↔ 999 < bN b := by
    rw [e999, zI_lt (by omega) (by omega) (by omega) (by omega)]
    omega
  have f3 : (zI (bN b) * 288 < zI (bK b)) ↔ 288 * bN b < bK b := by
    rw [e288, zI_mul, ← Int.natCast_mul, zI_lt (by omega) (by omega) (by omega) (by omega)]
    omega
  have f4 : (zI (b 5 / 2 ^ r : Nat) = (0 : Int32)) ↔ b 5 < 2 ^ r := by
    generalize b 5 / 2 ^ r = x at hd hdz
    rw [e00, zI_eq (by omega) (by omega) (by omega) (by omega)]
    omega
  rw [n1, n2, n3, lt_s', lt_s']
  unfold gOn
  by_cases c1 : b 9 = ck b 9 0 139
  · rw [if_pos (f1.mpr c1)]
    by_cases c2 : bN b ≤ 999
    · rw [if_neg (fun e => by have := f2.mp e; omega)]
      by_cases c3 : bK b ≤ 288 * bN b
      · rw [if_neg (fun e => by have := f3.mp e; omega)]
        by_cases c4 : b 5 < 2 ^ r
        · rw [if_pos (f4.mpr c4)]
          rcases x_tail h hb (zI (bN b)) (zI (bK b)) with ⟨q1, q2, q3, q4⟩ | ⟨q1, q2⟩
          · rw [h 5 (by omega)] at q4
            exact .inl ⟨⟨c1, c2, c3, c4, q1, q2, q3⟩, q4⟩
          · exact .inr ⟨fun q => q1 ⟨q.2.2.2.2.1, q.2.2.2.2.2.1, q.2.2.2.2.2.2⟩, q2⟩
        · rw [if_neg (fun e => c4 (f4.mp e))]
          exact .inr ⟨fun q => c4 q.2.2.2.1, rfl⟩
      · rw [if_pos (f3.mpr (by omega))]
        exact .inr ⟨fun q => c3 q.2.2.1, rfl⟩
    · rw [if_pos (f2.mpr (by omega))]
      exact .inr ⟨fun q => c2 q.2.1, rfl⟩
  · rw [if_neg (fun e => c1 (f1.mp e))]
    exact .inr ⟨fun q => c1 q.1, rfl⟩
theorem m_on {d : FD} (hm : MD d σ) (hr : nR d ≤ 6) (h : ∀ k, k < 10 → sA σ 0 k = zI (b k)) (hb : ∀ k, k < 10 → b k < 256) :
    (gOn (nR d) b ∧ f_M_isTold (zI (10 : Nat)) σ = some 1) ∨ (¬ gOn (nR d) b ∧ f_M_isTold (zI (10 : Nat)) σ = some 0) := by
  have h0 := hb 0 (by omega)
  have h1 := hb 1 (by omega)
  have h2 := hb 2 (by omega)
  have h3 := hb 3 (by omega)
  have h4 := hb 4 (by omega)
  have h5 := hb 5 (by omega)
  have h6 := hb 6 (by omega)
  have h7 := hb 7 (by omega)
  have h8 := hb 8 (by omega)
  have h9 := hb 9 (by omega)
  have K : f_M_checked_2 9 σ = _ := m_ck2 (fun k hk => h k (by omega)) (fun k hk => by have := hb k (by omega); omega) 9 0 139 FU (by omega) (FU_gt (by omega)) (by omega)
  have hck := ck_b b 9 0 139 (by omega)
  unfold f_M_isTold
  have cl6' : (6 : Int32).toNatClampNeg = 6 := rfl
  rw [if_pos (show zI ((10 : Nat) : Int) = (10 : Int32) from rfl), K, bp_s, cl9, cl0, cl1, cl2, cl3, cl4, cl5, cl6, cl7, cl8, h 9 (by omega), h 0 (by omega), h 1 (by omega), h 2 (by omega), h 3 (by omega), h 4 (by omega), h 5 (by omega), h 6 (by omega), h 7 (by omega), h 8 (by omega), m_ruleMany hm, bp_s, pow_z (by omega)]
  have n1 : (256 * zI (b 0) + zI (b 1) : Int32) = zI (bN b) := by
    simp only [zI_lit, zI_mul, zI_add]
    rfl
  have n2 : (65536 * zI (b 2) + 256 * zI (b 3) + zI (b 4) : Int32) = zI (bK b) := by
    simp only [zI_lit, zI_mul, zI_add]
    rfl
  have hN : bN b < 70000 := by unfold bN; omega
  have hK : bK b < 20000000 := by unfold bK; omega
  have hp : 2 ^ nR d ≤ 2 ^ 6 := Nat.pow_le_pow_right (by omega) hr
  have e999 : (999 : Int32) = zI (999 : Nat) := rfl
  have e90 : (90 : Int32) = zI (90 : Nat) := rfl
  have e288 : (288 : Int32) = zI (288 : Nat) := rfl
  have f1 : (zI (b 9) = zI (ck b 9 0 139)) ↔ b 9 = ck b 9 0 139 := by
    rw [zI_eq (by omega) (by omega) (by omega) (by omega)]
    omega
  have f2 : ((999 : Int32) < zI (bN b)) ↔ 999 < bN b := by
    rw [e999, zI_lt (by omega) (by omega) (by omega) (by omega)]
    omega
  have f3 : (288 * zI (bN b) < zI (bK b)) ↔ 288 * bN b < bK b := by
    rw [e288, zI_mul, ← Int.natCast_mul, zI_lt (by omega) (by omega) (by omega) (by omega)]
    omega
  have f4 : (zI (2 ^ nR d : Nat) ≤ zI (b 5)) ↔ 2 ^ nR d ≤ b 5 := by
    generalize 2 ^ nR d = x at hp
    rw [zI_le (by omega) (by omega) (by omega) (by omega)]
    omega
  have f7 : ((90 : Int32) < zI (b 7)) ↔ 90 < b 7 := by
    rw [e90, zI_lt (by omega) (by omega) (by omega) (by omega)]
    omega
  have i6 : f_M_isIn (zI (b 6)).toInt64 1 99 σ = some (if 1 ≤ (b 6 : Int) ∧ (b 6 : Int) ≤ 99 then zI 1 else zI 0) := by
    simp (disch := omega) only [zI_lit, zJ_lit, zI_neg, zJ_neg, zI_add, zI_sub, zI_mul, zJ_add, zJ_sub, zJ_mul, zI_lt, zI_le, zI_eq, zJ_lt, zJ_le, zJ_eq, zJ_w, zJ_n, in_z, zI_cl, zI_in, nz_z, nzJ_z, iMin_z, iMax_z, lg_cmp_lt, lg_cmp_le, lg_cmp_gt, lg_cmp_ge, lg_cmp_eq, lt_q, gd_q, bp_q, bd_q, Int.toNat_natCast, Int.toNat_zero, Int.toNat_one, Int.reduceToNat, ite_true, ite_false, bz, isB_i, isB0, isB1]
  have i8 : f_M_isIn (zI (b 8)).toInt64 1 9 σ = some (if 1 ≤ (b 8 : Int) ∧ (b 8 : Int) ≤ 9 then zI 1 else zI 0) := by
    simp (disch := omega) only [zI_lit, zJ_lit, zI_neg, zJ_neg, zI_add, zI_sub, zI_mul, zJ_add, zJ_sub, zJ_mul, zI_lt, zI_le, zI_eq, zJ_lt, zJ_le, zJ_eq, zJ_w, zJ_n, in_z, zI_cl, zI_in, nz_z, nzJ_z, iMin_z, iMax_z, lg_cmp_lt, lg_cmp_le, lg_cmp_gt, lg_cmp_ge, lg_cmp_eq, lt_q, gd_q, bp_q, bd_q, Int.toNat_natCast, Int.toNat_zero, Int.toNat_one, Int.reduceToNat, ite_true, ite_false, bz, isB_i, isB0, isB1]
  rw [n1, n2, lt_s', lt_s', i6, i8, bp_s, bp_s]
  unfold gOn
  by_cases c1 : b 9 = ck b 9 0 139
  · rw [if_pos (f1.mpr c1)]
    by_cases c2 : bN b ≤ 999
    · rw [if_neg (fun e => by have := f2.mp e; omega)]
      by_cases c3 : bK b ≤ 288 * bN b
      · rw [if_neg (fun e => by have := f3.mp e; omega)]
        by_cases c4 : b 5 < 2 ^ nR d
        · rw [if_neg (fun e => by have := f4.mp e; omega)]
          by_cases c5 : 1 ≤ b 6 ∧ b 6 ≤ 99
          · rw [if_neg (fun e => bz0.mp e (by omega))]
            by_cases c6 : b 7 ≤ 90
            · rw [if_neg (fun e => by have := f7.mp e; omega)]
              by_cases c7 : 1 ≤ b 8 ∧ b 8 ≤ 9
              · rw [if_neg (fun e => bz0.mp e (by omega))]
                exact .inl ⟨⟨c1, c2, c3, c4, c5, c6, c7⟩, rfl⟩
              · rw [if_pos (bz0.mpr (by omega))]
                exact .inr ⟨fun q => c7 q.2.2.2.2.2.2, rfl⟩
            · rw [if_pos (f7.mpr (by omega))]
              exact .inr ⟨fun q => c6 q.2.2.2.2.2.1, rfl⟩
          · rw [if_pos (bz0.mpr (by omega))]
            exact .inr ⟨fun q => c5 q.2.2.2.2.1, rfl⟩
        · rw [if_pos (f4.mpr (by omega))]
          exact .inr ⟨fun q => c4 q.2.2.2.1, rfl⟩
      · rw [if_pos (f3.mpr (by omega))]
        exact .inr ⟨fun q => c3 q.2.2.1, rfl⟩
    · rw [if_pos (f2.mpr (by omega))]
      exact .inr ⟨fun q => c2 q.2.1, rfl⟩
  · rw [if_neg (fun e => c1 (f1.mp e))]
    exact .inr ⟨fun q => c1 q.1, rfl⟩
end
def hOn (b : Nat → Nat) (i : Nat) : Nat := if i = 0 then bN b else if i = 1 then bK b else if i = 6 then 0 else b (i + 3)
theorem sim_on : Sim_on Rel := by
  intro σx σm h
  have h0 := rel_tape0 h
  obtain ⟨n, hn, e1, e2, hb⟩ : rT σx σm := h.1.1
  unfold f_BH_on f_M_on
  rw [e1, e2, lt_s', lt_s', lt_s', lt_s']
  have no : Rel (uA (uI σx 3 0) 30 (upd (sA (uI σx 3 0) 30) 5 (sA (uI σx 3 0) 30 5 + 1))) (uA (uI σm 0 0) 1 (upd (sA (uI σm 0 0) 1) 5 (sA (uI σm 0 0) 1 5 + 1))) := rel_no (k := 5) (by omega) h0
  by_cases c : n = 10
  · subst c
    have hbb : ∃ b : Nat → Nat, ∀ k, k < 10 → sA σm 0 k = zI (b k) ∧ b k < 256 := by
      have : ∀ k : Nat, ∃ b : Nat, k < 10 → sA σm 0 k = zI b ∧ b < 256 := by
        intro k
        by_cases c : k < 10
        · obtain ⟨-, b, b1, b2⟩ := hb k c
          exact ⟨b, fun _ => ⟨b2, b1⟩⟩
        · exact ⟨0, fun e => absurd e c⟩
      exact Classical.axiomOfChoice this
    obtain ⟨b, hb2⟩ := hbb
    have hxb : ∀ k, k < 10 → sA (uI σx 3 0) 0 k = zI (b k) := fun k hk => by
      show sA σx 0 k = _
      rw [(hb k hk).1, (hb2 k hk).1]
    have hmb : ∀ k, k < 10 → sA (uI σm 0 0) 0 k = zI (b k) := fun k hk => (hb2 k hk).1
    have hbl : ∀ k, k < 10 → b k < 256 := fun k hk => (hb2 k hk).2
    obtain ⟨hQ, d, hw, hx, hm, hS, a, w, hs, ks, hh, hX, hM⟩ := h0
    have hr := hw.2.2.1
    rw [if_pos (show zI ((10 : Nat) : Int) = (10 : Int32) from rfl)]
    have x55 : sI (uI σx 3 0) 55 = zI (nR d) := hx.2.2.1
    rw [x55]
    rcases x_on (σ := uI σx 3 0) hxb hbl hr with ⟨g, q1⟩ | ⟨g, q1⟩
    · rcases m_on hm hr hmb hbl with ⟨g', q2⟩ | ⟨g', q2⟩
      · rw [q1, q2, bd_s, bp_s, if_neg (by decide), if_neg (by decide), lt_s', lt_s', cl0, cl1, cl2, cl3, cl4, uA_uA, sA_eq]
        have m0 : ∀ f, sA (uA (uI σm 0 0) 11 f) 0 = sA σm 0 := fun f => rfl
        have m0' : sA (uI σm 0 0) 0 = sA σm 0 := rfl
        rw [m0, m0', (hb2 0 (by omega)).1, (hb2 1 (by omega)).1, (hb2 2 (by omega)).1, (hb2 3 (by omega)).1, (hb2 4 (by omega)).1]
        have n1 : (256 * zI (b 0) + zI (b 1) : Int32) = zI (bN b) := by
          simp only [zI_lit, zI_mul, zI_add]
          rfl
        have n2 : (65536 * zI (b 2) + 256 * zI (b 3) + zI (b 4) : Int32) = zI (bK b) := by
          simp only [zI_lit, zI_mul, zI_add]
          rfl
        rw [n1, n2]
        have step : ∀ (n k : Nat) (f : Nat → Int32), k < 4 → f_M_on_89 (n + 1) (zI k) (uA (uI σm 0 0) 11 f) = f_M_on_89 n (zI (k + 1 : Nat)) (uA (uI σm 0 0) 11 (upd f (2 + k) (zI (b (5 + k))))) := by
          intro n k f hk
          show f_M_on_89b (f_M_on_89 n) (zI k) _ = _
          unfold f_M_on_89b
          have e4 : (4 : Int32) = zI (4 : Nat) := rfl
          have e2 : (2 + zI (k : Int) : Int32) = zI ((2 + k : Nat) : Int) := by simp only [zI_lit, zI_add]; rfl
          have e5 : (5 + zI (k : Int) : Int32) = zI ((5 + k : Nat) : Int) := by simp only [zI_lit, zI_add]; rfl
          rw [e4, if_neg (by rw [zI_le (by omega) (by omega) (by omega) (by omega)]; omega), e2, e5, zI_in (by omega) (by omega) (by omega), gd_t, zI_in (by omega) (by omega) (by omega), gd_t, zI_cl (by omega) (by omega), zI_cl (by omega) (by omega), Int.toNat_natCast, Int.toNat_natCast, zS, lt_s', lt_s', uA_uA, sA_eq, m0, (hb2 (5 + k) (by omega)).1]
        have eFU : FU = 99995 + 1 + 1 + 1 + 1 + 1 := rfl
        have e00 : (0 : Int32) = zI (0 : Nat) := rfl
        have F : ∀ f, f_M_on_89 FU 0 (uA (uI σm 0 0) 11 f) = some (1, uI (uA (uI σm 0 0) 11 (upd (upd (upd (upd (upd f 2 (zI (b 5))) 3 (zI (b 6))) 4 (zI (b 7))) 5 (zI (b 8))) 6 0)) 26 0) := by
          intro f
          rw [eFU]
          have s0 := step (99995 + 1 + 1 + 1 + 1) 0 f (by omega)
          have s0' : f_M_on_89 (99995 + 1 + 1 + 1 + 1 + 1) 0 (uA (uI σm 0 0) 11 f) = _ := s0
          rw [s0', step _ 1 _ (by omega), step _ 2 _ (by omega), step _ 3 _ (by omega)]
          show f_M_on_89b (f_M_on_89 99995) (zI (4 : Nat)) _ = _
          unfold f_M_on_89b
          rw [if_pos (by decide), lt_s', lt_s', uA_uA, sA_eq, cl6]
        refine ⟨_, _, _, rfl, F _, hQ, d, hw, hx, hm, hS, 0, w, fun _ => hOn b, ks, ?_, ?_, ?_⟩
        · obtain ⟨g1, g2, g3, g4, g5, g6, g7⟩ := g
          exact ⟨by omega, fun j _ => ⟨g2, g3, g4, g5.1, g5.2, g6, g7.1, g7.2, Nat.zero_le _⟩, fun i hi => absurd hi (Nat.not_lt_zero _)⟩
        · refine ⟨rfl, ⟨rfl, rfl, ?_, ?_, ?_, ?_, rfl⟩, fun j hj => absurd hj (Nat.not_lt_zero _), fun i hi => absurd hi (Nat.not_lt_zero _)⟩
          · rfl
          · exact hxb 6 (by omega)
          · exact hxb 7 (by omega)
          · exact hxb 8 (by omega)
        · refine ⟨rfl, hM.2.1, hM.2.2.1, ⟨fun k hk => ?_, rfl, fun i j hi => absurd hi (Nat.not_lt_zero _)⟩, fun j hj => absurd hj (Nat.not_lt_zero _)⟩
          match k, hk with
          | 0, _ => rfl
          | 1, _ => rfl
          | 2, _ => rfl
          | 3, _ => rfl
          | 4, _ => rfl
          | 5, _ => rfl
      · exact absurd g g'
    · rcases m_on hm hr hmb hbl with ⟨g', q2⟩ | ⟨g', q2⟩
      · exact absurd g' g
      · rw [q1, q2, bd_s, bp_s, if_pos rfl, if_pos rfl]
        exact ⟨_, _, _, rfl, rfl, no⟩
  · have cc : ¬ zI (n : Int) = (10 : Int32) := by
      have : (10 : Int32) = zI 10 := rfl
      rw [this, zI_eq (by omega) (by omega) (by omega) (by omega)]
      omega
    unfold f_M_isTold
    rw [if_neg cc, if_neg cc, bp_s, if_pos rfl]
    exact ⟨_, _, _, rfl, rfl, no⟩
