-- ===== more tools =====
theorem zI_toJ {a : Int} (h1 : -2147483648 ≤ a) (h2 : a < 2147483648) : (zI a).toInt64 = Int64.ofInt a := by
  rw [← Int64.toInt_inj]
  rw [w64, zI_t h1 h2, Int64.toInt_ofInt_of_le (by simp; omega) (by simp; omega)]
/-- a whole number as a long -/
def zJ (z : Int) : Int64 := Int64.ofInt z
theorem zJ_w {a : Int} (h1 : -2147483648 ≤ a) (h2 : a < 2147483648) : (zI a).toInt64 = zJ a := zI_toJ h1 h2
theorem zJ_add (a b : Int) : zJ a + zJ b = zJ (a + b) := (Int64.ofInt_add a b).symm
theorem zJ_sub (a b : Int) : zJ a - zJ b = zJ (a - b) := (Int64.ofInt_sub a b).symm
theorem zJ_mul (a b : Int) : zJ a * zJ b = zJ (a * b) := (Int64.ofInt_mul a b).symm
theorem zJ_neg (a : Int) : -zJ a = zJ (-a) := (Int64.ofInt_neg a).symm
theorem zJ_lit (n : Nat) : (OfNat.ofNat n : Int64) = zJ (OfNat.ofNat n) := by
  show Int64.ofNat n = Int64.ofInt n
  exact Int64.ofInt_eq_ofNat.symm
theorem zJ_t {a : Int} (h1 : -9223372036854775808 ≤ a) (h2 : a < 9223372036854775808) : (zJ a).toInt = a := by
  unfold zJ
  exact Int64.toInt_ofInt_of_le (by simpa using h1) (by simpa using h2)
theorem zJ_lt {a b : Int} (h1 : -9223372036854775808 ≤ a) (h2 : a < 9223372036854775808) (h3 : -9223372036854775808 ≤ b) (h4 : b < 9223372036854775808) : zJ a < zJ b ↔ a < b := by rw [Int64.lt_iff_toInt_lt, zJ_t h1 h2, zJ_t h3 h4]
theorem zJ_le {a b : Int} (h1 : -9223372036854775808 ≤ a) (h2 : a < 9223372036854775808) (h3 : -9223372036854775808 ≤ b) (h4 : b < 9223372036854775808) : zJ a ≤ zJ b ↔ a ≤ b := by rw [Int64.le_iff_toInt_le, zJ_t h1 h2, zJ_t h3 h4]
theorem zJ_eq {a b : Int} (h1 : -9223372036854775808 ≤ a) (h2 : a < 9223372036854775808) (h3 : -9223372036854775808 ≤ b) (h4 : b < 9223372036854775808) : zJ a = zJ b ↔ a = b := by rw [← Int64.toInt_inj, zJ_t h1 h2, zJ_t h3 h4]
theorem td_b (a b : Int) : (a.tdiv b).natAbs ≤ a.natAbs := by
  rw [Int.natAbs_tdiv]
  exact Nat.div_le_self _ _
theorem zJ_d {a b : Int} (h1 : -9223372036854775808 < a) (h2 : a < 9223372036854775808) (h3 : -9223372036854775808 ≤ b) (h4 : b < 9223372036854775808) : zJ a / zJ b = zJ (a.tdiv b) := by
  have hb := td_b a b
  rw [← Int64.toInt_inj, Int64.toInt_div_of_ne_left, zJ_t (by omega) h2, zJ_t h3 h4, zJ_t (by omega) (by omega)]
  intro h
  have := congrArg Int64.toInt h
  rw [zJ_t (by omega) h2] at this
  simp at this
  omega
theorem zI_d {a b : Int} (h1 : -2147483648 < a) (h2 : a < 2147483648) (h3 : -2147483648 ≤ b) (h4 : b < 2147483648) : zI a / zI b = zI (a.tdiv b) := by
  have hb := td_b a b
  rw [← Int32.toInt_inj, Int32.toInt_div_of_ne_left, zI_t (by omega) h2, zI_t h3 h4, zI_t (by omega) (by omega)]
  intro h
  have := congrArg Int32.toInt h
  rw [zI_t (by omega) h2] at this
  simp at this
  omega
theorem zJ_div {a b : Int} (h1 : 0 ≤ a) (h2 : a < 9223372036854775808) (h3 : 0 < b) (h4 : b < 9223372036854775808) : zJ a / zJ b = zJ (a / b) := by
  rw [zJ_d (by omega) h2 (by omega) h4, Int.tdiv_eq_ediv_of_nonneg h1]
theorem zJ_rem {a b : Int} (h1 : 0 ≤ a) (h2 : a < 9223372036854775808) (h3 : 0 < b) (h4 : b < 9223372036854775808) : lR (zJ a) (zJ b) = zJ (a % b) := by
  unfold lR
  rw [zJ_div h1 h2 h3 h4, zJ_mul, zJ_sub]
  congr 1
  have := Int.emod_add_mul_ediv a b
  have e : a / b * b = b * (a / b) := Int.mul_comm _ _
  omega
theorem zJ_n (a : Int) : (zJ a).toInt32 = zI a := Int64.toInt32_ofInt
theorem zJ_of (x : Int64) : ∃ a : Int, -9223372036854775808 ≤ a ∧ a < 9223372036854775808 ∧ x = zJ a := ⟨x.toInt, by have := Int64.le_toInt x; simpa using this, by have := Int64.toInt_lt x; simpa using this, by unfold zJ; exact (Int64.ofInt_toInt x).symm⟩
theorem in_z {a b c : Int} (σ : St) (h1 : -9223372036854775808 ≤ a) (h2 : a < 9223372036854775808) (h3 : -9223372036854775808 ≤ b) (h4 : b < 9223372036854775808) (h5 : -9223372036854775808 ≤ c) (h6 : c < 9223372036854775808) : f_M_isIn (zJ a) (zJ b) (zJ c) σ = some (if b ≤ a ∧ a ≤ c then zI 1 else zI 0) := by
  have e1 : (1 : Int32) = zI 1 := rfl
  have e0 : (0 : Int32) = zI 0 := rfl
  unfold f_M_isIn
  rw [← e1, ← e0]
  simp only [lg_cmp_lt, lg_cmp_gt, zJ_lt h1 h2 h3 h4, zJ_lt h5 h6 h1 h2]
  by_cases c1 : a < b
  · rw [if_pos c1, if_neg (by omega)]
  · rw [if_neg c1]
    by_cases c2 : c < a
    · rw [if_pos c2, if_neg (by omega)]
    · rw [if_neg c2, if_pos (by omega)]
theorem nz_z {a : Int} (h1 : -2147483648 ≤ a) (h2 : a < 2147483648) (h : a ≠ 0) : nz (zI a) = true := by
  unfold nz
  have : ¬ zI a = (0 : Int32) := by
    have e : (0 : Int32) = zI 0 := rfl
    rw [e, zI_eq h1 h2 (by omega) (by omega)]
    exact h
  simp [this]
theorem nzJ_z {a : Int} (h1 : -9223372036854775808 ≤ a) (h2 : a < 9223372036854775808) (h : a ≠ 0) : nzJ (zJ a) = true := by
  unfold nzJ
  have : ¬ zJ a = (0 : Int64) := by
    have e : (0 : Int64) = zJ 0 := rfl
    rw [e, zJ_eq h1 h2 (by omega) (by omega)]
    exact h
  simp [this]
theorem iMin_z {a b : Int} (h1 : -2147483648 ≤ a) (h2 : a < 2147483648) (h3 : -2147483648 ≤ b) (h4 : b < 2147483648) : iMin (zI a) (zI b) = zI (min a b) := by
  unfold iMin
  simp only [zI_lt h3 h4 h1 h2]
  split
  · congr 1; omega
  · congr 1; omega
theorem iMax_z {a b : Int} (h1 : -2147483648 ≤ a) (h2 : a < 2147483648) (h3 : -2147483648 ≤ b) (h4 : b < 2147483648) : iMax (zI a) (zI b) = zI (max a b) := by
  unfold iMax
  simp only [zI_lt h1 h2 h3 h4]
  split
  · congr 1; omega
  · congr 1; omega
theorem cl0 : (0 : Int32).toNatClampNeg = 0 := rfl
theorem cl1 : (1 : Int32).toNatClampNeg = 1 := rfl
theorem cl2 : (2 : Int32).toNatClampNeg = 2 := rfl
theorem cl3 : (3 : Int32).toNatClampNeg = 3 := rfl
theorem cl4 : (4 : Int32).toNatClampNeg = 4 := rfl
theorem cl5 : (5 : Int32).toNatClampNeg = 5 := rfl
theorem cl6 : (6 : Int32).toNatClampNeg = 6 := rfl
theorem cl7 : (7 : Int32).toNatClampNeg = 7 := rfl
theorem cl8 : (8 : Int32).toNatClampNeg = 8 := rfl
theorem cl9 : (9 : Int32).toNatClampNeg = 9 := rfl
theorem isB0 : isB (zI 0) = true := rfl
theorem isB1 : isB (zI 1) = true := rfl
/-- booleans -/
theorem bz {p : Prop} [Decidable p] : ((if p then zI 1 else zI 0) = zI 0) ↔ ¬ p := by
  have e : ¬ zI 1 = zI 0 := by decide
  split <;> rename_i h <;> simp [h, e]
theorem isB_i {p : Prop} [Decidable p] : isB (if p then zI 1 else zI 0) = true := by split <;> rfl
theorem bp_h {α β : Type} {o : Option α} {x : α} {k : α → Option β} (h : o = some x) : bp o k = k x := by subst h; rfl
theorem bd_h {α β : Type} {o : Option (α × St)} {x : α} {σ : St} {k : α → St → Option β} (h : o = some (x, σ)) : bd o k = k x σ := by subst h; rfl
theorem gd_h {β : Type} {b : Bool} {k : Option β} (h : b = true) : gd b k = k := by subst h; rfl
theorem lt_h {α β : Type} {e x : α} {k : α → β} (h : e = x) : lt e k = k x := by subst h; rfl
theorem bp_q {α β : Type} (x : α) (k : α → Option β) : bp (some x) k = k x := bp_h (Eq.refl (some x))
theorem bd_q {α β : Type} (x : α) (σ : St) (k : α → St → Option β) : bd (some (x, σ)) k = k x σ := bd_h (Eq.refl (some (x, σ)))
theorem gd_q {β : Type} (k : Option β) : gd true k = k := gd_h (Eq.refl true)
theorem lt_q {α β : Type} (e : α) (k : α → β) : lt e k = k e := lt_h (Eq.refl e)
