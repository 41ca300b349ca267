-- ===== PART II: the functions alone. Tools =====
theorem sI_uI (σ : St) (k j : Nat) (v : Int32) : sI (uI σ k v) j = if j = k then v else sI σ j := rfl
theorem sI_uJ (σ : St) (k j : Nat) (v : Int64) : sI (uJ σ k v) j = sI σ j := rfl
theorem sI_uA (σ : St) (k j : Nat) (f : Nat → Int32) : sI (uA σ k f) j = sI σ j := rfl
theorem sI_uB (σ : St) (k j : Nat) (f : Nat → Int64) : sI (uB σ k f) j = sI σ j := rfl
theorem sJ_uI (σ : St) (k j : Nat) (v : Int32) : sJ (uI σ k v) j = sJ σ j := rfl
theorem sJ_uJ (σ : St) (k j : Nat) (v : Int64) : sJ (uJ σ k v) j = if j = k then v else sJ σ j := rfl
theorem sJ_uA (σ : St) (k j : Nat) (f : Nat → Int32) : sJ (uA σ k f) j = sJ σ j := rfl
theorem sJ_uB (σ : St) (k j : Nat) (f : Nat → Int64) : sJ (uB σ k f) j = sJ σ j := rfl
theorem sA_uI (σ : St) (k j : Nat) (v : Int32) : sA (uI σ k v) j = sA σ j := rfl
theorem sA_uJ (σ : St) (k j : Nat) (v : Int64) : sA (uJ σ k v) j = sA σ j := rfl
theorem sA_uA (σ : St) (k j : Nat) (f : Nat → Int32) : sA (uA σ k f) j = if j = k then f else sA σ j := rfl
theorem sA_uB (σ : St) (k j : Nat) (f : Nat → Int64) : sA (uB σ k f) j = sA σ j := rfl
theorem sB_uI (σ : St) (k j : Nat) (v : Int32) : sB (uI σ k v) j = sB σ j := rfl
theorem sB_uJ (σ : St) (k j : Nat) (v : Int64) : sB (uJ σ k v) j = sB σ j := rfl
theorem sB_uA (σ : St) (k j : Nat) (f : Nat → Int32) : sB (uA σ k f) j = sB σ j := rfl
theorem sB_uB (σ : St) (k j : Nat) (f : Nat → Int64) : sB (uB σ k f) j = if j = k then f else sB σ j := rfl
theorem upd_e (f : Nat → Int32) (k j : Nat) (v : Int32) : upd f k v j = if j = k then v else f j := rfl
theorem updL_e (f : Nat → Int64) (k j : Nat) (v : Int64) : vp_updL f k v j = if j = k then v else f j := rfl
theorem lt_s' {α β : Type} (e : α) (k : α → β) : lt e k = k e := rfl
theorem gd_t {β : Type} (k : Option β) : gd true k = k := rfl
theorem gd_f {β : Type} (k : Option β) : gd false k = none := rfl
theorem bp_s {α β : Type} (x : α) (k : α → Option β) : bp (some x) k = k x := rfl
theorem bd_s {α β : Type} (x : α) (σ : St) (k : α → St → Option β) : bd (some (x, σ)) k = k x σ := rfl
/-- a whole number as an int -/
def zI (z : Int) : Int32 := Int32.ofInt z
theorem zI_n (n : Nat) : nI n = zI n := by
  unfold nI zI
  exact Int32.ofInt_eq_ofNat.symm
theorem zI_add (a b : Int) : zI a + zI b = zI (a + b) := (Int32.ofInt_add a b).symm
theorem zI_sub (a b : Int) : zI a - zI b = zI (a - b) := (Int32.ofInt_sub a b).symm
theorem zI_mul (a b : Int) : zI a * zI b = zI (a * b) := (Int32.ofInt_mul a b).symm
theorem zI_neg (a : Int) : -zI a = zI (-a) := (Int32.ofInt_neg a).symm
theorem zI_lit (n : Nat) : (OfNat.ofNat n : Int32) = zI (OfNat.ofNat n) := by
  show Int32.ofNat n = Int32.ofInt n
  exact Int32.ofInt_eq_ofNat.symm
theorem zI_t {a : Int} (h1 : -2147483648 ≤ a) (h2 : a < 2147483648) : (zI a).toInt = a := by
  unfold zI
  exact Int32.toInt_ofInt_of_le (by simpa using h1) (by simpa using h2)
theorem zI_lt {a b : Int} (h1 : -2147483648 ≤ a) (h2 : a < 2147483648) (h3 : -2147483648 ≤ b) (h4 : b < 2147483648) : zI a < zI b ↔ a < b := by rw [Int32.lt_iff_toInt_lt, zI_t h1 h2, zI_t h3 h4]
theorem zI_le {a b : Int} (h1 : -2147483648 ≤ a) (h2 : a < 2147483648) (h3 : -2147483648 ≤ b) (h4 : b < 2147483648) : zI a ≤ zI b ↔ a ≤ b := by rw [Int32.le_iff_toInt_le, zI_t h1 h2, zI_t h3 h4]
theorem zI_eq {a b : Int} (h1 : -2147483648 ≤ a) (h2 : a < 2147483648) (h3 : -2147483648 ≤ b) (h4 : b < 2147483648) : zI a = zI b ↔ a = b := by rw [← Int32.toInt_inj, zI_t h1 h2, zI_t h3 h4]
theorem zI_cl {a : Int} (h1 : 0 ≤ a) (h2 : a < 2147483648) : (zI a).toNatClampNeg = a.toNat := by
  show (zI a).toInt.toNat = a.toNat
  rw [zI_t (by omega) h2]
theorem zI_in {a : Int} {n : Nat} (h1 : 0 ≤ a) (h2 : a < n) (h3 : n ≤ 2147483648) : inB (zI a) n = true := by
  unfold inB
  rw [zI_cl h1 (by omega)]
  have e0 : (0 : Int32) = zI 0 := rfl
  rw [e0]
  simp only [zI_lt (a := a) (b := 0) (by omega) (by omega) (by omega) (by omega), Bool.and_eq_true, Bool.not_eq_true', decide_eq_false_iff_not, decide_eq_true_eq]
  omega
theorem zI_div {a b : Int} (h1 : 0 ≤ a) (h2 : a < 2147483648) (h3 : 0 < b) (h4 : b < 2147483648) : zI a / zI b = zI (a / b) := by
  obtain ⟨m, rfl⟩ := Int.eq_ofNat_of_zero_le h1
  obtain ⟨k, rfl⟩ := Int.eq_ofNat_of_zero_le (Int.le_of_lt h3)
  rw [← zI_n, ← zI_n, pk_div (by omega) (by omega) (by omega), zI_n]
  rfl
theorem zI_rem {a b : Int} (h1 : 0 ≤ a) (h2 : a < 2147483648) (h3 : 0 < b) (h4 : b < 2147483648) : iR (zI a) (zI b) = zI (a % b) := by
  unfold iR
  rw [zI_div h1 h2 h3 h4, zI_mul, zI_sub]
  congr 1
  have := Int.emod_add_mul_ediv a b
  have e : a / b * b = b * (a / b) := Int.mul_comm _ _
  omega
/-- every int is a whole number in its range -/
theorem zI_of (x : Int32) : ∃ a : Int, -2147483648 ≤ a ∧ a < 2147483648 ∧ x = zI a := ⟨x.toInt, by have := Int32.le_toInt x; simpa using this, by have := Int32.toInt_lt x; simpa using this, by unfold zI; exact (Int32.ofInt_toInt x).symm⟩
