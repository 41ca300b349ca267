-- ===== small pure rows =====
theorem w64 (x : Int32) : x.toInt64.toInt = x.toInt := by simp
theorem isIn_e (x y z : Int32) (σ : St) : f_M_isIn x.toInt64 y.toInt64 z.toInt64 σ = some (if y ≤ x ∧ x ≤ z then 1 else 0) := by
  unfold f_M_isIn lg_cmp
  simp only [gt_iff_lt, Int64.lt_iff_toInt_lt, ← Int64.toInt_inj, w64, Int32.le_iff_toInt_le]
  by_cases h1 : y.toInt ≤ x.toInt
  · by_cases h2 : x.toInt ≤ z.toInt
    · rw [if_pos (show y.toInt ≤ x.toInt ∧ x.toInt ≤ z.toInt from ⟨h1, h2⟩)]
      rw [if_neg, if_neg]
      · rw [if_neg (by omega)]
        split <;> decide
      · split
        · decide
        · rw [if_pos (by omega)]; decide
    · rw [if_neg (show ¬ (y.toInt ≤ x.toInt ∧ x.toInt ≤ z.toInt) from fun h => h2 h.2)]
      rw [if_neg, if_pos]
      · rw [if_pos (by omega)]; decide
      · split
        · decide
        · rw [if_pos (by omega)]; decide
  · rw [if_neg (show ¬ (y.toInt ≤ x.toInt ∧ x.toInt ≤ z.toInt) from fun h => h1 h.1)]
    rw [if_pos]
    rw [if_neg (by omega), if_neg (by omega)]; decide
