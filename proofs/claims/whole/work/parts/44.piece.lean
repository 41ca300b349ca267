-- ===== pieces: who is a trier, a mark; traits; heights =====
theorem rr_cast (f o : Nat) (ho : o ≤ 9) : (f : Int) * (100 - 10 * (o : Int)) = ((f * (100 - 10 * o) : Nat) : Int) := by
  have e : (100 - 10 * (o : Int)) = ((100 - 10 * o : Nat) : Int) := by omega
  rw [e, Int.natCast_mul]
theorem rs_cast (y s : Nat) (hs : s ≤ 100) : (y : Int) * (100 - (s : Int)) = ((y * (100 - s) : Nat) : Int) := by
  have e : (100 - (s : Int)) = ((100 - s : Nat) : Int) := by omega
  rw [e, Int.natCast_mul]
/-- how high a force raises, off the middle, with slack -/
def rz (f o s : Nat) : Nat := f * (100 - 10 * o) / 100 * (100 - s) / 100
theorem rz_0 (f o : Nat) : rz f o 0 = f * (100 - 10 * o) / 100 := by
  unfold rz
  rw [Nat.sub_zero, Nat.mul_div_cancel _ (by omega)]
theorem rr_b {f o : Nat} (hf : f ≤ 99) : f * (100 - 10 * o) ≤ 9900 := Nat.le_trans (Nat.mul_le_mul hf (Nat.sub_le 100 (10 * o))) (by omega)
theorem rr_c {f o : Nat} (hf : f ≤ 99) : f * (100 - 10 * o) / 100 ≤ 99 := by have := rr_b (o := o) hf; omega
theorem rs_b {y s : Nat} (hf : y ≤ 99) : y * (100 - s) ≤ 9900 := Nat.le_trans (Nat.mul_le_mul hf (Nat.sub_le 100 s)) (by omega)
theorem rz_b {f o s : Nat} (hf : f ≤ 99) : rz f o s ≤ 99 := by
  unfold rz
  have := rs_b (s := s) (rr_c (o := o) hf)
  omega
theorem zdn {a b : Nat} (h1 : a < 2147483648) (h2 : 0 < b) (h3 : b < 2147483648) : zI a / zI b = zI (a / b : Nat) := by
  rw [zI_div (by omega) (by omega) (by omega) (by omega), Int.natCast_ediv]
theorem x_rise {f o s : Nat} (σ : St) (hf : f ≤ 99) (ho : o ≤ 9) (hs : s ≤ 100) : f_BH_rise (zI f) (zI o) (zI s) σ = some (zI (rz f o s)) := by
  unfold f_BH_rise
  have b1 := rr_b (o := o) hf
  have b2 := rs_b (s := s) (rr_c (o := o) hf)
  simp only [zI_lit, zI_mul, zI_sub, lt_s']
  have e1 : (100 : Int) = ((100 : Nat) : Int) := rfl
  rw [rr_cast f o ho, e1, zdn (by omega) (by omega) (by omega), zI_mul, ← e1, rs_cast _ _ hs, e1, zdn (by omega) (by omega) (by omega)]
  rfl
theorem m_raisedBy {f o : Nat} (σ : St) (hf : f ≤ 99) (ho : o ≤ 9) : f_M_raisedBy (zI f) (zI o) σ = some (zI (rz f o 0)) := by
  unfold f_M_raisedBy
  have b1 := rr_b (o := o) hf
  simp only [zI_lit, zI_mul, zI_sub]
  have e1 : (100 : Int) = ((100 : Nat) : Int) := rfl
  rw [rr_cast f o ho, e1, zdn (by omega) (by omega) (by omega), rz_0]
theorem m_heightBy {f o s : Nat} {l : Int32} (σ : St) (hf : f ≤ 99) (ho : o ≤ 9) (hs : s ≤ 90) (h : sA σ 11 4 = zI s) : f_M_heightBy (zI f) (zI o) l σ = some (zI (rz f o (if l = 0 then 0 else s) : Nat)) := by
  unfold f_M_heightBy
  rw [m_raisedBy σ hf ho, bp_s, cl4, h]
  by_cases c : l = 0
  · rw [if_pos c, if_pos c]
  · rw [if_neg c, if_neg c]
    have b2 := rs_b (s := s) (rr_c (o := o) hf)
    simp only [zI_lit, zI_mul, zI_sub]
    have e1 : (100 : Int) = ((100 : Nat) : Int) := rfl
    rw [rs_cast _ _ (by omega), e1, rz_0, zdn (by omega) (by omega) (by omega)]
    rfl
/-- tiredness -/
def td (f ti k : Nat) : Nat := max 1 (f - k * ti)
theorem td_b1 {f ti k : Nat} (hf : f ≤ 99) : td f ti k ≤ 99 := by unfold td; omega
theorem kt_b {k t : Nat} (hk : k ≤ 4) (ht : t ≤ 99) : k * t ≤ 396 := Nat.le_trans (Nat.mul_le_mul hk ht) (by omega)
theorem m_tiredBy {f ti k : Nat} (σ : St) (hf : f ≤ 99) (ht : ti ≤ 20) (hk : k ≤ 4) : f_M_tiredBy (zI f) (zI ti) (zI k) σ = some (zI (td f ti k)) := by
  unfold f_M_tiredBy
  have b := kt_b (t := ti) hk (by omega)
  simp only [zI_mul, zI_sub, lt_s', zI_lit]
  rw [← Int.natCast_mul]
  simp (disch := omega) only [zI_le]
  unfold td
  by_cases c : (1 : Int) ≤ (f : Int) - ((k * ti : Nat) : Int)
  · rw [if_pos c]
    congr 2
    omega
  · rw [if_neg c]
    congr 2
    omega
theorem m_cut {a b : Nat} (σ : St) (h1 : a ≤ 99) (h2 : b ≤ 99) : f_M_cut (zI a) (zI b) σ = some (zI (min b a : Nat)) := by
  unfold f_M_cut
  simp (disch := omega) only [zI_le]
  by_cases c : (a : Int) ≤ b
  · rw [if_pos c]; congr 2; omega
  · rw [if_neg c]; congr 2; omega
theorem x_isWithin {z : Int} {m : Nat} (σ : St) (h1 : -2147483648 ≤ z) (h2 : z < 2147483648) (hm : m < 2147483648) : f_BH_isWithin (zI z) (zI m) σ = some (if 0 ≤ z ∧ z ≤ m then zI 1 else zI 0) := by
  unfold f_BH_isWithin
  simp (disch := omega) only [zI_lit, zJ_lit, zI_neg, zJ_neg, zI_add, zI_sub, zI_mul, zJ_add, zJ_sub, zJ_mul, zI_lt, zI_le, zI_eq, zJ_lt, zJ_le, zJ_eq, zJ_w, zJ_n, in_z, zI_cl, zI_in, nz_z, nzJ_z, iMin_z, iMax_z, lg_cmp_lt, lg_cmp_le, lg_cmp_gt, lg_cmp_ge, lg_cmp_eq, lt_q, gd_q, bp_q, bd_q, Int.toNat_natCast, Int.toNat_zero, Int.toNat_one, Int.reduceToNat, ite_true, ite_false, bz, isB_i, isB0, isB1]
  by_cases c : z < 0
  · rw [if_pos c, if_neg (by omega)]
  · rw [if_neg c]
    by_cases c2 : (m : Int) < z
    · rw [if_pos c2, if_neg (by omega)]
    · rw [if_neg c2, if_pos (by omega)]
theorem x_isOff {z : Int} (σ : St) (h1 : -2147483648 ≤ z) (h2 : z < 2147483648) : f_BH_isOff (zI z) σ = some (if 0 ≤ z ∧ z ≤ 9 then zI 1 else zI 0) := by
  unfold f_BH_isOff
  have e : (9 : Int32) = zI (9 : Nat) := rfl
  rw [e, x_isWithin σ h1 h2 (by omega), bp_s, isB_i, gd_t]
  rfl
section
variable {d : FD} {σ : St} {z : Int}
theorem x_isTrier (hw : wfD d) (hd : XD d σ) (h1 : -2147483648 ≤ z) (h2 : z < 2147483648) : f_BH_isTrier (zI z) σ = some (if 0 ≤ z ∧ z < nT d then zI 1 else zI 0) := by
  have hn := hw.2.1
  unfold f_BH_isTrier
  rw [hd.2.1]
  simp (disch := omega) only [zI_lit, zJ_lit, zI_neg, zJ_neg, zI_add, zI_sub, zI_mul, zJ_add, zJ_sub, zJ_mul, zI_lt, zI_le, zI_eq, zJ_lt, zJ_le, zJ_eq, zJ_w, zJ_n, in_z, zI_cl, zI_in, nz_z, nzJ_z, iMin_z, iMax_z, lg_cmp_lt, lg_cmp_le, lg_cmp_gt, lg_cmp_ge, lg_cmp_eq, lt_q, gd_q, bp_q, bd_q, Int.toNat_natCast, Int.toNat_zero, Int.toNat_one, Int.reduceToNat, ite_true, ite_false, bz, isB_i, isB0, isB1]
  by_cases c : z < 0
  · rw [if_pos c, if_neg (by omega)]
  · rw [if_neg c]
    by_cases c2 : (nT d : Int) ≤ z
    · rw [if_pos c2, if_neg (by omega)]
    · rw [if_neg c2, if_pos (by omega)]
theorem x_isMark (hw : wfD d) (hd : XD d σ) (h1 : -2147483648 ≤ z) (h2 : z < 2147483648) : f_BH_isMark (zI z) σ = some (if 0 ≤ z ∧ z < nM d then zI 1 else zI 0) := by
  have hn := hw.1
  unfold f_BH_isMark
  rw [hd.1]
  simp (disch := omega) only [zI_lit, zJ_lit, zI_neg, zJ_neg, zI_add, zI_sub, zI_mul, zJ_add, zJ_sub, zJ_mul, zI_lt, zI_le, zI_eq, zJ_lt, zJ_le, zJ_eq, zJ_w, zJ_n, in_z, zI_cl, zI_in, nz_z, nzJ_z, iMin_z, iMax_z, lg_cmp_lt, lg_cmp_le, lg_cmp_gt, lg_cmp_ge, lg_cmp_eq, lt_q, gd_q, bp_q, bd_q, Int.toNat_natCast, Int.toNat_zero, Int.toNat_one, Int.reduceToNat, ite_true, ite_false, bz, isB_i, isB0, isB1]
  by_cases c : z < 0
  · rw [if_pos c, if_neg (by omega)]
  · rw [if_neg c]
    by_cases c2 : (nM d : Int) ≤ z
    · rw [if_pos c2, if_neg (by omega)]
    · rw [if_neg c2, if_pos (by omega)]
theorem lt_m1 (n : Nat) (z : Int) : (0 ≤ z ∧ z ≤ (n : Int) - 1) ↔ (0 ≤ z ∧ z < n) := by omega
theorem m_isTrier (hw : wfD d) (hd : MD d σ) (h1 : -2147483648 ≤ z) (h2 : z < 2147483648) : f_M_isTrier (zI z) σ = some (if 0 ≤ z ∧ z < nT d then zI 1 else zI 0) := by
  have hn := hw.2.1
  unfold f_M_isTrier f_M_trierMany
  rw [cl4, hd.2.1]
  simp (disch := omega) only [zI_lit, zJ_lit, zI_neg, zJ_neg, zI_add, zI_sub, zI_mul, zJ_add, zJ_sub, zJ_mul, zI_lt, zI_le, zI_eq, zJ_lt, zJ_le, zJ_eq, zJ_w, zJ_n, in_z, zI_cl, zI_in, nz_z, nzJ_z, iMin_z, iMax_z, lg_cmp_lt, lg_cmp_le, lg_cmp_gt, lg_cmp_ge, lg_cmp_eq, lt_q, gd_q, bp_q, bd_q, Int.toNat_natCast, Int.toNat_zero, Int.toNat_one, Int.reduceToNat, ite_true, ite_false, bz, isB_i, isB0, isB1, lt_m1]
theorem m_trierMany (hd : MD d σ) : f_M_trierMany σ = some (zI (nT d)) := by unfold f_M_trierMany; rw [cl4, hd.2.1]
theorem m_ruleMany (hd : MD d σ) : f_M_ruleMany σ = some (zI (nR d)) := by unfold f_M_ruleMany; rw [cl5, hd.2.2.1]
theorem x_trait {t j : Nat} (hw : wfD d) (hd : XD d σ) (ht : t < nT d) (hj : j < 6) : f_Fair_trait (zI t) (zI j) σ = some (zI (tV d t j)) := by
  have hn := hw.2.1
  unfold f_Fair_trait
  simp (disch := omega) only [zI_lit, zJ_lit, zI_neg, zJ_neg, zI_add, zI_sub, zI_mul, zJ_add, zJ_sub, zJ_mul, zI_lt, zI_le, zI_eq, zJ_lt, zJ_le, zJ_eq, zJ_w, zJ_n, in_z, zI_cl, zI_in, nz_z, nzJ_z, iMin_z, iMax_z, lg_cmp_lt, lg_cmp_le, lg_cmp_gt, lg_cmp_ge, lg_cmp_eq, lt_q, gd_q, bp_q, bd_q, Int.toNat_natCast, Int.toNat_zero, Int.toNat_one, Int.reduceToNat, ite_true, ite_false, bz, isB_i, isB0, isB1]
  rw [if_neg (by omega), if_pos (by omega)]
  have e : ((t : Int) * 6 + j).toNat = 6 * t + j := by omega
  rw [e, hd.2.2.2.2.1 t j ht hj]
theorem m_trierOf {t j : Nat} (hw : wfD d) (hd : MD d σ) (ht : t < nT d) (hj : j < 6) : f_M_trierOf (zI t) (zI j) σ = some (zI (tV d t j)) := by
  have hn := hw.2.1
  unfold f_M_trierOf
  simp (disch := omega) only [zI_lit, zJ_lit, zI_neg, zJ_neg, zI_add, zI_sub, zI_mul, zJ_add, zJ_sub, zJ_mul, zI_lt, zI_le, zI_eq, zJ_lt, zJ_le, zJ_eq, zJ_w, zJ_n, in_z, zI_cl, zI_in, nz_z, nzJ_z, iMin_z, iMax_z, lg_cmp_lt, lg_cmp_le, lg_cmp_gt, lg_cmp_ge, lg_cmp_eq, lt_q, gd_q, bp_q, bd_q, Int.toNat_natCast, Int.toNat_zero, Int.toNat_one, Int.reduceToNat, ite_true, ite_false, bz, isB_i, isB0, isB1]
  have e : (48 + 6 * (t : Int) + j).toNat = 48 + (6 * t + j) := by omega
  rw [e, hd.2.2.2.2.1 t j ht hj]
theorem m_told2 (hd : MD d σ) : f_M_toldOf 2 σ = some (zI (sV d 0)) := by
  have h : sA σ 5 11 = zI (sV d 0) := hd.2.2.2.2.2.1 0 (by omega)
  rw [← h]
  rfl
theorem m_told4 (hd : MD d σ) : f_M_toldOf 4 σ = some (zI (sV d 1)) := by
  have h : sA σ 5 13 = zI (sV d 1) := hd.2.2.2.2.2.1 1 (by omega)
  rw [← h]
  rfl
theorem m_told5 (hd : MD d σ) : f_M_toldOf 5 σ = some (zI (sV d 2)) := by
  have h : sA σ 5 14 = zI (sV d 2) := hd.2.2.2.2.2.1 2 (by omega)
  rw [← h]
  rfl
theorem m_told6 (hd : MD d σ) : f_M_toldOf 6 σ = some (zI (sV d 3)) := by
  have h : sA σ 5 15 = zI (sV d 3) := hd.2.2.2.2.2.1 3 (by omega)
  rw [← h]
  rfl
theorem m_told7 (hd : MD d σ) : f_M_toldOf 7 σ = some (zI (sV d 4)) := by
  have h : sA σ 5 16 = zI (sV d 4) := hd.2.2.2.2.2.1 4 (by omega)
  rw [← h]
  rfl
theorem m_told8 (hd : MD d σ) : f_M_toldOf 8 σ = some (zI (sV d 5)) := by
  have h : sA σ 5 17 = zI (sV d 5) := hd.2.2.2.2.2.1 5 (by omega)
  rw [← h]
  rfl
end
