-- ===== the small calls =====
/-- a call refused is counted on both sides -/
theorem rel_no {σx σm : St} {k : Nat} (hk : k < 6) (h : Rel σx σm) : Rel (uA σx 30 (upd (sA σx 30) k (sA σx 30 k + 1))) (uA σm 1 (upd (sA σm 1) k (sA σm 1 k + 1))) := by
  obtain ⟨⟨hT, hF, hR, hI, hG, hO⟩, hh⟩ := h
  refine ⟨⟨hT, hF, ?_, hI, hG, hO⟩, hh⟩
  intro j hj
  show upd (sA σx 30) k (sA σx 30 k + 1) j = upd (sA σm 1) k (sA σm 1 k + 1) j
  rw [upd_e, upd_e, hR j hj, hR k hk]
theorem s_ite {α : Type} {p : Prop} [Decidable p] (a b : α) : (if p then some a else some b) = some (if p then a else b) := by split <;> rfl
theorem sim_status : Sim_status Rel := by
  intro a1 σx σm h
  obtain ⟨z, h1, h2, rfl⟩ := zI_of a1
  have hR : rR σx σm := h.1.2.2.1
  unfold f_BH_status f_M_status
  simp (disch := omega) only [zI_lit, zJ_lit, zI_neg, zJ_neg, zI_add, zI_sub, zI_mul, zJ_add, zJ_sub, zJ_mul, zI_lt, zI_le, zI_eq, zJ_lt, zJ_le, zJ_eq, zJ_w, zJ_n, in_z, zI_cl, zI_in, nz_z, nzJ_z, iMin_z, iMax_z, lg_cmp_lt, lg_cmp_le, lg_cmp_gt, lg_cmp_ge, lg_cmp_eq, lt_q, gd_q, bp_q, bd_q, Int.toNat_natCast, Int.toNat_zero, Int.toNat_one, Int.reduceToNat, ite_true, ite_false, bz, isB_i, isB0, isB1]
  by_cases c : z < 0
  · exact ⟨_, if_pos c, by rw [if_pos (by omega)]⟩
  · by_cases c2 : z < 6
    · simp (disch := omega) only [zI_lit, zJ_lit, zI_neg, zJ_neg, zI_add, zI_sub, zI_mul, zJ_add, zJ_sub, zJ_mul, zI_lt, zI_le, zI_eq, zJ_lt, zJ_le, zJ_eq, zJ_w, zJ_n, in_z, zI_cl, zI_in, nz_z, nzJ_z, iMin_z, iMax_z, lg_cmp_lt, lg_cmp_le, lg_cmp_gt, lg_cmp_ge, lg_cmp_eq, lt_q, gd_q, bp_q, bd_q, Int.toNat_natCast, Int.toNat_zero, Int.toNat_one, Int.reduceToNat, ite_true, ite_false, bz, isB_i, isB0, isB1, if_neg c, if_pos c2]
      rw [if_neg (by omega)]
      exact ⟨_, rfl, by rw [hR _ (by omega)]⟩
    · simp (disch := omega) only [zI_lit, zJ_lit, zI_neg, zJ_neg, zI_add, zI_sub, zI_mul, zJ_add, zJ_sub, zJ_mul, zI_lt, zI_le, zI_eq, zJ_lt, zJ_le, zJ_eq, zJ_w, zJ_n, in_z, zI_cl, zI_in, nz_z, nzJ_z, iMin_z, iMax_z, lg_cmp_lt, lg_cmp_le, lg_cmp_gt, lg_cmp_ge, lg_cmp_eq, lt_q, gd_q, bp_q, bd_q, Int.toNat_natCast, Int.toNat_zero, Int.toNat_one, Int.reduceToNat, ite_true, ite_false, bz, isB_i, isB0, isB1, if_neg c, if_neg c2]
      rw [if_pos (by omega)]
      exact ⟨_, rfl, rfl⟩
theorem sim_fault : Sim_fault Rel := by
  intro a1 σx σm h
  have hF : rF σx σm := h.1.2.1
  unfold f_BH_fault f_M_fault
  rw [hF.1, hF.2]
  by_cases c : a1 = 0
  · exact ⟨_, if_pos c, if_pos c⟩
  · rw [if_neg c]
    by_cases c : a1 = 1
    · exact ⟨_, if_pos c, if_pos c⟩
    · exact ⟨_, if_neg c, if_neg c⟩
theorem sim_octet : Sim_octet Rel := by
  intro a1 σx σm h
  obtain ⟨z, h1, h2, rfl⟩ := zI_of a1
  obtain ⟨e, h10, hk⟩ : rI σx σm := h.1.2.2.2.1
  unfold f_BH_octet f_M_octet
  rw [e]
  rcases h10 with h10 | h10 <;> rw [h10] <;> simp (disch := omega) only [zI_lit, zJ_lit, zI_neg, zJ_neg, zI_add, zI_sub, zI_mul, zJ_add, zJ_sub, zJ_mul, zI_lt, zI_le, zI_eq, zJ_lt, zJ_le, zJ_eq, zJ_w, zJ_n, in_z, zI_cl, zI_in, nz_z, nzJ_z, iMin_z, iMax_z, lg_cmp_lt, lg_cmp_le, lg_cmp_gt, lg_cmp_ge, lg_cmp_eq, lt_q, gd_q, bp_q, bd_q, Int.toNat_natCast, Int.toNat_zero, Int.toNat_one, Int.reduceToNat, ite_true, ite_false, bz, isB_i, isB0, isB1]
  · by_cases c : z < 0
    · exact ⟨_, if_pos c, if_pos c⟩
    · exact ⟨_, by rw [if_neg c, if_neg c], by rw [if_neg c, if_pos (by omega)]⟩
  · by_cases c : z < 0
    · exact ⟨_, if_pos c, if_pos c⟩
    · rw [if_neg c, if_neg c]
      by_cases c2 : z < 10
      · rw [if_pos c2, if_neg (by omega)]
        exact ⟨_, rfl, by rw [hk _ (by omega)]⟩
      · exact ⟨_, if_neg c2, if_pos (by omega)⟩
theorem sim_mark : Sim_mark Rel := by
  intro a1 σx σm h
  obtain ⟨z, h1, h2, rfl⟩ := zI_of a1
  obtain ⟨hQ, d, hw, hx, hm, -⟩ := h
  have hn := hw.1
  unfold f_BH_mark f_M_mark
  rw [x_isMark hw hx h1 h2, cl3, hm.1]
  simp (disch := omega) only [zI_lit, zJ_lit, zI_neg, zJ_neg, zI_add, zI_sub, zI_mul, zJ_add, zJ_sub, zJ_mul, zI_lt, zI_le, zI_eq, zJ_lt, zJ_le, zJ_eq, zJ_w, zJ_n, in_z, zI_cl, zI_in, nz_z, nzJ_z, iMin_z, iMax_z, lg_cmp_lt, lg_cmp_le, lg_cmp_gt, lg_cmp_ge, lg_cmp_eq, lt_q, gd_q, bp_q, bd_q, Int.toNat_natCast, Int.toNat_zero, Int.toNat_one, Int.reduceToNat, ite_true, ite_false, bz, isB_i, isB0, isB1, lt_m1]
  by_cases c : 0 ≤ z ∧ z < nM d
  · rw [if_neg (by omega), if_neg (by omega)]
    obtain ⟨k, rfl⟩ := Int.eq_ofNat_of_zero_le c.1
    simp (disch := omega) only [zI_lit, zJ_lit, zI_neg, zJ_neg, zI_add, zI_sub, zI_mul, zJ_add, zJ_sub, zJ_mul, zI_lt, zI_le, zI_eq, zJ_lt, zJ_le, zJ_eq, zJ_w, zJ_n, in_z, zI_cl, zI_in, nz_z, nzJ_z, iMin_z, iMax_z, lg_cmp_lt, lg_cmp_le, lg_cmp_gt, lg_cmp_ge, lg_cmp_eq, lt_q, gd_q, bp_q, bd_q, Int.toNat_natCast, Int.toNat_zero, Int.toNat_one, Int.reduceToNat, ite_true, ite_false, bz, isB_i, isB0, isB1]
    have e : (6 + (k : Int)).toNat = 6 + k := by omega
    rw [e, hx.2.2.2.1 k (by omega), hm.2.2.2.1 k (by omega)]
    exact ⟨_, rfl, rfl⟩
  · rw [if_pos (by omega), if_pos (by omega)]
    exact ⟨_, rfl, rfl⟩
theorem sim_trier : Sim_trier Rel := by
  intro a1 a2 σx σm h
  obtain ⟨z, h1, h2, rfl⟩ := zI_of a1
  obtain ⟨y, h3, h4, rfl⟩ := zI_of a2
  obtain ⟨hQ, d, hw, hx, hm, -⟩ := h
  unfold f_BH_trier f_M_trier
  rw [x_isTrier hw hx h1 h2, m_isTrier hw hm h1 h2]
  simp (disch := omega) only [zI_lit, zJ_lit, zI_neg, zJ_neg, zI_add, zI_sub, zI_mul, zJ_add, zJ_sub, zJ_mul, zI_lt, zI_le, zI_eq, zJ_lt, zJ_le, zJ_eq, zJ_w, zJ_n, in_z, zI_cl, zI_in, nz_z, nzJ_z, iMin_z, iMax_z, lg_cmp_lt, lg_cmp_le, lg_cmp_gt, lg_cmp_ge, lg_cmp_eq, lt_q, gd_q, bp_q, bd_q, Int.toNat_natCast, Int.toNat_zero, Int.toNat_one, Int.reduceToNat, ite_true, ite_false, bz, isB_i, isB0, isB1]
  by_cases c : 0 ≤ z ∧ z < nT d
  · rw [if_neg (show ¬ ¬ (0 ≤ z ∧ z < nT d) by omega), if_neg (show ¬ ¬ (0 ≤ z ∧ z < nT d) by omega)]
    by_cases c2 : 0 ≤ y ∧ y ≤ 5
    · rw [if_neg (show ¬ y < 0 by omega), if_pos (show y < 6 by omega), if_neg (show ¬ ¬ (0 ≤ y ∧ y ≤ 5) by omega)]
      obtain ⟨t, rfl⟩ := Int.eq_ofNat_of_zero_le c.1
      obtain ⟨j, rfl⟩ := Int.eq_ofNat_of_zero_le c2.1
      rw [x_trait hw hx (by omega) (by omega), m_trierOf hw hm (by omega) (by omega)]
      exact ⟨_, rfl, rfl⟩
    · rw [if_pos c2]
      refine ⟨_, ?_, rfl⟩
      by_cases c3 : y < 0
      · rw [if_pos c3]
      · rw [if_neg c3, if_neg (by omega)]
  · rw [if_pos (by omega), if_pos (by omega)]
    exact ⟨_, rfl, rfl⟩
theorem sim_seed : Sim_seed Rel := by
  intro a1 σx σm h
  obtain ⟨z, h1, h2, rfl⟩ := zI_of a1
  unfold f_BH_seed f_M_seed
  have e0 : (0 : Int32) = zI 0 := rfl
  simp only [e0, zI_le (a := 0) (b := z) (by omega) (by omega) h1 h2]
  by_cases c : 0 ≤ z
  · rw [if_pos c, if_pos c]
    obtain ⟨v, rfl⟩ := Int.eq_ofNat_of_zero_le c
    refine ⟨_, _, _, rfl, rfl, ?_⟩
    obtain ⟨⟨hT, hF, hR, hI, hG, hO⟩, hh⟩ := h
    exact ⟨⟨hT, hF, hR, hI, ⟨v, by omega, rfl, zJ_w h1 h2⟩, hO⟩, hh⟩
  · rw [if_neg c, if_neg c]
    exact ⟨_, _, _, rfl, rfl, rel_no (k := 5) (by omega) h⟩
theorem rel_tape {σx σm : St} {n : Nat} (hn : n ≤ 1600) (h : Rel σx σm) (h2 : ∀ k, k < n → sA σx 0 k = sA σm 0 k ∧ ∃ b : Nat, b < 256 ∧ sA σm 0 k = zI b) : Rel (uI σx 3 (zI n)) (uI σm 0 (zI n)) := by
  obtain ⟨⟨hT, hF, hR, hI, hG, hO⟩, hh⟩ := h
  exact ⟨⟨⟨n, hn, rfl, rfl, h2⟩, hF, hR, hI, hG, hO⟩, hh⟩
theorem sim_end : Sim_end Rel := by
  intro a1 σx σm h
  obtain ⟨z, h1, h2, rfl⟩ := zI_of a1
  obtain ⟨n, hn, e1, e2, hb⟩ : rT σx σm := h.1.1
  unfold f_BH_end f_M_end
  rw [e1, e2]
  have e0 : (0 : Int32) = zI 0 := rfl
  simp only [e0, zI_lt (a := z) (b := 0) h1 h2 (by omega) (by omega), zI_le (a := z) (b := n) h1 h2 (by omega) (by omega)]
  by_cases c : z < 0
  · rw [if_pos c, if_pos c]
    exact ⟨_, _, _, rfl, rfl, rel_no (k := 0) (by omega) h⟩
  · rw [if_neg c, if_neg c]
    by_cases c2 : z ≤ n
    · rw [if_pos c2, if_pos c2]
      obtain ⟨v, rfl⟩ := Int.eq_ofNat_of_zero_le (show 0 ≤ z by omega)
      exact ⟨_, _, _, rfl, rfl, rel_tape (by omega) h (fun k hk => hb k (by omega))⟩
    · rw [if_neg c2, if_neg c2]
      exact ⟨_, _, _, rfl, rfl, rel_no (k := 0) (by omega) h⟩
theorem sim_has : Sim_has Rel := by
  intro a1 σx σm h
  obtain ⟨hQ, d, hw, hx, hm, hS, a, w, hs, ks, hh, hX, hM⟩ := h
  obtain ⟨xa, ⟨x17, x18, x19, x90, x91, x92, x24⟩, -⟩ := hX
  obtain ⟨ma, mw, hw2, ⟨mr, m6, -⟩, -⟩ := hM
  have hc := hh.2.1 a (Nat.le_refl a)
  have hk := hc.2.2.2.2.2.2.2.2
  have h0 := hc.1
  unfold f_BH_has f_M_has f_Book_toldBlows
  rw [m_told2 hm, m_told4 hm, m_told5 hm, m_trierMany hm, m_ruleMany hm]
  simp only [bp_s, cl0, cl1, cl2, cl3, cl4, cl5, cl6]
  have s0 := hx.2.2.2.2.2.1 0 (by omega)
  have s1 := hx.2.2.2.2.2.1 1 (by omega)
  have s2 := hx.2.2.2.2.2.1 2 (by omega)
  simp only [Nat.add_zero, Nat.reduceAdd] at s0 s1 s2
  rw [hx.1, hx.2.1, hx.2.2.1, x19, x90, x91, x92, s0, s1, s2, x17, x18, xa, x24]
  rw [hm.1, mr 0 (by omega), mr 1 (by omega), mr 2 (by omega), mr 3 (by omega), mr 4 (by omega), mr 5 (by omega), m6, ma]
  have e : iMin 60 (zI (hs a 6)) = zI (min 60 (hs a 6) : Nat) := by
    have e6 : (60 : Int32) = zI 60 := rfl
    rw [e6, iMin_z (by omega) (by omega) (by omega) (by omega)]
    congr 1
    omega
  rw [e]
  simp only [s_ite]
  exact ⟨_, rfl, rfl⟩
