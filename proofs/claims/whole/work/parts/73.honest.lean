-- ===== honest =====
/-- the first greatest of Q 1 .. Q (n + 1) -/
noncomputable def hI (Q : Nat → Nat) : Nat → Nat
  | 0 => 1
  | n + 1 => if Q (hI Q n) < Q (n + 2) then n + 2 else hI Q n
theorem hI_le {Q : Nat → Nat} : ∀ n, hI Q n ≤ n + 1 := by
  intro n
  induction n with
  | zero => exact Nat.le_refl _
  | succ n ih =>
    unfold hI
    split <;> omega
section
variable {d : FD} {c : Nat → Nat}
theorem bell_in {be : Nat} (hw : wfD d) (hp : c 5 ≤ 9) (hsl : c 4 ≤ 90) (hb : be ≤ 99) (K : Int32 → St → Option St) : ∀ (n t q : Nat) (σ : St), t + n = nT d → n < q → XD d σ → sA σ 9 0 = zI (c 3) → sA σ 9 1 = zI (c 4) → sA σ 9 2 = zI (c 5) → ∃ σ1, f_Tree_weighBells_26 K q (zI be) (zJ (QQ d c 0 be t * pP d : Nat)) (zI t) σ = (if (lg_cmp (zJ (QQ d c 0 be (nT d) * pP d : Nat)) (sJ σ1 4)) ≤ 0 then K (zI (be + 1 : Nat)) σ1 else K (zI (be + 1 : Nat)) (uJ (uI σ1 39 (zI be)) 4 (zJ (QQ d c 0 be (nT d) * pP d : Nat)))) ∧ oS [40, 41, 42, 43, 44, 45, 46, 47, 48, 49, 50, 51] [] [17, 18, 19, 20] [0] σ σ1 := by
  have hn8 := hw.2.1
  intro n
  induction n with
  | zero =>
    intro t q σ h1 h2 hx x90 x91 x92
    obtain ⟨q, rfl⟩ : ∃ r, q = r + 1 := ⟨q - 1, by omega⟩
    have et : t = nT d := by omega
    refine ⟨σ, ?_, oS_r⟩
    show f_Tree_weighBells_26b K (f_Tree_weighBells_26 K q) (zI be) _ (zI t) σ = _
    unfold f_Tree_weighBells_26b
    rw [hx.2.1, if_pos (by rw [zI_le (by omega) (by omega) (by omega) (by omega)]; omega), et, zS]
    rfl
  | succ n ih =>
    intro t q σ h1 h2 hx x90 x91 x92
    obtain ⟨q, rfl⟩ : ∃ r, q = r + 1 := ⟨q - 1, by omega⟩
    have ht : t < nT d := by omega
    obtain ⟨σ1, L1, L2, L3⟩ := xo_load_2 (c := c) hw hx x90 x91 x92 ht
    have oA : oS [40, 41, 42, 43, 44, 45, 46, 47, 48, 49, 50, 51] [] [17, 18, 19, 20] [0] σ (uI σ1 46 (zI be)) := oS_uI (by decide) (oS_w L3 (by decide) (by decide) (by decide) (by decide))
    have L2' : xL 40 17 d c t be (uI σ1 46 (zI be)) := by
      obtain ⟨p1, ⟨-, p7, p8, p9, p10, p11⟩, p3⟩ := L2
      exact ⟨p1, ⟨rfl, p7, p8, p9, p10, p11⟩, p3⟩
    have ppos : 0 < 2 ^ nR d := Nat.pow_pos (by omega)
    obtain ⟨σ2, σ3, v1, v2, v3, v4, v5⟩ := x_value (fo := 0) hw ht ppos hp hsl hb (XD_oS hx oA (by decide) (by decide)) L2' (.inl rfl)
    have v3' : f_Tree_blowsFrom 6 0 0 0 0 0 12960000 σ2 = _ := v3
    have eQ : QQ d c 0 be t * pP d + qT d c 0 be t * pP d = QQ d c 0 be (t + 1) * pP d := by
      unfold QQ
      rw [sm_last, Nat.zero_add, Nat.add_mul]
    have oB : oS [40, 41, 42, 43, 44, 45, 46, 47, 48, 49, 50, 51] [] [17, 18, 19, 20] [0] σ σ3 := oS_t oA (oS_t (oS_w v2 (by decide) (by decide) (by decide) (by decide)) (oS_w v4 (by decide) (by decide) (by decide) (by decide)))
    obtain ⟨σ4, w1, w2⟩ := ih (t + 1) q σ3 (by omega) (by omega) (XD_oS hx oB (by decide) (by decide)) (by rw [oB.2.2.1 9 (by decide)]; exact x90) (by rw [oB.2.2.1 9 (by decide)]; exact x91) (by rw [oB.2.2.1 9 (by decide)]; exact x92)
    refine ⟨σ4, ?_, oS_t oB w2⟩
    rw [← w1]
    show f_Tree_weighBells_26b K (f_Tree_weighBells_26 K q) (zI be) _ (zI t) σ = _
    unfold f_Tree_weighBells_26b
    rw [hx.2.1, if_neg (by rw [zI_le (by omega) (by omega) (by omega) (by omega)]; omega), L1, bp_s, lt_s', v1, bp_s, v3', bd_s, zJ_add, ← Int.natCast_add, eQ, zS, lt_s', lt_s']
theorem bells {σ0 : St} (hw : wfD d) (hp : c 5 ≤ 9) (hsl : c 4 ≤ 90) : ∀ (n i q : Nat) (σ : St), i + n = 98 → n + 1 < q → XD d σ → sA σ 9 0 = zI (c 3) → sA σ 9 1 = zI (c 4) → sA σ 9 2 = zI (c 5) → sI σ 39 = zI (hI (fun be => QQ d c 0 be (nT d)) i) → sJ σ 4 = zJ (QQ d c 0 (hI (fun be => QQ d c 0 be (nT d)) i) (nT d) * pP d : Nat) → ∃ σ1, f_Tree_weighBells_14 q (zI (i + 2 : Nat)) σ = some σ1 ∧ oS [39, 40, 41, 42, 43, 44, 45, 46, 47, 48, 49, 50, 51] [4] [17, 18, 19, 20] [0] σ σ1 ∧ sI σ1 39 = zI (hI (fun be => QQ d c 0 be (nT d)) 98) ∧ sJ σ1 4 = zJ (QQ d c 0 (hI (fun be => QQ d c 0 be (nT d)) 98) (nT d) * pP d : Nat) := by
  have e99 : (99 : Int32) = zI (99 : Nat) := rfl
  have hn8 := hw.2.1
  intro n
  induction n with
  | zero =>
    intro i q σ h1 h2 hx x90 x91 x92 h39 h4
    obtain ⟨q, rfl⟩ : ∃ r, q = r + 1 := ⟨q - 1, by omega⟩
    have ei : i = 98 := by omega
    subst ei
    refine ⟨σ, ?_, oS_r, h39, h4⟩
    show f_Tree_weighBells_14b (f_Tree_weighBells_14 q) _ σ = _
    unfold f_Tree_weighBells_14b
    rw [if_pos (by decide)]
  | succ n ih =>
    intro i q σ h1 h2 hx x90 x91 x92 h39 h4
    obtain ⟨q, rfl⟩ : ∃ r, q = r + 1 := ⟨q - 1, by omega⟩
    obtain ⟨σ1, w1, w2⟩ := bell_in (be := i + 2) hw hp hsl (by omega) (f_Tree_weighBells_14 q) (nT d) 0 FU σ (by omega) (FU_gt (by omega)) hx x90 x91 x92
    have e0 : QQ d c 0 (i + 2) 0 * pP d = 0 := by
      have : QQ d c 0 (i + 2) 0 = 0 := rfl
      rw [this, Nat.zero_mul]
    rw [e0] at w1
    have w1' : f_Tree_weighBells_26 (f_Tree_weighBells_14 q) FU (zI (i + 2 : Nat)) 0 0 σ = _ := w1
    have q1 := QQ_B (d := d) (c := c) (fo := 0) (be := i + 2) hw
    have q2 := QQ_B (d := d) (c := c) (fo := 0) (be := hI (fun be => QQ d c 0 be (nT d)) i) hw
    have y4 : sJ σ1 4 = zJ (QQ d c 0 (hI (fun be => QQ d c 0 be (nT d)) i) (nT d) * pP d : Nat) := by rw [w2.2.1 4 (by decide)]; exact h4
    have y39 : sI σ1 39 = zI (hI (fun be => QQ d c 0 be (nT d)) i) := by rw [w2.1 39 (by decide)]; exact h39
    have key : (QQ d c 0 (i + 2) (nT d) * pP d ≤ QQ d c 0 (hI (fun be => QQ d c 0 be (nT d)) i) (nT d) * pP d) ↔ ¬ QQ d c 0 (hI (fun be => QQ d c 0 be (nT d)) i) (nT d) < QQ d c 0 (i + 2) (nT d) := by
      rw [Nat.mul_le_mul_right_iff pP_pos]
      omega
    have o1 : oS [39, 40, 41, 42, 43, 44, 45, 46, 47, 48, 49, 50, 51] [4] [17, 18, 19, 20] [0] σ σ1 := oS_w w2 (by decide) (by decide) (by decide) (by decide)
    have head : f_Tree_weighBells_14 (q + 1) (zI (i + 2 : Nat)) σ = f_Tree_weighBells_26 (f_Tree_weighBells_14 q) FU (zI (i + 2 : Nat)) 0 0 σ := by
      show f_Tree_weighBells_14b (f_Tree_weighBells_14 q) _ σ = _
      unfold f_Tree_weighBells_14b
      rw [e99, if_neg (by rw [zI_lt (by omega) (by omega) (by omega) (by omega)]; omega)]
    simp only [lg_cmp_le] at w1'
    rw [head, w1', y4]
    by_cases g : QQ d c 0 (hI (fun be => QQ d c 0 be (nT d)) i) (nT d) < QQ d c 0 (i + 2) (nT d)
    · have eb : hI (fun be => QQ d c 0 be (nT d)) (i + 1) = i + 2 := if_pos g
      rw [if_neg (by rw [zJ_le (by omega) (by omega) (by omega) (by omega)]; intro h; exact (key.mp (by omega)) g)]
      have o2 : oS [39, 40, 41, 42, 43, 44, 45, 46, 47, 48, 49, 50, 51] [4] [17, 18, 19, 20] [0] σ (uJ (uI σ1 39 (zI (i + 2 : Nat))) 4 (zJ (QQ d c 0 (i + 2) (nT d) * pP d : Nat))) := oS_uJ (by decide) (oS_uI (by decide) o1)
      obtain ⟨σ2, u1, u2, u3⟩ := ih (i + 1) q _ (by omega) (by omega) (XD_oS hx o2 (by decide) (by decide)) (by rw [o2.2.2.1 9 (by decide)]; exact x90) (by rw [o2.2.2.1 9 (by decide)]; exact x91) (by rw [o2.2.2.1 9 (by decide)]; exact x92) (by rw [eb]; rfl) (by rw [eb]; rfl)
      exact ⟨σ2, u1, oS_t o2 u2, u3⟩
    · have eb : hI (fun be => QQ d c 0 be (nT d)) (i + 1) = hI (fun be => QQ d c 0 be (nT d)) i := if_neg g
      have := key.mpr g
      rw [if_pos (by rw [zJ_le (by omega) (by omega) (by omega) (by omega)]; omega)]
      obtain ⟨σ2, u1, u2, u3⟩ := ih (i + 1) q σ1 (by omega) (by omega) (XD_oS hx o1 (by decide) (by decide)) (by rw [o1.2.2.1 9 (by decide)]; exact x90) (by rw [o1.2.2.1 9 (by decide)]; exact x91) (by rw [o1.2.2.1 9 (by decide)]; exact x92) (by rw [eb]; exact y39) (by rw [eb]; exact y4)
      exact ⟨σ2, u1, oS_t o1 u2, u3⟩
theorem x_weighBells {σ : St} (hw : wfD d) (hp : c 5 ≤ 9) (hsl : c 4 ≤ 90) (hx : XD d σ) (x90 : sA σ 9 0 = zI (c 3)) (x91 : sA σ 9 1 = zI (c 4)) (x92 : sA σ 9 2 = zI (c 5)) : ∃ σ1, f_Tree_weighBells σ = some σ1 ∧ oS [39, 40, 41, 42, 43, 44, 45, 46, 47, 48, 49, 50, 51] [4] [17, 18, 19, 20] [0] σ σ1 ∧ sI σ1 39 = zI (hI (fun be => QQ d c 0 be (nT d)) 98) ∧ sJ σ1 4 = zJ (QQ d c 0 (hI (fun be => QQ d c 0 be (nT d)) 98) (nT d) * pP d : Nat) := by
  have hn8 := hw.2.1
  unfold f_Tree_weighBells
  rw [lt_s', lt_s']
  have o0 : oS [39, 40, 41, 42, 43, 44, 45, 46, 47, 48, 49, 50, 51] [4] [17, 18, 19, 20] [0] σ (uJ (uI σ 39 (-1)) 4 (-1)) := oS_uJ (by decide) (oS_uI (by decide) oS_r)
  obtain ⟨σ1, w1, w2⟩ := bell_in (be := 1) hw hp hsl (by omega) (f_Tree_weighBells_14 99999) (nT d) 0 FU (uJ (uI σ 39 (-1)) 4 (-1)) (by omega) (FU_gt (by omega)) (XD_oS hx o0 (by decide) (by decide)) x90 x91 x92
  have e0 : QQ d c 0 1 0 * pP d = 0 := by
    have : QQ d c 0 1 0 = 0 := rfl
    rw [this, Nat.zero_mul]
  rw [e0] at w1
  have w1' : f_Tree_weighBells_26 (f_Tree_weighBells_14 99999) FU 1 0 0 (uJ (uI σ 39 (-1)) 4 (-1)) = _ := w1
  have y4 : sJ σ1 4 = zJ (-1) := w2.2.1 4 (by decide)
  have q1 := QQ_B (d := d) (c := c) (fo := 0) (be := 1) hw
  simp only [lg_cmp_le] at w1'
  rw [y4, if_neg (by rw [zJ_le (by omega) (by omega) (by omega) (by omega)]; omega)] at w1'
  have head : f_Tree_weighBells_14 FU 1 (uJ (uI σ 39 (-1)) 4 (-1)) = f_Tree_weighBells_26 (f_Tree_weighBells_14 99999) FU 1 0 0 (uJ (uI σ 39 (-1)) 4 (-1)) := by
    show f_Tree_weighBells_14b (f_Tree_weighBells_14 99999) 1 _ = _
    unfold f_Tree_weighBells_14b
    rw [if_neg (by decide)]
  have o2 : oS [39, 40, 41, 42, 43, 44, 45, 46, 47, 48, 49, 50, 51] [4] [17, 18, 19, 20] [0] σ (uJ (uI σ1 39 (zI (1 : Nat))) 4 (zJ (QQ d c 0 1 (nT d) * pP d : Nat))) := oS_uJ (by decide) (oS_uI (by decide) (oS_t o0 (oS_w w2 (by decide) (by decide) (by decide) (by decide))))
  obtain ⟨σ2, u1, u2, u3⟩ := bells (σ0 := σ) hw hp hsl 98 0 99999 _ (by omega) (by omega) (XD_oS hx o2 (by decide) (by decide)) (by rw [o2.2.2.1 9 (by decide)]; exact x90) (by rw [o2.2.2.1 9 (by decide)]; exact x91) (by rw [o2.2.2.1 9 (by decide)]; exact x92) rfl rfl
  rw [head, w1']
  exact ⟨σ2, u1, oS_t o2 u2, u3⟩
theorem honest_loop {x1 : Int32} (hw : wfD d) (hp : c 5 ≤ 9) (hp0 : 1 ≤ c 5) (hsl : c 4 ≤ 90) : ∀ (n i q : Nat) (σ : St), i + n = 98 → n + 1 < q → MD d σ → sA σ 11 4 = zI (c 4) → sA σ 11 5 = zI (c 5) → ∃ σ1, f_M_honest_21 q x1 (zI (hI (fun be => QQ d c 0 be (nT d)) i)) (zJ (QQ d c 0 (hI (fun be => QQ d c 0 be (nT d)) i) (nT d) * c 5 : Nat)) (zI (i + 2 : Nat)) σ = (if x1 = 0 then some (zI (hI (fun be => QQ d c 0 be (nT d)) 98), σ1) else bp (f_M_whole σ1) fun r_4 => gd (nzJ r_4) (some ((((1000 * zJ (QQ d c 0 (hI (fun be => QQ d c 0 be (nT d)) 98) (nT d) * c 5 : Nat)) / r_4)).toInt32, σ1))) ∧ oS [14, 15, 16, 17, 18, 19, 20, 21, 22, 23, 24, 25] [0, 1, 2, 3, 4] [10] [1] σ σ1 := by
  have e100 : (100 : Int32) = zI (100 : Nat) := rfl
  intro n
  induction n with
  | zero =>
    intro i q σ h1 h2 hd e4 e5
    obtain ⟨q, rfl⟩ : ∃ r, q = r + 1 := ⟨q - 1, by omega⟩
    have ei : i = 98 := by omega
    subst ei
    refine ⟨σ, ?_, oS_r⟩
    show f_M_honest_21b (f_M_honest_21 q) x1 _ _ _ σ = _
    unfold f_M_honest_21b
    rw [if_pos (by decide)]
  | succ n ih =>
    intro i q σ h1 h2 hd e4 e5
    obtain ⟨q, rfl⟩ : ∃ r, q = r + 1 := ⟨q - 1, by omega⟩
    obtain ⟨τ, l1, l2⟩ := m_left (fo := 0) (be := i + 2) hw (by omega) hp hsl (by omega) hd e4 e5
    have hdτ : MD d τ := MD_oS hd l2 (by decide) (by decide)
    have q1 := QQ_B (d := d) (c := c) (fo := 0) (be := i + 2) hw
    have q2 := QQ_B (d := d) (c := c) (fo := 0) (be := hI (fun be => QQ d c 0 be (nT d)) i) hw
    have hPp := pP_pos (d := d)
    have b1 : QQ d c 0 (i + 2) (nT d) ≤ 500000000 := Nat.le_trans (Nat.le_mul_of_pos_right _ hPp) q1
    have b2 : QQ d c 0 (hI (fun be => QQ d c 0 be (nT d)) i) (nT d) ≤ 500000000 := Nat.le_trans (Nat.le_mul_of_pos_right _ hPp) q2
    have m1 : QQ d c 0 (i + 2) (nT d) * c 5 ≤ 500000000 * 9 := Nat.mul_le_mul b1 hp
    have m2 : QQ d c 0 (hI (fun be => QQ d c 0 be (nT d)) i) (nT d) * c 5 ≤ 500000000 * 9 := Nat.mul_le_mul b2 hp
    have key : (QQ d c 0 (hI (fun be => QQ d c 0 be (nT d)) i) (nT d) * c 5 < QQ d c 0 (i + 2) (nT d) * c 5) ↔ QQ d c 0 (hI (fun be => QQ d c 0 be (nT d)) i) (nT d) < QQ d c 0 (i + 2) (nT d) := Nat.mul_lt_mul_right hp0
    obtain ⟨σ2, w1, w2⟩ := ih (i + 1) q τ (by omega) (by omega) hdτ (by rw [l2.2.2.1 11 (by decide)]; exact e4) (by rw [l2.2.2.1 11 (by decide)]; exact e5)
    refine ⟨σ2, ?_, oS_t l2 w2⟩
    rw [← w1]
    show f_M_honest_21b (f_M_honest_21 q) x1 _ _ _ σ = _
    unfold f_M_honest_21b
    simp only [lg_cmp_gt]
    have l1' : f_M_leftAll 0 (zI (i + 2 : Nat)) σ = _ := l1
    rw [l1', bd_s, zS, e100, if_neg (by rw [zI_le (by omega) (by omega) (by omega) (by omega)]; omega)]
    by_cases g : QQ d c 0 (hI (fun be => QQ d c 0 be (nT d)) i) (nT d) < QQ d c 0 (i + 2) (nT d)
    · have eb : hI (fun be => QQ d c 0 be (nT d)) (i + 1) = i + 2 := if_pos g
      have := key.mpr g
      rw [if_pos (by rw [zJ_lt (by omega) (by omega) (by omega) (by omega)]; omega), lt_s', eb]
    · have eb : hI (fun be => QQ d c 0 be (nT d)) (i + 1) = hI (fun be => QQ d c 0 be (nT d)) i := if_neg g
      rw [if_neg (by rw [zJ_lt (by omega) (by omega) (by omega) (by omega)]; intro h; exact g (key.mp (by omega))), lt_s', eb]
end
theorem sim_honest : Sim_honest Rel := by
  intro a1 σx σm h
  obtain ⟨y, h3, h4, rfl⟩ := zI_of a1
  have h' := h
  obtain ⟨hQ, d, hw, hx, hm, hS, a, w, hs, ks, hh, hX, hM⟩ := h
  have hc := hh.2.1 a (Nat.le_refl a)
  obtain ⟨c0, cc1, c2, c3, c4, c5, c6, c7, c8⟩ := hc
  obtain ⟨x17, x18, x19, x90, x91, x92, x24⟩ := hX.2.1
  have m4 : sA σm 11 4 = zI (hs a 4) := hM.2.2.2.1.1 4 (by omega)
  have m5 : sA σm 11 5 = zI (hs a 5) := hM.2.2.2.1.1 5 (by omega)
  unfold f_BH_honest f_M_honest
  have i1 : f_M_isIn (zI y).toInt64 0 1 σm = some (if 0 ≤ y ∧ y ≤ 1 then zI 1 else zI 0) := by simp (disch := omega) only [zI_lit, zJ_lit, zI_neg, zJ_neg, zI_add, zI_sub, zI_mul, zJ_add, zJ_sub, zJ_mul, zI_lt, zI_le, zI_eq, zJ_lt, zJ_le, zJ_eq, zJ_w, zJ_n, in_z, zI_cl, zI_in, nz_z, nzJ_z, iMin_z, iMax_z, lg_cmp_lt, lg_cmp_le, lg_cmp_gt, lg_cmp_ge, lg_cmp_eq, lt_q, gd_q, bp_q, bd_q, Int.toNat_natCast, Int.toNat_zero, Int.toNat_one, Int.reduceToNat, ite_true, ite_false, bz, isB_i, isB0, isB1]
  rw [i1, bp_s]
  have e0 : (zI y = (0 : Int32)) ↔ y = 0 := by
    have : (0 : Int32) = zI 0 := rfl
    rw [this, zI_eq (by omega) (by omega) (by omega) (by omega)]
  have e1 : (zI y = (1 : Int32)) ↔ y = 1 := by
    have : (1 : Int32) = zI 1 := rfl
    rw [this, zI_eq (by omega) (by omega) (by omega) (by omega)]
  by_cases g : 0 ≤ y ∧ y ≤ 1
  · have hXf : (if zI y = (0 : Int32) then f_BH_honest_11 (zI y) σx else if zI y = (1 : Int32) then f_BH_honest_11 (zI y) σx else some (-1, σx)) = f_BH_honest_11 (zI y) σx := by
      by_cases q : y = 0
      · rw [if_pos (e0.mpr q)]
      · rw [if_neg (fun e => q (e0.mp e)), if_pos (e1.mpr (by omega))]
    rw [hXf, if_neg (fun e => bz0.mp e g)]
    obtain ⟨σ1, W1, W2, W3, W4⟩ := x_weighBells (c := hs a) hw c7 c5 hx x90 x91 x92
    have RX := Rel_eX h' (eX_oS W2 (by decide) (by decide))
    obtain ⟨τ, l1, l2⟩ := m_left (c := hs a) (fo := 0) (be := 1) hw (by omega) c7 c5 (by omega) hm m4 m5
    have hdτ : MD d τ := MD_oS hm l2 (by decide) (by decide)
    obtain ⟨τ2, b1, b2⟩ := honest_loop (x1 := zI y) (c := hs a) hw c7 c6 c5 98 0 99999 τ (by omega) (by omega) hdτ (by rw [l2.2.2.1 11 (by decide)]; exact m4) (by rw [l2.2.2.1 11 (by decide)]; exact m5)
    have hdτ2 : MD d τ2 := MD_oS hdτ b2 (by decide) (by decide)
    have RM := Rel_eM RX (eM_oS (oS_t l2 b2) (by decide) (by decide) (by decide) (by decide))
    have q0 := QQ_B (d := d) (c := hs a) (fo := 0) (be := 1) hw
    have hPp := pP_pos (d := d)
    have bq : QQ d (hs a) 0 1 (nT d) ≤ 500000000 := Nat.le_trans (Nat.le_mul_of_pos_right _ hPp) q0
    have mq : QQ d (hs a) 0 1 (nT d) * hs a 5 ≤ 500000000 * 9 := Nat.mul_le_mul bq c7
    have start : f_M_honest_21 FU (zI y) 0 (-1) 1 σm = f_M_honest_21 99999 (zI y) (zI (hI (fun be => QQ d (hs a) 0 be (nT d)) 0)) (zJ (QQ d (hs a) 0 (hI (fun be => QQ d (hs a) 0 be (nT d)) 0) (nT d) * hs a 5 : Nat)) (zI (0 + 2 : Nat)) τ := by
      show f_M_honest_21b (f_M_honest_21 99999) (zI y) 0 (-1) 1 σm = _
      unfold f_M_honest_21b
      simp only [lg_cmp_gt]
      have l1' : f_M_leftAll 0 1 σm = _ := l1
      have em : (-1 : Int64) = zJ (-1) := rfl
      rw [l1', bd_s, if_neg (by decide), if_pos (by rw [em, zJ_lt (by omega) (by omega) (by omega) (by omega)]; omega)]
      rfl
    rw [start, b1]
    unfold f_BH_honest_11
    have y92 : sA σ1 9 2 = zI (hs a 5) := by rw [W2.2.2.1 9 (by decide)]; exact x92
    rw [W1, bp_s, W3, cl2, y92]
    by_cases q : y = 0
    · rw [if_pos (e0.mpr q), if_pos (e0.mpr q)]
      exact ⟨_, _, _, rfl, rfl, RM⟩
    · rw [if_neg (fun e => q (e0.mp e)), if_neg (fun e => q (e0.mp e))]
      obtain ⟨r, r1, r2⟩ := win_both (c := hs a) (σx := σ1) (σm := τ2) hw (QQ_B hw) c7 hdτ2 W4
      rw [r1, bp_s]
      exact ⟨_, _, _, rfl, r2, RM⟩
  · rw [if_pos (bz0.mpr g), if_neg (fun e => by have := e0.mp e; omega), if_neg (fun e => by have := e1.mp e; omega)]
    exact ⟨_, _, _, rfl, rfl, h'⟩
