-- ===== past, high, hard, wide =====
theorem FU_gt {m : Nat} (h : m < 100000) : m < FU := h
theorem past_loop {d : FD} {σx σm : St} {z : Int} (hw : wfD d) (hx : XD d σx) (hm : MD d σm) (h1 : -2147483648 ≤ z) (h2 : z < 2147483648) :
    ∀ (m k : Nat) (b : Int) (n n' : Nat), nM d - k ≤ m → m < n → m < n' → k ≤ nM d → (b = -1 ∨ (0 ≤ b ∧ b < k)) → ∃ r : Int, f_Fair_markOf_4 n (zI z) (zI b) (zI k) σx = some (zI r) ∧ f_M_past_18 n' (zI z) (zI b) (zI k) σm = some (zI r) ∧ -1 ≤ r ∧ r < 6 := by
  have hn := hw.1
  intro m
  induction m with
  | zero =>
    intro k b n n' h3 h4 h5 h6 h7
    obtain ⟨n, rfl⟩ : ∃ q, n = q + 1 := ⟨n - 1, by omega⟩
    obtain ⟨n', rfl⟩ : ∃ q, n' = q + 1 := ⟨n' - 1, by omega⟩
    unfold f_Fair_markOf_4 f_M_past_18 f_Fair_markOf_4b f_M_past_18b
    rw [hx.1, cl3, hm.1]
    simp (disch := omega) only [zI_lit, zJ_lit, zI_neg, zJ_neg, zI_add, zI_sub, zI_mul, zJ_add, zJ_sub, zJ_mul, zI_lt, zI_le, zI_eq, zJ_lt, zJ_le, zJ_eq, zJ_w, zJ_n, in_z, zI_cl, zI_in, nz_z, nzJ_z, iMin_z, iMax_z, lg_cmp_lt, lg_cmp_le, lg_cmp_gt, lg_cmp_ge, lg_cmp_eq, lt_q, gd_q, bp_q, bd_q, Int.toNat_natCast, Int.toNat_zero, Int.toNat_one, Int.reduceToNat, ite_true, ite_false, bz, isB_i, isB0, isB1]
    rw [if_pos (by omega), if_pos (by omega)]
    exact ⟨b, rfl, rfl, by omega⟩
  | succ m ih =>
    intro k b n n' h3 h4 h5 h6 h7
    obtain ⟨n, rfl⟩ : ∃ q, n = q + 1 := ⟨n - 1, by omega⟩
    obtain ⟨n', rfl⟩ : ∃ q, n' = q + 1 := ⟨n' - 1, by omega⟩
    unfold f_Fair_markOf_4 f_M_past_18 f_Fair_markOf_4b f_M_past_18b
    rw [hx.1, cl3, hm.1]
    have ek : (zI (k : Int) + 1) = zI ((k + 1 : Nat) : Int) := by
      rw [zI_lit, zI_add]
      rfl
    by_cases c : nM d ≤ k
    · simp (disch := omega) only [zI_lit, zJ_lit, zI_neg, zJ_neg, zI_add, zI_sub, zI_mul, zJ_add, zJ_sub, zJ_mul, zI_lt, zI_le, zI_eq, zJ_lt, zJ_le, zJ_eq, zJ_w, zJ_n, in_z, zI_cl, zI_in, nz_z, nzJ_z, iMin_z, iMax_z, lg_cmp_lt, lg_cmp_le, lg_cmp_gt, lg_cmp_ge, lg_cmp_eq, lt_q, gd_q, bp_q, bd_q, Int.toNat_natCast, Int.toNat_zero, Int.toNat_one, Int.reduceToNat, ite_true, ite_false, bz, isB_i, isB0, isB1]
      rw [if_pos (by omega), if_pos (by omega)]
      exact ⟨b, rfl, rfl, by omega⟩
    · have e6 : (6 + (k : Int)).toNat = 6 + k := by omega
      have hk := hw.2.2.2.1 k (by omega)
      unfold f_Fair_markOf_42 f_M_past_67
      simp only [ek]
      simp (disch := omega) only [zI_lit, zJ_lit, zI_neg, zJ_neg, zI_add, zI_sub, zI_mul, zJ_add, zJ_sub, zJ_mul, zI_lt, zI_le, zI_eq, zJ_lt, zJ_le, zJ_eq, zJ_w, zJ_n, in_z, zI_cl, zI_in, nz_z, nzJ_z, iMin_z, iMax_z, lg_cmp_lt, lg_cmp_le, lg_cmp_gt, lg_cmp_ge, lg_cmp_eq, lt_q, gd_q, bp_q, bd_q, Int.toNat_natCast, Int.toNat_zero, Int.toNat_one, Int.reduceToNat, ite_true, ite_false, bz, isB_i, isB0, isB1, e6, hx.2.2.2.1 k (by omega), hm.2.2.2.1 k (by omega)]
      have c' : ¬ ((nM d : Int) ≤ k) := by omega
      simp only [if_neg c']
      by_cases c1 : z < mH d k
      · simp only [if_pos c1]
        exact ih (k + 1) b n n' (by omega) (by omega) (by omega) (by omega) (by omega)
      · simp only [if_neg c1]
        rcases h7 with h7 | h7
        · subst h7
          simp only [if_true]
          exact ih (k + 1) k n n' (by omega) (by omega) (by omega) (by omega) (by omega)
        · have c3 : ¬ (b = -1) := by omega
          simp only [if_neg c3]
          obtain ⟨q, rfl⟩ := Int.eq_ofNat_of_zero_le h7.1
          have hq := hw.2.2.2.1 q (by omega)
          have e7 : (6 + (q : Int)).toNat = 6 + q := by omega
          simp (disch := omega) only [zI_lit, zJ_lit, zI_neg, zJ_neg, zI_add, zI_sub, zI_mul, zJ_add, zJ_sub, zJ_mul, zI_lt, zI_le, zI_eq, zJ_lt, zJ_le, zJ_eq, zJ_w, zJ_n, in_z, zI_cl, zI_in, nz_z, nzJ_z, iMin_z, iMax_z, lg_cmp_lt, lg_cmp_le, lg_cmp_gt, lg_cmp_ge, lg_cmp_eq, lt_q, gd_q, bp_q, bd_q, Int.toNat_natCast, Int.toNat_zero, Int.toNat_one, Int.reduceToNat, ite_true, ite_false, bz, isB_i, isB0, isB1, e7, hx.2.2.2.1 q (by omega), hm.2.2.2.1 q (by omega)]
          by_cases c2 : (mH d k : Int) ≤ mH d q
          · simp only [if_pos c2]
            exact ih (k + 1) q n n' (by omega) (by omega) (by omega) (by omega) (by omega)
          · simp only [if_neg c2]
            exact ih (k + 1) k n n' (by omega) (by omega) (by omega) (by omega) (by omega)
theorem past_both {d : FD} {σx σm : St} {z : Int} (hw : wfD d) (hx : XD d σx) (hm : MD d σm) (h1 : 0 ≤ z) (h2 : z ≤ 99) : ∃ r : Int, f_Fair_markOf (zI z) σx = some (zI r) ∧ f_M_past (zI z) σm = some (zI r) ∧ -1 ≤ r ∧ r < 6 := by
  have hn := hw.1
  obtain ⟨r, e1, e2, e3⟩ := past_loop (z := z) hw hx hm (by omega) (by omega) 6 0 (-1) FU FU (by omega) (FU_gt (by omega)) (FU_gt (by omega)) (by omega) (by omega)
  refine ⟨r, e1, ?_, e3⟩
  unfold f_M_past
  simp (disch := omega) only [zI_lit, zJ_lit, zI_neg, zJ_neg, zI_add, zI_sub, zI_mul, zJ_add, zJ_sub, zJ_mul, zI_lt, zI_le, zI_eq, zJ_lt, zJ_le, zJ_eq, zJ_w, zJ_n, in_z, zI_cl, zI_in, nz_z, nzJ_z, iMin_z, iMax_z, lg_cmp_lt, lg_cmp_le, lg_cmp_gt, lg_cmp_ge, lg_cmp_eq, lt_q, gd_q, bp_q, bd_q, Int.toNat_natCast, Int.toNat_zero, Int.toNat_one, Int.reduceToNat, ite_true, ite_false, bz, isB_i, isB0, isB1]
  rw [if_neg (by omega)]
  exact e2
theorem sim_past : Sim_past Rel := by
  intro a1 σx σm h
  obtain ⟨z, h1, h2, rfl⟩ := zI_of a1
  obtain ⟨hQ, d, hw, hx, hm, -⟩ := h
  by_cases c : 0 ≤ z ∧ z ≤ 99
  · obtain ⟨r, e1, e2, -⟩ := past_both hw hx hm c.1 c.2
    refine ⟨_, ?_, e2⟩
    unfold f_BH_past
    rw [e1]
    simp (disch := omega) only [zI_lit, zJ_lit, zI_neg, zJ_neg, zI_add, zI_sub, zI_mul, zJ_add, zJ_sub, zJ_mul, zI_lt, zI_le, zI_eq, zJ_lt, zJ_le, zJ_eq, zJ_w, zJ_n, in_z, zI_cl, zI_in, nz_z, nzJ_z, iMin_z, iMax_z, lg_cmp_lt, lg_cmp_le, lg_cmp_gt, lg_cmp_ge, lg_cmp_eq, lt_q, gd_q, bp_q, bd_q, Int.toNat_natCast, Int.toNat_zero, Int.toNat_one, Int.reduceToNat, ite_true, ite_false, bz, isB_i, isB0, isB1]
    rw [if_neg (by omega), if_pos (by omega)]
  · unfold f_BH_past f_M_past
    simp (disch := omega) only [zI_lit, zJ_lit, zI_neg, zJ_neg, zI_add, zI_sub, zI_mul, zJ_add, zJ_sub, zJ_mul, zI_lt, zI_le, zI_eq, zJ_lt, zJ_le, zJ_eq, zJ_w, zJ_n, in_z, zI_cl, zI_in, nz_z, nzJ_z, iMin_z, iMax_z, lg_cmp_lt, lg_cmp_le, lg_cmp_gt, lg_cmp_ge, lg_cmp_eq, lt_q, gd_q, bp_q, bd_q, Int.toNat_natCast, Int.toNat_zero, Int.toNat_one, Int.reduceToNat, ite_true, ite_false, bz, isB_i, isB0, isB1]
    rw [if_pos (show ¬ (0 ≤ z ∧ z ≤ 99) from c)]
    refine ⟨_, ?_, rfl⟩
    by_cases c3 : z < 0
    · rw [if_pos c3]
    · rw [if_neg c3, if_neg (by omega)]
/-- the turn of trier t stands ready at b, with the bell at be -/
def xL (b r : Nat) (d : FD) (c : Nat → Nat) (t : Nat) (be : Nat) (σ : St) : Prop := (sI σ b = zI (tV d t 0) ∧ sI σ (b + 1) = zI (tV d t 1) ∧ sI σ (b + 2) = zI (tV d t 2) ∧ sI σ (b + 3) = zI (tV d t 3) ∧ sI σ (b + 4) = zI (tV d t 4) ∧ sI σ (b + 5) = zI (tV d t 5)) ∧ (sI σ (b + 6) = zI be ∧ sI σ (b + 7) = zI (c 4) ∧ sI σ (b + 8) = zI (c 5) ∧ sI σ (b + 9) = zI (sV d 0) ∧ sI σ (b + 10) = zI (sV d 2) ∧ sI σ (b + 11) = zI (sV d 1)) ∧ sA σ r 0 = zI (sV d 3) ∧ sA σ r 1 = zI (sV d 4) ∧ sA σ r 2 = zI (sV d 5)
theorem trait_uI (a b : Int32) (σ : St) (k : Nat) (v : Int32) : f_Fair_trait a b (uI σ k v) = f_Fair_trait a b σ := rfl
theorem trait_uA {k : Nat} (a b : Int32) (σ : St) (f : Nat → Int32) (h : k ≠ 24) : f_Fair_trait a b (uA σ k f) = f_Fair_trait a b σ := by
  unfold f_Fair_trait
  rw [sA_uA, if_neg (fun e => h e.symm)]
theorem x_load {d : FD} {c : Nat → Nat} {t : Nat} {σ : St} (hw : wfD d) (hx : XD d σ) (hc : xC7 c σ) (ht : t < nT d) : ∃ σ1, f_Turn_load (zI t) σ = some σ1 ∧ xL 25 16 d c t (c 3) σ1 ∧ eX σ σ1 := by
  obtain ⟨x17, x18, x19, x90, x91, x92, x24⟩ := hc
  have s0 := hx.2.2.2.2.2.1 0 (by omega)
  have s1 := hx.2.2.2.2.2.1 1 (by omega)
  have s2 := hx.2.2.2.2.2.1 2 (by omega)
  have s3 := hx.2.2.2.2.2.1 3 (by omega)
  have s4 := hx.2.2.2.2.2.1 4 (by omega)
  have s5 := hx.2.2.2.2.2.1 5 (by omega)
  simp only [Nat.add_zero, Nat.reduceAdd] at s0 s1 s2 s3 s4 s5
  have t0 : f_Fair_trait (zI t) 0 σ = _ := x_trait (j := 0) hw hx ht (by omega)
  have t1 : f_Fair_trait (zI t) 1 σ = _ := x_trait (j := 1) hw hx ht (by omega)
  have t2 : f_Fair_trait (zI t) 2 σ = _ := x_trait (j := 2) hw hx ht (by omega)
  have t3 : f_Fair_trait (zI t) 3 σ = _ := x_trait (j := 3) hw hx ht (by omega)
  have t4 : f_Fair_trait (zI t) 4 σ = _ := x_trait (j := 4) hw hx ht (by omega)
  have t5 : f_Fair_trait (zI t) 5 σ = _ := x_trait (j := 5) hw hx ht (by omega)
  unfold f_Turn_load
  simp only [trait_uI, t0, t1, t2, t3, t4, t5, bp_s, lt_s', cl0, cl1, cl2, cl3, cl4, cl5, cl6]
  refine ⟨_, rfl, ⟨⟨rfl, rfl, rfl, rfl, rfl, rfl⟩, ⟨x90, x91, x92, s0, s2, s1⟩, s3, s4, s5⟩, ?_⟩
  exact eX_r σ
theorem x_load_2 {d : FD} {c : Nat → Nat} {t : Nat} {σ : St} (hw : wfD d) (hx : XD d σ) (hc : xC7 c σ) (ht : t < nT d) : ∃ σ1, f_Turn_load_2 (zI t) σ = some σ1 ∧ xL 40 17 d c t (c 3) σ1 ∧ eX σ σ1 := by
  obtain ⟨x17, x18, x19, x90, x91, x92, x24⟩ := hc
  have s0 := hx.2.2.2.2.2.1 0 (by omega)
  have s1 := hx.2.2.2.2.2.1 1 (by omega)
  have s2 := hx.2.2.2.2.2.1 2 (by omega)
  have s3 := hx.2.2.2.2.2.1 3 (by omega)
  have s4 := hx.2.2.2.2.2.1 4 (by omega)
  have s5 := hx.2.2.2.2.2.1 5 (by omega)
  simp only [Nat.add_zero, Nat.reduceAdd] at s0 s1 s2 s3 s4 s5
  have t0 : f_Fair_trait (zI t) 0 σ = _ := x_trait (j := 0) hw hx ht (by omega)
  have t1 : f_Fair_trait (zI t) 1 σ = _ := x_trait (j := 1) hw hx ht (by omega)
  have t2 : f_Fair_trait (zI t) 2 σ = _ := x_trait (j := 2) hw hx ht (by omega)
  have t3 : f_Fair_trait (zI t) 3 σ = _ := x_trait (j := 3) hw hx ht (by omega)
  have t4 : f_Fair_trait (zI t) 4 σ = _ := x_trait (j := 4) hw hx ht (by omega)
  have t5 : f_Fair_trait (zI t) 5 σ = _ := x_trait (j := 5) hw hx ht (by omega)
  unfold f_Turn_load_2
  simp only [trait_uI, t0, t1, t2, t3, t4, t5, bp_s, lt_s', cl0, cl1, cl2, cl3, cl4, cl5, cl6]
  refine ⟨_, rfl, ⟨⟨rfl, rfl, rfl, rfl, rfl, rfl⟩, ⟨x90, x91, x92, s0, s2, s1⟩, s3, s4, s5⟩, ?_⟩
  exact eX_r σ
/-- the height of a blow -/
def hG (be sl f ti k o l : Nat) : Nat := min be (rz (td f ti k) o (if l = 0 then 0 else sl))
theorem hG_b {be sl f ti k o l : Nat} : hG be sl f ti k o l ≤ be := Nat.min_le_left _ _
/-- yes or no as a number -/
def isYN (l : Int32) : Prop := l = 0 ∨ l = 1
theorem x_height {d : FD} {c : Nat → Nat} {t be k o l : Nat} {σ : St} (hL : xL 25 16 d c t be σ) (hT : wfT (tV d t)) (hb : be ≤ 99) (hs : c 4 ≤ 90) (hk : k ≤ 4) (ho : o ≤ 9) (hl : l ≤ 1) : f_Turn_height (zI k) (zI o) (zI l) σ = some (zI (hG be (c 4) (tV d t 0) (tV d t 2) k o l)) := by
  obtain ⟨⟨e0, e1, e2, e3, e4, e5⟩, ⟨e6, e7, e8, e9, e10, e11⟩, -⟩ := hL
  simp only [Nat.reduceAdd] at e0 e1 e2 e3 e4 e5 e6 e7 e8 e9 e10 e11
  obtain ⟨f1, f2, a1, t1, c1, s1, l1⟩ := hT
  have b1 := kt_b (t := tV d t 2) hk (by omega)
  have b2 := td_b1 (ti := tV d t 2) (k := k) f2
  have em : iMax 1 (zI (tV d t 0) - zI k * zI (tV d t 2)) = zI (td (tV d t 0) (tV d t 2) k) := by
    have e1 : (1 : Int32) = zI 1 := rfl
    rw [zI_mul, ← Int.natCast_mul, zI_sub, e1, iMax_z (by omega) (by omega) (by omega) (by omega)]
    unfold td
    congr 1
    omega
  unfold f_Turn_height f_Turn_height_36
  rw [e0, e2, em, e6, e7, lt_s']
  have b3 := rz_b (o := o) (s := 0) b2
  have b4 := rz_b (o := o) (s := c 4) b2
  have e00 : (0 : Int32) = zI (0 : Nat) := rfl
  unfold hG
  have l0 : (zI (l : Int) = zI (0 : Nat)) ↔ l = 0 := by
    rw [zI_eq (by omega) (by omega) (by omega) (by omega)]
    omega
  rw [e00]
  by_cases q : l = 0
  · rw [if_pos (l0.mpr q), if_pos q, x_rise σ b2 ho (by omega), bp_s, iMin_z (by omega) (by omega) (by omega) (by omega)]
    congr 2
    omega
  · rw [if_neg (fun e => q (l0.mp e)), if_neg q, x_rise σ b2 ho (by omega), bp_s, iMin_z (by omega) (by omega) (by omega) (by omega)]
    congr 2
    omega
theorem x_height_2 {d : FD} {c : Nat → Nat} {t be k o l : Nat} {σ : St} (hL : xL 40 17 d c t be σ) (hT : wfT (tV d t)) (hb : be ≤ 99) (hs : c 4 ≤ 90) (hk : k ≤ 4) (ho : o ≤ 9) (hl : l ≤ 1) : f_Turn_height_2 (zI k) (zI o) (zI l) σ = some (zI (hG be (c 4) (tV d t 0) (tV d t 2) k o l)) := by
  obtain ⟨⟨e0, e1, e2, e3, e4, e5⟩, ⟨e6, e7, e8, e9, e10, e11⟩, -⟩ := hL
  simp only [Nat.reduceAdd] at e0 e1 e2 e3 e4 e5 e6 e7 e8 e9 e10 e11
  obtain ⟨f1, f2, a1, t1, c1, s1, l1⟩ := hT
  have b1 := kt_b (t := tV d t 2) hk (by omega)
  have b2 := td_b1 (ti := tV d t 2) (k := k) f2
  have em : iMax 1 (zI (tV d t 0) - zI k * zI (tV d t 2)) = zI (td (tV d t 0) (tV d t 2) k) := by
    have e1 : (1 : Int32) = zI 1 := rfl
    rw [zI_mul, ← Int.natCast_mul, zI_sub, e1, iMax_z (by omega) (by omega) (by omega) (by omega)]
    unfold td
    congr 1
    omega
  unfold f_Turn_height_2 f_Turn_height_2_36
  rw [e0, e2, em, e6, e7, lt_s']
  have b3 := rz_b (o := o) (s := 0) b2
  have b4 := rz_b (o := o) (s := c 4) b2
  have e00 : (0 : Int32) = zI (0 : Nat) := rfl
  unfold hG
  have l0 : (zI (l : Int) = zI (0 : Nat)) ↔ l = 0 := by
    rw [zI_eq (by omega) (by omega) (by omega) (by omega)]
    omega
  rw [e00]
  by_cases q : l = 0
  · rw [if_pos (l0.mpr q), if_pos q, x_rise σ b2 ho (by omega), bp_s, iMin_z (by omega) (by omega) (by omega) (by omega)]
    congr 2
    omega
  · rw [if_neg (fun e => q (l0.mp e)), if_neg q, x_rise σ b2 ho (by omega), bp_s, iMin_z (by omega) (by omega) (by omega) (by omega)]
    congr 2
    omega
theorem yn {l : Int32} (h : l = 0 ∨ l = 1) : ∃ b : Nat, b ≤ 1 ∧ l = zI b ∧ (l = 0 ↔ b = 0) := by
  rcases h with rfl | rfl
  · exact ⟨0, by omega, rfl, by decide⟩
  · exact ⟨1, by omega, rfl, by decide⟩
theorem m_height {d : FD} {t be sl k o l : Nat} {σ : St} (hd : MD d σ) (hw : wfD d) (ht : t < nT d) (h4 : sA σ 11 4 = zI sl) (hs : sl ≤ 90) (hb : be ≤ 99) (hk : k ≤ 4) (ho : o ≤ 9) (hl : l ≤ 1) {α : Type} (K : Int32 → Option α) :
    (bp (f_M_trierOf (zI t) 0 σ) fun r_8 => bp (f_M_trierOf (zI t) 2 σ) fun r_10 => bp (f_M_tiredBy r_8 r_10 (zI k) σ) fun r_12 => bp (f_M_heightBy r_12 (zI o) (zI l) σ) fun r_14 => bp (f_M_cut r_14 (zI be) σ) fun r_16 => K r_16) = K (zI (hG be sl (tV d t 0) (tV d t 2) k o l)) := by
  have t0 : f_M_trierOf (zI t) 0 σ = _ := m_trierOf (j := 0) hw hd ht (by omega)
  have t2 : f_M_trierOf (zI t) 2 σ = _ := m_trierOf (j := 2) hw hd ht (by omega)
  obtain ⟨f1, f2, a1, t1, c1, s1, l1⟩ := hw.2.2.2.2.1 t ht
  have b2 := td_b1 (ti := tV d t 2) (k := k) f2
  have b3 := rz_b (o := o) (s := if (zI l) = 0 then 0 else sl) b2
  rw [t0, bp_s, t2, bp_s, m_tiredBy σ f2 t1 hk, bp_s, m_heightBy σ b2 ho hs h4, bp_s, m_cut σ b3 hb, bp_s]
  unfold hG
  have e00 : (0 : Int32) = zI (0 : Nat) := rfl
  have : (zI (l : Int) = 0) ↔ l = 0 := by
    rw [e00, zI_eq (by omega) (by omega) (by omega) (by omega)]
    omega
  simp only [this]
theorem sim_high : Sim_high Rel := by
  intro a1 a2 a3 a4 σx σm h h4
  obtain ⟨z, h1, h2, rfl⟩ := zI_of a1
  obtain ⟨y, h3, h5, rfl⟩ := zI_of a2
  obtain ⟨o, h6, h7, rfl⟩ := zI_of a3
  obtain ⟨l, hl, rfl, -⟩ := yn h4
  have h' := h
  obtain ⟨hQ, d, hw, hx, hm, hS, a, w, hs, ks, hh, hX, hM⟩ := h
  have hc := hh.2.1 a (Nat.le_refl a)
  unfold f_BH_high f_M_high
  rw [x_isTrier hw hx h1 h2, m_isTrier hw hm h1 h2]
  simp (disch := omega) only [zI_lit, zJ_lit, zI_neg, zJ_neg, zI_add, zI_sub, zI_mul, zJ_add, zJ_sub, zJ_mul, zI_lt, zI_le, zI_eq, zJ_lt, zJ_le, zJ_eq, zJ_w, zJ_n, in_z, zI_cl, zI_in, nz_z, nzJ_z, iMin_z, iMax_z, lg_cmp_lt, lg_cmp_le, lg_cmp_gt, lg_cmp_ge, lg_cmp_eq, lt_q, gd_q, bp_q, bd_q, Int.toNat_natCast, Int.toNat_zero, Int.toNat_one, Int.reduceToNat, ite_true, ite_false, bz, isB_i, isB0, isB1]
  by_cases c : 0 ≤ z ∧ z < nT d
  · simp only [if_neg (show ¬ ¬ (0 ≤ z ∧ z < nT d) by omega)]
    by_cases c1 : 0 ≤ y ∧ y ≤ 3
    · simp only [if_neg (show ¬ ¬ (0 ≤ y ∧ y ≤ 3) by omega), if_neg (show ¬ y < 0 by omega), if_neg (show ¬ 4 ≤ y by omega)]
      rw [x_isOff _ h6 h7]
      simp (disch := omega) only [zI_lit, zJ_lit, zI_neg, zJ_neg, zI_add, zI_sub, zI_mul, zJ_add, zJ_sub, zJ_mul, zI_lt, zI_le, zI_eq, zJ_lt, zJ_le, zJ_eq, zJ_w, zJ_n, in_z, zI_cl, zI_in, nz_z, nzJ_z, iMin_z, iMax_z, lg_cmp_lt, lg_cmp_le, lg_cmp_gt, lg_cmp_ge, lg_cmp_eq, lt_q, gd_q, bp_q, bd_q, Int.toNat_natCast, Int.toNat_zero, Int.toNat_one, Int.reduceToNat, ite_true, ite_false, bz, isB_i, isB0, isB1]
      by_cases c2 : 0 ≤ o ∧ o ≤ 9
      · simp only [if_neg (show ¬ ¬ (0 ≤ o ∧ o ≤ 9) by omega)]
        obtain ⟨t, rfl⟩ := Int.eq_ofNat_of_zero_le c.1
        obtain ⟨k, rfl⟩ := Int.eq_ofNat_of_zero_le c1.1
        obtain ⟨o, rfl⟩ := Int.eq_ofNat_of_zero_le c2.1
        obtain ⟨σ1, q1, q2, q3⟩ := x_load hw hx hX.2.1 (t := t) (by omega)
        have hT := hw.2.2.2.2.1 t (by omega)
        rw [q1, bp_s, x_height q2 hT (by have := hc.2.2.2.2.1; omega) (by have := hc.2.2.2.2.2.1; omega) (by omega) (by omega) hl, bp_s]
        refine ⟨_, _, rfl, ?_, Rel_eX h' q3⟩
        have r3 : sA σm 11 3 = _ := hM.2.2.2.1.1 3 (by omega)
        rw [r3]
        exact m_height hm hw (by omega) (hM.2.2.2.1.1 4 (by omega)) hc.2.2.2.2.2.1 (by have := hc.2.2.2.2.1; omega) (by omega) (by omega) hl some
      · simp only [if_pos c2]
        exact ⟨_, _, rfl, rfl, h'⟩
    · simp only [if_pos c1]
      refine ⟨_, _, ?_, rfl, h'⟩
      by_cases c3 : y < 0
      · rw [if_pos c3]
      · rw [if_neg c3, if_pos (by omega)]
  · simp only [if_pos c]
    exact ⟨_, _, rfl, rfl, h'⟩
