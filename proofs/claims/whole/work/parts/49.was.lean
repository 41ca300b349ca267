-- ===== what was seen =====
theorem x_heightF {be sl f ti k o l : Nat} {σ : St} (e0 : sI σ 25 = zI f) (e2 : sI σ 27 = zI ti) (e6 : sI σ 31 = zI be) (e7 : sI σ 32 = zI sl) (hf : f ≤ 99) (ht : ti ≤ 20) (hb : be ≤ 99) (hs : sl ≤ 90) (hk : k ≤ 4) (ho : o ≤ 9) (hl : l ≤ 1) : f_Turn_height (zI k) (zI o) (zI l) σ = some (zI (hG be sl f ti k o l)) := by
  have b1 := kt_b (t := ti) hk (by omega)
  have b2 := td_b1 (ti := ti) (k := k) hf
  have em : iMax 1 (zI f - zI k * zI ti) = zI (td f ti k) := by
    have e1 : (1 : Int32) = zI 1 := rfl
    rw [zI_mul, ← Int.natCast_mul, zI_sub, e1, iMax_z (by omega) (by omega) (by omega) (by omega)]
    unfold td
    congr 1
    omega
  unfold f_Turn_height f_Turn_height_36
  rw [e0, e2, em, e6, e7, lt_s']
  have b3 := rz_b (o := o) (s := 0) b2
  have b4 := rz_b (o := o) (s := sl) b2
  have e00 : (0 : Int32) = zI (0 : Nat) := rfl
  unfold hG
  have l0 : (zI (l : Int) = zI (0 : Nat)) ↔ l = 0 := by
    rw [zI_eq (by omega) (by omega) (by omega) (by omega)]
    omega
  rw [e00]
  by_cases q : l = 0
  · rw [if_pos (l0.mpr q), if_pos q, x_rise σ b2 ho (by omega), bp_s, iMin_z (by omega) (by omega) (by omega) (by omega)]
    congr 2
    omega
  · rw [if_neg (fun e => q (l0.mp e)), if_neg q, x_rise σ b2 ho (by omega), bp_s, iMin_z (by omega) (by omega) (by omega) (by omega)]
    congr 2
    omega
theorem m_heightF {be sl f ti k o l : Nat} {σ : St} (h4 : sA σ 11 4 = zI sl) (hf : f ≤ 99) (ht : ti ≤ 20) (hs : sl ≤ 90) (hb : be ≤ 99) (hk : k ≤ 4) (ho : o ≤ 9) (hl : l ≤ 1) {α : Type} (K : Int32 → Option α) :
    (bp (f_M_tiredBy (zI f) (zI ti) (zI k) σ) fun r_12 => bp (f_M_heightBy r_12 (zI o) (zI l) σ) fun r_14 => bp (f_M_cut r_14 (zI be) σ) fun r_16 => K r_16) = K (zI (hG be sl f ti k o l)) := by
  have b2 := td_b1 (ti := ti) (k := k) hf
  have b3 := rz_b (o := o) (s := if l = 0 then 0 else sl) b2
  rw [m_tiredBy σ hf ht hk, bp_s, m_heightBy' σ b2 ho hs hl h4, bp_s, m_cut σ b3 hb, bp_s]
  rfl
/-- how many of j numbers from o on -/
def wc (g : Nat → Bool) : Nat → Nat → Nat
  | 0, _ => 0
  | j + 1, o => (if g o then 1 else 0) + wc g j (o + 1)
theorem wc_b (g : Nat → Bool) : ∀ j o, wc g j o ≤ j := by
  intro j
  induction j with
  | zero => intro o; exact Nat.le_refl 0
  | succ j ih =>
    intro o
    have := ih (o + 1)
    unfold wc
    split <;> omega
/-- heights that fit -/
def gS (be sl f ti k l : Nat) (s : Int32) (o : Nat) : Bool := decide (zI (hG be sl f ti k o l) = s)
section
variable {be sl f ti k l ai t : Nat} {σx σm : St} {s : Int32}
theorem x_ways (e0 : sI σx 25 = zI f) (e1 : sI σx 26 = zI ai) (e2 : sI σx 27 = zI ti) (e6 : sI σx 31 = zI be) (e7 : sI σx 32 = zI sl) (hs : sA σx 28 k = s) (hf : f ≤ 99) (ha : ai ≤ 5) (ht : ti ≤ 20) (hb : be ≤ 99) (hsl : sl ≤ 90) (hk : k < 4) (hl : l ≤ 1) :
    ∀ (j o cnt n : Nat), o + j = ai + 1 → j < n → cnt + j ≤ 6 → f_BH_waysOfBlow_20 n (zI k) (zI l) (zI cnt) (zI o) σx = some (zI (cnt + wc (gS be sl f ti k l s) j o : Nat)) := by
  intro j
  induction j with
  | zero =>
    intro o cnt n h1 h2 h3
    obtain ⟨n, rfl⟩ : ∃ q, n = q + 1 := ⟨n - 1, by omega⟩
    unfold f_BH_waysOfBlow_20 f_BH_waysOfBlow_20b
    rw [e1, if_pos (by rw [zI_lt (by omega) (by omega) (by omega) (by omega)]; omega)]
    rfl
  | succ j ih =>
    intro o cnt n h1 h2 h3
    obtain ⟨n, rfl⟩ : ∃ q, n = q + 1 := ⟨n - 1, by omega⟩
    unfold f_BH_waysOfBlow_20 f_BH_waysOfBlow_20b
    rw [e1, if_neg (by rw [zI_lt (by omega) (by omega) (by omega) (by omega)]; omega), x_heightF e0 e2 e6 e7 hf ht hb hsl (by omega) (by omega) hl, bp_s, zI_in (by omega) (by omega) (by omega), gd_t, zI_cl (by omega) (by omega), Int.toNat_natCast, hs]
    simp only [zS, lt_q]
    unfold wc
    by_cases c : zI (hG be sl f ti k o l) = s
    · rw [if_pos c, ih (o + 1) (cnt + 1) n (by omega) (by omega) (by omega), if_pos (show gS be sl f ti k l s o = true from decide_eq_true c), Nat.add_assoc]
    · rw [if_neg c, ih (o + 1) cnt n (by omega) (by omega) (by omega), if_neg (show ¬ gS be sl f ti k l s o = true from fun h => c (of_decide_eq_true h)), Nat.zero_add]
theorem m_ways {d : FD} (hw : wfD d) (hm : MD d σm) (ht : t < nT d) (m29 : sI σm 29 = zI t) (m3 : sA σm 11 3 = zI be) (m4 : sA σm 11 4 = zI sl) (hs : sA σm 14 k = s) (hf : f ≤ 99) (hb : be ≤ 99) (hsl : sl ≤ 90) (hk : k < 4) (hl : l ≤ 1) :
    ∀ (j o cnt n : Nat), o + j = tV d t 1 + 1 → j < n → cnt + j ≤ 6 → f_M_slipsOf_6 n (zI k) (zI f) (zI l) (zI cnt) (zI o) σm = some (zI (cnt + wc (gS be sl f (tV d t 2) k l s) j o : Nat)) := by
  obtain ⟨f1, f2, a1, t1, -⟩ := hw.2.2.2.2.1 t ht
  have mt1 : f_M_trierOf (zI t) 1 σm = _ := m_trierOf (j := 1) hw hm ht (by omega)
  have mt2 : f_M_trierOf (zI t) 2 σm = _ := m_trierOf (j := 2) hw hm ht (by omega)
  intro j
  induction j with
  | zero =>
    intro o cnt n h1 h2 h3
    obtain ⟨n, rfl⟩ : ∃ q, n = q + 1 := ⟨n - 1, by omega⟩
    unfold f_M_slipsOf_6 f_M_slipsOf_6b
    rw [m29, mt1, bp_s, if_pos (by rw [zI_lt (by omega) (by omega) (by omega) (by omega)]; omega)]
    rfl
  | succ j ih =>
    intro o cnt n h1 h2 h3
    obtain ⟨n, rfl⟩ : ∃ q, n = q + 1 := ⟨n - 1, by omega⟩
    unfold f_M_slipsOf_6 f_M_slipsOf_6b
    rw [m29, mt1, bp_s, if_neg (by rw [zI_lt (by omega) (by omega) (by omega) (by omega)]; omega), mt2, bp_s, cl3, m3, m_heightF m4 hf t1 hsl hb (by omega) (by omega) hl, zI_in (by omega) (by omega) (by omega), gd_t, zI_cl (by omega) (by omega), Int.toNat_natCast, hs]
    simp only [zS, lt_q]
    unfold wc
    by_cases c : zI (hG be sl f (tV d t 2) k o l) = s
    · rw [if_pos c, ih (o + 1) (cnt + 1) n (by omega) (by omega) (by omega), if_pos (show gS be sl f (tV d t 2) k l s o = true from decide_eq_true c), Nat.add_assoc]
    · rw [if_neg c, ih (o + 1) cnt n (by omega) (by omega) (by omega), if_neg (show ¬ gS be sl f (tV d t 2) k l s o = true from fun h => c (of_decide_eq_true h)), Nat.zero_add]
end
/-- the product of s k .. -/
def wp (s : Nat → Nat) : Nat → Nat → Nat → Nat
  | 0, _, a => a
  | j + 1, k, a => wp s j (k + 1) (a * s k)
theorem wp_0 (s : Nat → Nat) : ∀ j k, wp s j k 0 = 0 := by
  intro j
  induction j with
  | zero => intro k; rfl
  | succ j ih => intro k; unfold wp; rw [Nat.zero_mul]; exact ih (k + 1)
theorem wp_z (s : Nat → Nat) : ∀ j k a i, k ≤ i → i < k + j → s i = 0 → wp s j k a = 0 := by
  intro j
  induction j with
  | zero => intro k a i h1 h2; omega
  | succ j ih =>
    intro k a i h1 h2 h3
    unfold wp
    by_cases c : i = k
    · subst c
      rw [h3, Nat.mul_zero]
      exact wp_0 s j (i + 1)
    · exact ih (k + 1) _ i (by omega) (by omega) h3
/-- the ways that blow k has, all in all -/
def sS (be sl f ti ai : Nat) (se : Nat → Int32) (k : Nat) : Nat := wc (gS be sl f ti k 0 (se k)) (ai + 1) 0 + wc (gS be sl f ti k 1 (se k)) (ai + 1) 0
theorem sS_b {be sl f ti ai : Nat} {se : Nat → Int32} {k : Nat} (ha : ai ≤ 5) : sS be sl f ti ai se k ≤ 12 := by
  unfold sS
  have h1 := wc_b (gS be sl f ti k 0 (se k)) (ai + 1) 0
  have h2 := wc_b (gS be sl f ti k 1 (se k)) (ai + 1) 0
  omega
section
variable {be sl f ti ai t n : Nat} {σx σm : St} {se : Nat → Int32}
theorem x_blow1 {k l : Nat} (e0 : sI σx 25 = zI f) (e1 : sI σx 26 = zI ai) (e2 : sI σx 27 = zI ti) (e6 : sI σx 31 = zI be) (e7 : sI σx 32 = zI sl) (hs : sA σx 28 k = se k) (hf : f ≤ 99) (ha : ai ≤ 5) (ht : ti ≤ 20) (hb : be ≤ 99) (hsl : sl ≤ 90) (hk : k < 4) (hl : l ≤ 1) : f_BH_waysOfBlow (zI k) (zI l) σx = some (zI (wc (gS be sl f ti k l (se k)) (ai + 1) 0)) := by
  unfold f_BH_waysOfBlow
  have e := x_ways e0 e1 e2 e6 e7 hs hf ha ht hb hsl hk hl (ai + 1) 0 0 FU (by omega) (FU_gt (by omega)) (by omega)
  rw [Nat.zero_add] at e
  have e00 : (0 : Int32) = zI (0 : Nat) := rfl
  have e44 : (4 : Int32) = zI (4 : Nat) := rfl
  rw [e00, if_neg (by rw [zI_lt (by omega) (by omega) (by omega) (by omega)]; omega), e44, if_pos (by rw [zI_lt (by omega) (by omega) (by omega) (by omega)]; omega)]
  exact e
theorem m_blow1 {d : FD} {k l : Nat} (hw : wfD d) (hm : MD d σm) (ht : t < nT d) (m29 : sI σm 29 = zI t) (m3 : sA σm 11 3 = zI be) (m4 : sA σm 11 4 = zI sl) (hs : sA σm 14 k = se k) (hf : f ≤ 99) (hb : be ≤ 99) (hsl : sl ≤ 90) (hk : k < 4) (hl : l ≤ 1) : f_M_slipsOf (zI k) (zI f) (zI l) σm = some (zI (wc (gS be sl f (tV d t 2) k l (se k)) (tV d t 1 + 1) 0)) := by
  obtain ⟨f1, f2, a1, t1, -⟩ := hw.2.2.2.2.1 t ht
  have e := m_ways hw hm ht m29 m3 m4 hs hf hb hsl hk hl (tV d t 1 + 1) 0 0 FU (by omega) (FU_gt (by omega)) (by omega)
  rw [Nat.zero_add] at e
  exact e
theorem x_seen (e0 : sI σx 25 = zI f) (e1 : sI σx 26 = zI ai) (e2 : sI σx 27 = zI ti) (e6 : sI σx 31 = zI be) (e7 : sI σx 32 = zI sl) (hn : sI σx 0 = zI n) (hn4 : n ≤ 4) (hs : ∀ k, k < n → sA σx 28 k = se k) (hf : f ≤ 99) (ha : ai ≤ 5) (ht : ti ≤ 20) (hb : be ≤ 99) (hsl : sl ≤ 90) :
    ∀ (j k a q : Nat), k + j = n → j < q → f_BH_waysSeen_4 q (zI a) (zI k) σx = some (zI (wp (sS be sl f ti ai se) j k a)) := by
  intro j
  induction j with
  | zero =>
    intro k a q h1 h2
    obtain ⟨q, rfl⟩ : ∃ r, q = r + 1 := ⟨q - 1, by omega⟩
    unfold f_BH_waysSeen_4 f_BH_waysSeen_4b
    rw [hn, if_pos (by rw [zI_le (by omega) (by omega) (by omega) (by omega)]; omega)]
    rfl
  | succ j ih =>
    intro k a q h1 h2
    obtain ⟨q, rfl⟩ : ∃ r, q = r + 1 := ⟨q - 1, by omega⟩
    unfold f_BH_waysSeen_4 f_BH_waysSeen_4b
    have b0 : f_BH_waysOfBlow (zI k) 0 σx = _ := x_blow1 (l := 0) e0 e1 e2 e6 e7 (hs k (by omega)) hf ha ht hb hsl (by omega) (by omega)
    have b1 : f_BH_waysOfBlow (zI k) 1 σx = _ := x_blow1 (l := 1) e0 e1 e2 e6 e7 (hs k (by omega)) hf ha ht hb hsl (by omega) (by omega)
    rw [hn, if_neg (by rw [zI_le (by omega) (by omega) (by omega) (by omega)]; omega), b0, bp_s, b1, bp_s, zI_add, zI_mul, zS, lt_s', lt_s', ← Int.natCast_add, ← Int.natCast_mul]
    exact ih (k + 1) _ q (by omega) (by omega)
theorem m_seen {d : FD} (hw : wfD d) (hm : MD d σm) (ht : t < nT d) (m29 : sI σm 29 = zI t) (m3 : sA σm 11 3 = zI be) (m4 : sA σm 11 4 = zI sl) (hn : sI σm 28 = zI n) (hn4 : n ≤ 4) (hs : ∀ k, k < n → sA σm 14 k = se k) (hf : f ≤ 99) (hb : be ≤ 99) (hsl : sl ≤ 90) :
    ∀ (j k a q : Nat), k + j = n → j < q → f_M_waysOf_4 q (zI f) (zI a) (zI k) σm = some (zI (wp (sS be sl f (tV d t 2) (tV d t 1) se) j k a)) := by
  intro j
  induction j with
  | zero =>
    intro k a q h1 h2
    obtain ⟨q, rfl⟩ : ∃ r, q = r + 1 := ⟨q - 1, by omega⟩
    unfold f_M_waysOf_4 f_M_waysOf_4b
    rw [hn, if_pos (by rw [zI_le (by omega) (by omega) (by omega) (by omega)]; omega)]
    rfl
  | succ j ih =>
    intro k a q h1 h2
    obtain ⟨q, rfl⟩ : ∃ r, q = r + 1 := ⟨q - 1, by omega⟩
    unfold f_M_waysOf_4 f_M_waysOf_4b
    have b0 : f_M_slipsOf (zI k) (zI f) 0 σm = _ := m_blow1 (l := 0) hw hm ht m29 m3 m4 (hs k (by omega)) hf hb hsl (by omega) (by omega)
    have b1 : f_M_slipsOf (zI k) (zI f) 1 σm = _ := m_blow1 (l := 1) hw hm ht m29 m3 m4 (hs k (by omega)) hf hb hsl (by omega) (by omega)
    rw [hn, if_neg (by rw [zI_le (by omega) (by omega) (by omega) (by omega)]; omega), b0, bp_s, b1, bp_s, zI_add, zI_mul, zS, lt_s', lt_s', ← Int.natCast_add, ← Int.natCast_mul]
    exact ih (k + 1) _ q (by omega) (by omega)
end
theorem wp_b {s : Nat → Nat} (hs : ∀ k, s k ≤ 12) : ∀ j k a, wp s j k a ≤ a * 12 ^ j := by
  intro j
  induction j with
  | zero => intro k a; unfold wp; omega
  | succ j ih =>
    intro k a
    unfold wp
    refine Nat.le_trans (ih (k + 1) _) ?_
    rw [Nat.pow_succ, Nat.mul_assoc, Nat.mul_comm (12 ^ j) 12]
    exact Nat.mul_le_mul_left a (Nat.mul_le_mul_right _ (hs k))
theorem wp_b4 {s : Nat → Nat} (hs : ∀ k, s k ≤ 12) {j : Nat} (hj : j ≤ 4) : wp s j 0 1 ≤ 20736 := by
  refine Nat.le_trans (wp_b hs j 0 1) ?_
  have : 12 ^ j ≤ 12 ^ 4 := Nat.pow_le_pow_right (by omega) hj
  omega
theorem sim_was : Sim_was Rel := by
  intro a1 σx σm h
  obtain ⟨z, h1, h2, rfl⟩ := zI_of a1
  have h' := h
  obtain ⟨hQ, d, hw, hx, hm, hS, a, w, hs, ks, hh, hX, hM⟩ := h
  obtain ⟨n, hn, x0, m28, hS⟩ := hS
  have hc := hh.2.1 a (Nat.le_refl a)
  have hbe := hc.2.2.2.2.1
  have hsl := hc.2.2.2.2.2.1
  unfold f_BH_was f_M_was
  rw [x0, m28]
  have e00 : (0 : Int32) = zI (0 : Nat) := rfl
  by_cases c0 : n = 0
  · subst c0
    have c0' : zI ((0 : Nat) : Int) = 0 := rfl
    rw [if_pos c0', if_pos c0']
    exact ⟨_, _, rfl, rfl, h'⟩
  · have c0' : ¬ zI (n : Int) = 0 := by
      rw [e00, zI_eq (by omega) (by omega) (by omega) (by omega)]
      omega
    rw [if_neg c0', if_neg c0']
    have em1 : (-1 : Int32) = zI (-1) := rfl
    have lt1 : (zI z < (-1 : Int32)) ↔ z < -1 := by rw [em1, zI_lt (by omega) (by omega) (by omega) (by omega)]
    have lt2 : (zI z < zI (n : Int)) ↔ z < n := by rw [zI_lt (by omega) (by omega) (by omega) (by omega)]
    have eq1 : (zI z = (-1 : Int32)) ↔ z = -1 := by rw [em1, zI_eq (by omega) (by omega) (by omega) (by omega)]
    have hin : f_M_isIn (zI z).toInt64 (-1) (zI (n : Int) - 1).toInt64 σm = some (if -1 ≤ z ∧ z < n then zI 1 else zI 0) := by
      simp (disch := omega) only [zI_lit, zJ_lit, zI_neg, zJ_neg, zI_add, zI_sub, zI_mul, zJ_add, zJ_sub, zJ_mul, zI_lt, zI_le, zI_eq, zJ_lt, zJ_le, zJ_eq, zJ_w, zJ_n, in_z, zI_cl, zI_in, nz_z, nzJ_z, iMin_z, iMax_z, lg_cmp_lt, lg_cmp_le, lg_cmp_gt, lg_cmp_ge, lg_cmp_eq, lt_q, gd_q, bp_q, bd_q, Int.toNat_natCast, Int.toNat_zero, Int.toNat_one, Int.reduceToNat, ite_true, ite_false, bz, isB_i, isB0, isB1]
      congr 1
      by_cases q : -1 ≤ z ∧ z < n
      · rw [if_pos q, if_pos (by omega)]
      · rw [if_neg q, if_neg (by omega)]
    rw [hin, bp_s]
    have hb0 : ((if -1 ≤ z ∧ z < (n : Int) then zI 1 else zI 0) = (0 : Int32)) ↔ ¬ (-1 ≤ z ∧ z < n) := bz
    by_cases q : -1 ≤ z ∧ z < n
    · rw [if_neg (fun e => hb0.mp e q), if_neg (fun e => by have := lt1.mp e; omega), if_pos (lt2.mpr q.2)]
      obtain ⟨t, ht, x1, m29, hse⟩ := hS (by omega)
      obtain ⟨f1, f2, a1, t1, -⟩ := hw.2.2.2.2.1 t ht
      obtain ⟨σ1, q1, q2, q3⟩ := x_load hw hx hX.2.1 (t := t) ht
      obtain ⟨⟨l0, l1, l2, -⟩, ⟨l6, l7, -⟩, -⟩ := q2
      have m3 : sA σm 11 3 = _ := hM.2.2.2.1.1 3 (by omega)
      have m4 : sA σm 11 4 = _ := hM.2.2.2.1.1 4 (by omega)
      have s28 : sA σ1 28 = sA σx 28 := q3.2.2.2.2.2.2.2.2.2.2.2.2.2.2.2.1
      have s0 : sI σ1 0 = zI n := by rw [q3.1.1, x0]
      have hseX : ∀ k, k < n → sA σ1 28 k = sA σm 14 k := fun k hk => by rw [s28]; exact hse k hk
      have X := x_seen (σx := σ1) (se := sA σm 14) l0 l1 l2 l6 l7 s0 hn hseX f2 a1 t1 hbe hsl n 0 1 FU (by omega) (FU_gt (by omega))
      have M := m_seen (σm := σm) (se := sA σm 14) hw hm ht m29 m3 m4 m28 hn (fun k hk => rfl) f2 hbe hsl n 0 1 FU (by omega) (FU_gt (by omega))
      have X' : f_BH_waysSeen σ1 = _ := X
      have M' : f_M_waysOf (zI (tV d t 0)) σm = _ := M
      have mt0 : f_M_trierOf (zI t) 0 σm = _ := m_trierOf (j := 0) hw hm ht (by omega)
      rw [x1, m29, q1, bp_s, mt0, bp_s, X', M', bp_s, bp_s]
      have bW := wp_b4 (s := sS (hs a 3) (hs a 4) (tV d t 0) (tV d t 2) (tV d t 1) (sA σm 14)) (fun k => sS_b a1) hn
      by_cases c1 : z = -1
      · rw [if_pos (eq1.mpr c1), if_pos (eq1.mpr c1)]
        exact ⟨_, _, rfl, rfl, Rel_eX h' q3⟩
      · rw [if_neg (fun e => c1 (eq1.mp e)), if_neg (fun e => c1 (eq1.mp e))]
        obtain ⟨k, rfl⟩ := Int.eq_ofNat_of_zero_le (show 0 ≤ z by omega)
        have b0 : f_BH_waysOfBlow (zI k) 0 σ1 = _ := x_blow1 (se := sA σm 14) (l := 0) l0 l1 l2 l6 l7 (hseX k (by omega)) f2 a1 t1 hbe hsl (by omega) (by omega)
        have b1 : f_BH_waysOfBlow (zI k) 1 σ1 = _ := x_blow1 (se := sA σm 14) (l := 1) l0 l1 l2 l6 l7 (hseX k (by omega)) f2 a1 t1 hbe hsl (by omega) (by omega)
        have b2 : f_M_slipsOf (zI k) (zI (tV d t 0)) 0 σm = _ := m_blow1 (se := sA σm 14) (l := 0) hw hm ht m29 m3 m4 rfl f2 hbe hsl (by omega) (by omega)
        have b3 : f_M_slipsOf (zI k) (zI (tV d t 0)) 1 σm = _ := m_blow1 (se := sA σm 14) (l := 1) hw hm ht m29 m3 m4 rfl f2 hbe hsl (by omega) (by omega)
        rw [b0, b1, bp_s, bp_s, lt_s']
        by_cases c2 : zI (wp (sS (hs a 3) (hs a 4) (tV d t 0) (tV d t 2) (tV d t 1) (sA σm 14)) n 0 1) = 0
        · rw [if_pos c2, if_pos c2]
          exact ⟨_, _, rfl, rfl, Rel_eX h' q3⟩
        · rw [if_neg c2, if_neg c2, b2, b3, bp_s, bp_s]
          have hz : sS (hs a 3) (hs a 4) (tV d t 0) (tV d t 2) (tV d t 1) (sA σm 14) k ≠ 0 := by
            intro e
            exact c2 (by rw [wp_z _ n 0 1 k (by omega) (by omega) e]; rfl)
          have hs12 := sS_b (be := hs a 3) (sl := hs a 4) (f := tV d t 0) (ti := tV d t 2) (ai := tV d t 1) (se := sA σm 14) (k := k) a1
          unfold sS at hz hs12
          rw [zI_add, ← Int.natCast_add]
          rw [e00, if_neg (by rw [zI_eq (by omega) (by omega) (by omega) (by omega)]; omega), nz_z (by omega) (by omega) (by omega), gd_t, gd_t]
          exact ⟨_, _, rfl, rfl, Rel_eX h' q3⟩
    · rw [if_pos (hb0.mpr q)]
      refine ⟨_, _, ?_, rfl, h'⟩
      by_cases c1 : z < -1
      · rw [if_pos (lt1.mpr c1)]
      · rw [if_neg (fun e => c1 (lt1.mp e)), if_neg (fun e => by have := lt2.mp e; omega)]
