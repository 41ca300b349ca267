-- ===== strong, next, clear =====
theorem bz0 {p : Prop} [Decidable p] : ((if p then zI 1 else zI 0) = (0 : Int32)) ↔ ¬ p := bz
theorem eX_25 (σ : St) (v : Int32) : eX σ (uI σ 25 v) := eX_r σ
theorem uI_uI (σ : St) (k : Nat) (v w : Int32) : uI (uI σ k v) k w = uI σ k w := by
  unfold uI
  congr 1
  funext j
  unfold va_up
  show (if j = k then w else if j = k then v else σ.fst j) = if j = k then w else σ.fst j
  split <;> rfl
section
variable {d : FD} {c : Nat → Nat} {t n : Nat} {σx σm : St}
theorem strong_loop (hw : wfD d) (hm : MD d σm) (ht : t < nT d) (hL : xL 25 16 d c t (c 3) σx) (m29 : sI σm 29 = zI t) (m3 : sA σm 11 3 = zI (c 3)) (m4 : sA σm 11 4 = zI (c 4)) (hb : c 3 ≤ 99) (hsl : c 4 ≤ 90) (x0 : sI σx 0 = zI n) (m28 : sI σm 28 = zI n) (hn : n ≤ 4) (hse : ∀ k, k < n → sA σx 28 k = sA σm 14 k) {p : Int32} :
    ∀ (m k a : Nat) (b e v : Int32) (q q' : Nat), 100 - k ≤ m → m < q → m < q' → k ≤ 100 → ∃ (r u : Int32), f_BH_strong_50 q p (zI a) b e (zI k) (uI σx 25 v) = some (r, uI σx 25 u) ∧ f_M_strong_31 q' p (zI a) b e (zI k) σm = some r := by
  obtain ⟨⟨l0, l1, l2, -⟩, ⟨l6, l7, -⟩, -⟩ := hL
  obtain ⟨f1, f2, a1, t1, -⟩ := hw.2.2.2.2.1 t ht
  intro m
  induction m with
  | zero =>
    intro k a b e v q q' h1 h2 h3 h4
    obtain ⟨q, rfl⟩ : ∃ r, q = r + 1 := ⟨q - 1, by omega⟩
    obtain ⟨q', rfl⟩ : ∃ r, q' = r + 1 := ⟨q' - 1, by omega⟩
    unfold f_BH_strong_50 f_M_strong_31 f_BH_strong_50b f_M_strong_31b
    have c1 : (99 : Int32) < zI (k : Int) := by
      have : (99 : Int32) = zI 99 := rfl
      rw [this, zI_lt (by omega) (by omega) (by omega) (by omega)]
      omega
    have c2 : (100 : Int32) ≤ zI (k : Int) := by
      have : (100 : Int32) = zI 100 := rfl
      rw [this, zI_le (by omega) (by omega) (by omega) (by omega)]
      omega
    rw [if_pos c1, if_pos c2]
    by_cases c3 : p = 0
    · rw [if_pos c3, if_pos c3]
      exact ⟨_, _, rfl, rfl⟩
    · rw [if_neg c3, if_neg c3]
      by_cases c3 : p = 1
      · rw [if_pos c3, if_pos c3]
        exact ⟨_, _, rfl, rfl⟩
      · rw [if_neg c3, if_neg c3]
        exact ⟨_, _, rfl, rfl⟩
  | succ m ih =>
    intro k a b e v q q' h1 h2 h3 h4
    by_cases ck : k = 100
    · exact ih k a b e v q q' (by omega) (by omega) (by omega) h4
    · obtain ⟨q, rfl⟩ : ∃ r, q = r + 1 := ⟨q - 1, by omega⟩
      obtain ⟨q', rfl⟩ : ∃ r, q' = r + 1 := ⟨q' - 1, by omega⟩
      unfold f_BH_strong_50 f_M_strong_31 f_BH_strong_50b f_M_strong_31b f_BH_strong_87 f_M_strong_61
      have c1 : ¬ (99 : Int32) < zI (k : Int) := by
        have : (99 : Int32) = zI 99 := rfl
        rw [this, zI_lt (by omega) (by omega) (by omega) (by omega)]
        omega
      have c2 : ¬ (100 : Int32) ≤ zI (k : Int) := by
        have : (100 : Int32) = zI 100 := rfl
        rw [this, zI_le (by omega) (by omega) (by omega) (by omega)]
        omega
      have X : f_BH_waysSeen (uI σx 25 (zI k)) = _ := x_seen (σx := uI σx 25 (zI k)) (se := sA σm 14) (f := k) rfl l1 l2 l6 l7 x0 hn hse (by omega) a1 t1 hb hsl n 0 1 FU (by omega) (FU_gt (by omega))
      have M : f_M_waysOf (zI k) σm = _ := m_seen (σm := σm) (se := sA σm 14) (f := k) hw hm ht m29 m3 m4 m28 hn (fun k hk => rfl) (by omega) hb hsl n 0 1 FU (by omega) (FU_gt (by omega))
      have bW := wp_b4 (s := sS (c 3) (c 4) k (tV d t 2) (tV d t 1) (sA σm 14)) (fun k => sS_b a1) hn
      rw [if_neg c1, if_neg c2, uI_uI, lt_s', X, M, bp_s, bp_s]
      have e00 : (0 : Int32) = zI (0 : Nat) := rfl
      simp only [zS, lt_q]
      by_cases cz : wp (sS (c 3) (c 4) k (tV d t 2) (tV d t 1) (sA σm 14)) n 0 1 = 0
      · rw [cz]
        have g1 : zI ((0 : Nat) : Int) ≤ 0 := by decide
        have g2 : zI ((0 : Nat) : Int) = 0 := rfl
        rw [if_pos g1, if_pos g2]
        exact ih (k + 1) a b e _ q q' (by omega) (by omega) (by omega) (by omega)
      · have g1 : ¬ zI (wp (sS (c 3) (c 4) k (tV d t 2) (tV d t 1) (sA σm 14)) n 0 1) ≤ 0 := by
          rw [e00, zI_le (by omega) (by omega) (by omega) (by omega)]
          omega
        have g2 : ¬ zI (wp (sS (c 3) (c 4) k (tV d t 2) (tV d t 1) (sA σm 14)) n 0 1) = 0 := by
          rw [e00, zI_eq (by omega) (by omega) (by omega) (by omega)]
          omega
        rw [if_neg g1, if_neg g2]
        by_cases c4 : b = -1
        · rw [if_pos c4, if_pos c4]
          exact ih (k + 1) (a + 1) _ _ _ q q' (by omega) (by omega) (by omega) (by omega)
        · rw [if_neg c4, if_neg c4]
          exact ih (k + 1) (a + 1) _ _ _ q q' (by omega) (by omega) (by omega) (by omega)
end
theorem uI_same (σ : St) (k : Nat) : uI σ k (sI σ k) = σ := by
  unfold uI sI
  obtain ⟨a, b⟩ := σ
  simp only
  congr 1
  funext j
  unfold va_up
  split <;> rename_i h
  · rw [h]
  · rfl
theorem sim_strong : Sim_strong Rel := by
  intro a1 σx σm h
  obtain ⟨z, h1, h2, rfl⟩ := zI_of a1
  have h' := h
  obtain ⟨hQ, d, hw, hx, hm, hS, a, w, hs, ks, hh, hX, hM⟩ := h
  obtain ⟨n, hn, x0, m28, hS⟩ := hS
  have hc := hh.2.1 a (Nat.le_refl a)
  have hbe := hc.2.2.2.2.1
  have hsl := hc.2.2.2.2.2.1
  unfold f_BH_strong f_M_strong
  rw [x0, m28]
  have e00 : (0 : Int32) = zI (0 : Nat) := rfl
  by_cases c0 : n = 0
  · subst c0
    have c0' : zI ((0 : Nat) : Int) = 0 := rfl
    rw [if_pos c0', if_pos c0']
    exact ⟨_, _, rfl, rfl, h'⟩
  · have c0' : ¬ zI (n : Int) = 0 := by
      rw [e00, zI_eq (by omega) (by omega) (by omega) (by omega)]
      omega
    rw [if_neg c0', if_neg c0']
    have hin : f_M_isIn (zI z).toInt64 0 2 σm = some (if 0 ≤ z ∧ z ≤ 2 then zI 1 else zI 0) := by
      simp (disch := omega) only [zI_lit, zJ_lit, zI_neg, zJ_neg, zI_add, zI_sub, zI_mul, zJ_add, zJ_sub, zJ_mul, zI_lt, zI_le, zI_eq, zJ_lt, zJ_le, zJ_eq, zJ_w, zJ_n, in_z, zI_cl, zI_in, nz_z, nzJ_z, iMin_z, iMax_z, lg_cmp_lt, lg_cmp_le, lg_cmp_gt, lg_cmp_ge, lg_cmp_eq, lt_q, gd_q, bp_q, bd_q, Int.toNat_natCast, Int.toNat_zero, Int.toNat_one, Int.reduceToNat, ite_true, ite_false, bz, isB_i, isB0, isB1]
    rw [hin, bp_s]
    have hb0 : ((if 0 ≤ z ∧ z ≤ 2 then zI 1 else zI 0) = (0 : Int32)) ↔ ¬ (0 ≤ z ∧ z ≤ 2) := bz
    have lt1 : (zI z < (0 : Int32)) ↔ z < 0 := by
      have : (0 : Int32) = zI 0 := rfl
      rw [this, zI_lt (by omega) (by omega) (by omega) (by omega)]
    have lt2 : (zI z ≤ (2 : Int32)) ↔ z ≤ 2 := by
      have : (2 : Int32) = zI 2 := rfl
      rw [this, zI_le (by omega) (by omega) (by omega) (by omega)]
    by_cases q : 0 ≤ z ∧ z ≤ 2
    · rw [if_neg (fun e => hb0.mp e q), if_neg (fun e => by have := lt1.mp e; omega), if_pos (lt2.mpr q.2)]
      obtain ⟨t, ht, x1, m29, hse⟩ := hS (by omega)
      obtain ⟨σ1, q1, q2, q3⟩ := x_load hw hx hX.2.1 (t := t) ht
      have m3 : sA σm 11 3 = _ := hM.2.2.2.1.1 3 (by omega)
      have m4 : sA σm 11 4 = _ := hM.2.2.2.1.1 4 (by omega)
      have s28 : sA σ1 28 = sA σx 28 := q3.2.2.2.2.2.2.2.2.2.2.2.2.2.2.2.1
      have s0 : sI σ1 0 = zI n := by rw [q3.1.1, x0]
      have hseX : ∀ k, k < n → sA σ1 28 k = sA σm 14 k := fun k hk => by rw [s28]; exact hse k hk
      obtain ⟨r, u, w1, w2⟩ := strong_loop hw hm ht q2 m29 m3 m4 hbe hsl s0 m28 hn hseX (p := zI z) 99 1 0 (-1) (-1) (sI σ1 25) FU FU (by omega) (FU_gt (by omega)) (FU_gt (by omega)) (by omega)
      rw [uI_same] at w1
      rw [x1, q1, bp_s]
      exact ⟨r, _, w1, w2, Rel_eX h' (eX_t q3 (eX_25 σ1 u))⟩
    · rw [if_pos (hb0.mpr q)]
      refine ⟨_, _, ?_, rfl, h'⟩
      by_cases c1 : z < 0
      · rw [if_pos (lt1.mpr c1)]
      · rw [if_neg (fun e => c1 (lt1.mp e)), if_neg (fun e => by have := lt2.mp e; omega)]
section
variable {d : FD} {c : Nat → Nat} {t n l : Nat} {σx σm : St}
theorem next_loop (hw : wfD d) (hm : MD d σm) (ht : t < nT d) (hL : xL 25 16 d c t (c 3) σx) (m29 : sI σm 29 = zI t) (m3 : sA σm 11 3 = zI (c 3)) (m4 : sA σm 11 4 = zI (c 4)) (hb : c 3 ≤ 99) (hsl : c 4 ≤ 90) (x0 : sI σx 0 = zI n) (hn : n ≤ 4) (hl : l ≤ 1) :
    ∀ (j o cnt q q' : Nat), o + j = tV d t 1 + 1 → j < q → j < q' → cnt + j ≤ 6 → ∃ r : Int32, f_BH_next_51 q (zI l) (zI cnt) (zI o) σx = some (r, σx) ∧ f_M_next_52 q' (zI l) (zI (td (tV d t 0) (tV d t 2) n)) (zI cnt) (zI o) σm = some r := by
  have hL' := hL
  obtain ⟨⟨l0, l1, l2, -⟩, ⟨l6, l7, -⟩, -⟩ := hL
  simp only [Nat.reduceAdd] at l0 l1 l2 l6 l7
  have hT := hw.2.2.2.2.1 t ht
  obtain ⟨f1, f2, a1, t1, -⟩ := hw.2.2.2.2.1 t ht
  have mt1 : f_M_trierOf (zI t) 1 σm = _ := m_trierOf (j := 1) hw hm ht (by omega)
  intro j
  induction j with
  | zero =>
    intro o cnt q q' h1 h2 h3 h4
    obtain ⟨q, rfl⟩ : ∃ r, q = r + 1 := ⟨q - 1, by omega⟩
    obtain ⟨q', rfl⟩ : ∃ r, q' = r + 1 := ⟨q' - 1, by omega⟩
    unfold f_BH_next_51 f_M_next_52 f_BH_next_51b f_M_next_52b
    have c1 : zI (tV d t 1) < zI (o : Int) := by
      rw [zI_lt (by omega) (by omega) (by omega) (by omega)]
      omega
    have c2 : (0 : Int32) < zI ((tV d t 1 + 1 : Nat) : Int) := by
      have : (0 : Int32) = zI 0 := rfl
      rw [this, zI_lt (by omega) (by omega) (by omega) (by omega)]
      omega
    rw [l1, m29, mt1, bp_s, if_pos c1, if_pos c1, bp_s, zS, lt_s', if_pos c2, nz_z (by omega) (by omega) (by omega), gd_t, gd_t]
    exact ⟨_, rfl, rfl⟩
  | succ j ih =>
    intro o cnt q q' h1 h2 h3 h4
    obtain ⟨q, rfl⟩ : ∃ r, q = r + 1 := ⟨q - 1, by omega⟩
    obtain ⟨q', rfl⟩ : ∃ r, q' = r + 1 := ⟨q' - 1, by omega⟩
    unfold f_BH_next_51 f_M_next_52 f_BH_next_51b f_M_next_52b f_Turn_isRing_2
    have c1 : ¬ zI (tV d t 1) < zI (o : Int) := by
      rw [zI_lt (by omega) (by omega) (by omega) (by omega)]
      omega
    have b2 := td_b1 (ti := tV d t 2) (k := n) f2
    have b3 := rz_b (o := o) (s := if l = 0 then 0 else c 4) b2
    rw [l1, m29, mt1, bp_s, if_neg c1, if_neg c1, x0, x_height hL' hT hb hsl hn (by omega) hl, bp_s, m_heightBy' σm b2 (by omega) hsl hl m4, bp_s, cl3, m3, l6]
    simp only [zS, lt_q]
    have hg : (zI (hG (c 3) (c 4) (tV d t 0) (tV d t 2) n o l) < zI (c 3)) ↔ zI (rz (td (tV d t 0) (tV d t 2) n) o (if l = 0 then 0 else c 4)) < zI (c 3) := by
      have := hG_b (be := c 3) (sl := c 4) (f := tV d t 0) (ti := tV d t 2) (k := n) (o := o) (l := l)
      rw [zI_lt (by omega) (by omega) (by omega) (by omega), zI_lt (by omega) (by omega) (by omega) (by omega)]
      unfold hG
      omega
    by_cases g : zI (hG (c 3) (c 4) (tV d t 0) (tV d t 2) n o l) < zI (c 3)
    · rw [if_pos g, if_pos (hg.mp g), bp_s, if_pos rfl]
      exact ih (o + 1) cnt q q' (by omega) (by omega) (by omega) (by omega)
    · rw [if_neg g, if_neg (fun e => g (hg.mpr e)), bp_s, if_neg (by decide)]
      exact ih (o + 1) (cnt + 1) q q' (by omega) (by omega) (by omega) (by omega)
end
theorem sim_next : Sim_next Rel := by
  intro a1 σx σm h hl
  obtain ⟨l, hl', rfl, -⟩ := yn hl
  have h' := h
  obtain ⟨hQ, d, hw, hx, hm, hS, a, w, hs, ks, hh, hX, hM⟩ := h
  obtain ⟨n, hn, x0, m28, hS⟩ := hS
  have hc := hh.2.1 a (Nat.le_refl a)
  have hbe := hc.2.2.2.2.1
  have hsl := hc.2.2.2.2.2.1
  have hst := hw.2.2.2.2.2.1
  unfold f_BH_next f_M_next
  have s3 : sA σx 25 3 = zI (sV d 0) := hx.2.2.2.2.2.1 0 (by omega)
  rw [x0, m28, m_told2 hm, bp_s, cl3, s3]
  have e00 : (0 : Int32) = zI (0 : Nat) := rfl
  by_cases c0 : n = 0
  · subst c0
    have c0' : zI ((0 : Nat) : Int) = 0 := rfl
    rw [if_pos c0', if_pos c0']
    exact ⟨_, _, rfl, rfl, h'⟩
  · have c0' : ¬ zI (n : Int) = 0 := by
      rw [e00, zI_eq (by omega) (by omega) (by omega) (by omega)]
      omega
    rw [if_neg c0', if_neg c0']
    by_cases c1 : zI (n : Int) < zI (sV d 0)
    · rw [if_pos c1, if_pos c1]
      obtain ⟨t, ht, x1, m29, hse⟩ := hS (by omega)
      obtain ⟨f1, f2, a1, t1, -⟩ := hw.2.2.2.2.1 t ht
      obtain ⟨σ1, q1, q2, q3⟩ := x_load hw hx hX.2.1 (t := t) ht
      have m3 : sA σm 11 3 = _ := hM.2.2.2.1.1 3 (by omega)
      have m4 : sA σm 11 4 = _ := hM.2.2.2.1.1 4 (by omega)
      have s0 : sI σ1 0 = zI n := by rw [q3.1.1, x0]
      have mt0 : f_M_trierOf (zI t) 0 σm = _ := m_trierOf (j := 0) hw hm ht (by omega)
      have mt2 : f_M_trierOf (zI t) 2 σm = _ := m_trierOf (j := 2) hw hm ht (by omega)
      rw [x1, q1, bp_s, m29, mt0, bp_s, mt2, bp_s, m_tiredBy σm f2 t1 (by omega), bp_s]
      obtain ⟨r, w1, w2⟩ := next_loop hw hm ht q2 m29 m3 m4 hbe hsl s0 hn hl' (tV d t 1 + 1) 0 0 FU FU (by omega) (FU_gt (by omega)) (FU_gt (by omega)) (by omega)
      exact ⟨r, _, w1, w2, Rel_eX h' q3⟩
    · rw [if_neg c1, if_neg c1]
      exact ⟨_, _, rfl, rfl, h'⟩
section
variable {d : FD} {c : Nat → Nat} {t j : Nat} {σx σm : St}
theorem m_high0 {o l : Nat} (hw : wfD d) (hm : MD d σm) (ht : t < nT d) (m3 : sA σm 11 3 = zI (c 3)) (m4 : sA σm 11 4 = zI (c 4)) (hb : c 3 ≤ 99) (hsl : c 4 ≤ 90) (ho : o ≤ 9) (hl : l ≤ 1) : f_M_high (zI t) 0 (zI o) (zI l) σm = some (zI (hG (c 3) (c 4) (tV d t 0) (tV d t 2) 0 o l)) := by
  have hn := hw.2.1
  unfold f_M_high
  rw [m_isTrier hw hm (by omega) (by omega), bp_s, if_neg (fun e => bz0.mp e (by omega))]
  have i1 : f_M_isIn (0 : Int32).toInt64 0 3 σm = some 1 := rfl
  have i2 : f_M_isIn (zI (o : Int)).toInt64 0 9 σm = some (if 0 ≤ (o : Int) ∧ (o : Int) ≤ 9 then zI 1 else zI 0) := by
    simp (disch := omega) only [zI_lit, zJ_lit, zI_neg, zJ_neg, zI_add, zI_sub, zI_mul, zJ_add, zJ_sub, zJ_mul, zI_lt, zI_le, zI_eq, zJ_lt, zJ_le, zJ_eq, zJ_w, zJ_n, in_z, zI_cl, zI_in, nz_z, nzJ_z, iMin_z, iMax_z, lg_cmp_lt, lg_cmp_le, lg_cmp_gt, lg_cmp_ge, lg_cmp_eq, lt_q, gd_q, bp_q, bd_q, Int.toNat_natCast, Int.toNat_zero, Int.toNat_one, Int.reduceToNat, ite_true, ite_false, bz, isB_i, isB0, isB1]
  rw [i1, bp_s, if_neg (by decide), i2, bp_s, if_neg (fun e => bz0.mp e (by omega)), cl3, m3]
  have e00 : (0 : Int32) = zI (0 : Nat) := rfl
  exact m_height (k := 0) hm hw ht m4 hsl hb (by omega) ho hl some
theorem tell_loop (hw : wfD d) (ht : t < nT d) (hL : xL 25 16 d c t (c 3) σx) (hb : c 3 ≤ 99) (hsl : c 4 ≤ 90) (hj : j ≤ 9) {A B : Nat} (hA : A ≤ 99) (hB : B ≤ 99) :
    ∀ (m o q : Nat), o + m = j + 1 → m < q → (f_BH_isTellingOff_25 q (zI j) (zI A) (zI B) (zI o) σx = some 1 ∧ ∀ o', o ≤ o' → o' ≤ j → hG (c 3) (c 4) (tV d t 0) (tV d t 2) 0 o' 1 ≠ A ∧ hG (c 3) (c 4) (tV d t 0) (tV d t 2) 0 o' 0 ≠ B) ∨ (f_BH_isTellingOff_25 q (zI j) (zI A) (zI B) (zI o) σx = some 0 ∧ ∃ o', o' ≤ j ∧ (hG (c 3) (c 4) (tV d t 0) (tV d t 2) 0 o' 1 = A ∨ hG (c 3) (c 4) (tV d t 0) (tV d t 2) 0 o' 0 = B)) := by
  have hT := hw.2.2.2.2.1 t ht
  intro m
  induction m with
  | zero =>
    intro o q h1 h2
    obtain ⟨q, rfl⟩ : ∃ r, q = r + 1 := ⟨q - 1, by omega⟩
    unfold f_BH_isTellingOff_25 f_BH_isTellingOff_25b
    rw [if_pos (by rw [zI_lt (by omega) (by omega) (by omega) (by omega)]; omega)]
    exact .inl ⟨rfl, fun o' g1 g2 => by omega⟩
  | succ m ih =>
    intro o q h1 h2
    obtain ⟨q, rfl⟩ : ∃ r, q = r + 1 := ⟨q - 1, by omega⟩
    unfold f_BH_isTellingOff_25 f_BH_isTellingOff_25b
    have x1 : f_Turn_height 0 (zI o) 1 σx = _ := x_height (k := 0) (l := 1) hL hT hb hsl (by omega) (show o ≤ 9 by omega) (by omega)
    have x0 : f_Turn_height 0 (zI o) 0 σx = _ := x_height (k := 0) (l := 0) hL hT hb hsl (by omega) (show o ≤ 9 by omega) (by omega)
    have b1 := hG_b (be := c 3) (sl := c 4) (f := tV d t 0) (ti := tV d t 2) (k := 0) (o := o) (l := 1)
    have b0 := hG_b (be := c 3) (sl := c 4) (f := tV d t 0) (ti := tV d t 2) (k := 0) (o := o) (l := 0)
    rw [if_neg (by rw [zI_lt (by omega) (by omega) (by omega) (by omega)]; omega), x1, bp_s, x0, bp_s]
    by_cases g1 : hG (c 3) (c 4) (tV d t 0) (tV d t 2) 0 o 1 = A
    · rw [g1, if_pos rfl]
      exact .inr ⟨rfl, o, by omega, .inl g1⟩
    · rw [if_neg (by rw [zI_eq (by omega) (by omega) (by omega) (by omega)]; omega)]
      by_cases g2 : hG (c 3) (c 4) (tV d t 0) (tV d t 2) 0 o 0 = B
      · rw [g2, if_pos rfl]
        exact .inr ⟨rfl, o, by omega, .inr g2⟩
      · rw [if_neg (by rw [zI_eq (by omega) (by omega) (by omega) (by omega)]; omega), zS, lt_s']
        rcases ih (o + 1) q (by omega) (by omega) with ⟨e, hh⟩ | ⟨e, hh⟩
        · refine .inl ⟨e, fun o' w1 w2 => ?_⟩
          by_cases w3 : o' = o
          · subst w3; exact ⟨g1, g2⟩
          · exact hh o' (by omega) w2
        · exact .inr ⟨e, hh⟩
theorem clear_in (hw : wfD d) (hm : MD d σm) (ht : t < nT d) (m3 : sA σm 11 3 = zI (c 3)) (m4 : sA σm 11 4 = zI (c 4)) (hb : c 3 ≤ 99) (hsl : c 4 ≤ 90) (hj : j ≤ 9) {a : Nat} (ha : a ≤ j) (K : Int32 → Int32 → Int32 → St → Option Int32) :
    ∀ (m o q : Nat), o + m = j + 1 → m < q → (f_M_isClear_10 K q (zI t) (zI j) (zI a) (zI o) σm = K (zI t) (zI j) (zI (a + 1 : Nat)) σm ∧ ∀ o', o ≤ o' → o' ≤ j → hG (c 3) (c 4) (tV d t 0) (tV d t 2) 0 a 0 ≠ hG (c 3) (c 4) (tV d t 0) (tV d t 2) 0 o' 1) ∨ (f_M_isClear_10 K q (zI t) (zI j) (zI a) (zI o) σm = some 0 ∧ ∃ o', o' ≤ j ∧ hG (c 3) (c 4) (tV d t 0) (tV d t 2) 0 a 0 = hG (c 3) (c 4) (tV d t 0) (tV d t 2) 0 o' 1) := by
  intro m
  induction m with
  | zero =>
    intro o q h1 h2
    obtain ⟨q, rfl⟩ : ∃ r, q = r + 1 := ⟨q - 1, by omega⟩
    unfold f_M_isClear_10 f_M_isClear_10b
    rw [if_pos (by rw [zI_lt (by omega) (by omega) (by omega) (by omega)]; omega), zS, lt_s']
    exact .inl ⟨rfl, fun o' g1 g2 => by omega⟩
  | succ m ih =>
    intro o q h1 h2
    obtain ⟨q, rfl⟩ : ∃ r, q = r + 1 := ⟨q - 1, by omega⟩
    unfold f_M_isClear_10 f_M_isClear_10b
    have x0 : f_M_high (zI t) 0 (zI a) 0 σm = _ := m_high0 (o := a) (l := 0) hw hm ht m3 m4 hb hsl (by omega) (by omega)
    have x1 : f_M_high (zI t) 0 (zI o) 1 σm = _ := m_high0 (o := o) (l := 1) hw hm ht m3 m4 hb hsl (by omega) (by omega)
    have b1 := hG_b (be := c 3) (sl := c 4) (f := tV d t 0) (ti := tV d t 2) (k := 0) (o := o) (l := 1)
    have b0 := hG_b (be := c 3) (sl := c 4) (f := tV d t 0) (ti := tV d t 2) (k := 0) (o := a) (l := 0)
    rw [if_neg (by rw [zI_lt (by omega) (by omega) (by omega) (by omega)]; omega), x0, bp_s, x1, bp_s]
    by_cases g1 : hG (c 3) (c 4) (tV d t 0) (tV d t 2) 0 a 0 = hG (c 3) (c 4) (tV d t 0) (tV d t 2) 0 o 1
    · rw [g1, if_pos rfl]
      exact .inr ⟨rfl, o, by omega, rfl⟩
    · rw [if_neg (by rw [zI_eq (by omega) (by omega) (by omega) (by omega)]; omega), zS, lt_s']
      rcases ih (o + 1) q (by omega) (by omega) with ⟨e, hh⟩ | ⟨e, hh⟩
      · refine .inl ⟨e, fun o' w1 w2 => ?_⟩
        by_cases w3 : o' = o
        · subst w3; exact g1
        · exact hh o' (by omega) w2
      · exact .inr ⟨e, hh⟩
theorem clear_out (hw : wfD d) (hm : MD d σm) (ht : t < nT d) (m3 : sA σm 11 3 = zI (c 3)) (m4 : sA σm 11 4 = zI (c 4)) (hb : c 3 ≤ 99) (hsl : c 4 ≤ 90) (hj : j ≤ 9) :
    ∀ (m a q : Nat), a + m = j + 1 → m < q → (f_M_isClear_2 q (zI t) (zI j) (zI a) σm = some 1 ∧ ∀ a' o', a ≤ a' → a' ≤ j → o' ≤ j → hG (c 3) (c 4) (tV d t 0) (tV d t 2) 0 a' 0 ≠ hG (c 3) (c 4) (tV d t 0) (tV d t 2) 0 o' 1) ∨ (f_M_isClear_2 q (zI t) (zI j) (zI a) σm = some 0 ∧ ∃ a' o', a' ≤ j ∧ o' ≤ j ∧ hG (c 3) (c 4) (tV d t 0) (tV d t 2) 0 a' 0 = hG (c 3) (c 4) (tV d t 0) (tV d t 2) 0 o' 1) := by
  intro m
  induction m with
  | zero =>
    intro a q h1 h2
    obtain ⟨q, rfl⟩ : ∃ r, q = r + 1 := ⟨q - 1, by omega⟩
    unfold f_M_isClear_2 f_M_isClear_2b
    rw [if_pos (by rw [zI_lt (by omega) (by omega) (by omega) (by omega)]; omega)]
    exact .inl ⟨rfl, fun a' o' g1 g2 => by omega⟩
  | succ m ih =>
    intro a q h1 h2
    obtain ⟨q, rfl⟩ : ∃ r, q = r + 1 := ⟨q - 1, by omega⟩
    unfold f_M_isClear_2 f_M_isClear_2b
    rw [if_neg (by rw [zI_lt (by omega) (by omega) (by omega) (by omega)]; omega)]
    have e00 : (0 : Int32) = zI (0 : Nat) := rfl
    rcases clear_in hw hm ht m3 m4 hb hsl hj (a := a) (by omega) (f_M_isClear_2 q) (j + 1) 0 FU (by omega) (FU_gt (by omega)) with ⟨e, hh⟩ | ⟨e, o', w1, w2⟩
    · rw [e00, e]
      rcases ih (a + 1) q (by omega) (by omega) with ⟨e2, hh2⟩ | ⟨e2, hh2⟩
      · refine .inl ⟨e2, fun a' o' w1 w2 w3 => ?_⟩
        by_cases w4 : a' = a
        · subst w4; exact hh o' (by omega) w3
        · exact hh2 a' o' (by omega) w2 w3
      · exact .inr ⟨e2, hh2⟩
    · rw [e00, e]
      exact .inr ⟨rfl, a, o', by omega, w1, w2⟩
theorem clear_loop (hw : wfD d) (hm : MD d σm) (ht : t < nT d) (hL : xL 25 16 d c t (c 3) σx) (m3 : sA σm 11 3 = zI (c 3)) (m4 : sA σm 11 4 = zI (c 4)) (hb : c 3 ≤ 99) (hsl : c 4 ≤ 90) :
    ∀ (m k q q' : Nat), k + m = 10 → m < q → m < q' → (∀ a o, a < k → o < k → hG (c 3) (c 4) (tV d t 0) (tV d t 2) 0 a 0 ≠ hG (c 3) (c 4) (tV d t 0) (tV d t 2) 0 o 1) → ∃ r : Int32, f_BH_clear_33 q (zI ((k : Int) - 1)) (zI k) σx = some (r, σx) ∧ f_M_clear_12 q' (zI t) (zI ((k : Int) - 1)) σm = some r := by
  have hT := hw.2.2.2.2.1 t ht
  intro m
  induction m with
  | zero =>
    intro k q q' h1 h2 h3 h4
    obtain ⟨q, rfl⟩ : ∃ r, q = r + 1 := ⟨q - 1, by omega⟩
    obtain ⟨q', rfl⟩ : ∃ r, q' = r + 1 := ⟨q' - 1, by omega⟩
    unfold f_BH_clear_33 f_M_clear_12 f_BH_clear_33b f_M_clear_12b
    have e9 : (9 : Int32) = zI 9 := rfl
    rw [e9, if_pos (by rw [zI_lt (by omega) (by omega) (by omega) (by omega)]; omega), if_pos (by rw [zI_le (by omega) (by omega) (by omega) (by omega)]; omega)]
    exact ⟨_, rfl, rfl⟩
  | succ m ih =>
    intro k q q' h1 h2 h3 h4
    obtain ⟨q, rfl⟩ : ∃ r, q = r + 1 := ⟨q - 1, by omega⟩
    obtain ⟨q', rfl⟩ : ∃ r, q' = r + 1 := ⟨q' - 1, by omega⟩
    unfold f_BH_clear_33 f_M_clear_12 f_BH_clear_33b f_M_clear_12b
    have e9 : (9 : Int32) = zI 9 := rfl
    have ek : zI ((k : Int) - 1) + 1 = zI (k : Int) := by
      rw [zI_lit, zI_add]
      congr 1
      omega
    have ek2 : zI (k : Int) = zI (((k + 1 : Nat) : Int) - 1) := by
      congr 1
      omega
    rw [e9, if_neg (by rw [zI_lt (by omega) (by omega) (by omega) (by omega)]; omega), if_neg (by rw [zI_le (by omega) (by omega) (by omega) (by omega)]; omega), ek]
    have x0 : f_Turn_height 0 (zI k) 0 σx = _ := x_height (k := 0) (l := 0) hL hT hb hsl (by omega) (show k ≤ 9 by omega) (by omega)
    have x1 : f_Turn_height 0 (zI k) 1 σx = _ := x_height (k := 0) (l := 1) hL hT hb hsl (by omega) (show k ≤ 9 by omega) (by omega)
    have b1 := hG_b (be := c 3) (sl := c 4) (f := tV d t 0) (ti := tV d t 2) (k := 0) (o := k) (l := 1)
    have b0 := hG_b (be := c 3) (sl := c 4) (f := tV d t 0) (ti := tV d t 2) (k := 0) (o := k) (l := 0)
    unfold f_BH_isTellingOff f_M_isClear
    rw [x0, bp_s, x1, bp_s]
    have e00 : (0 : Int32) = zI (0 : Nat) := rfl
    have T := tell_loop hw ht hL hb hsl (j := k) (by omega) (A := hG (c 3) (c 4) (tV d t 0) (tV d t 2) 0 k 0) (B := hG (c 3) (c 4) (tV d t 0) (tV d t 2) 0 k 1) (by omega) (by omega) (k + 1) 0 FU (by omega) (FU_gt (by omega))
    have C := clear_out hw hm ht m3 m4 hb hsl (j := k) (by omega) (k + 1) 0 FU (by omega) (FU_gt (by omega))
    rw [← e00] at T C
    rcases T with ⟨T1, T2⟩ | ⟨T1, o', T2, T3⟩
    · rcases C with ⟨C1, C2⟩ | ⟨C1, a', o', C2, C3, C4⟩
      · rw [T1, C1, bp_s, bp_s, if_neg (by decide), if_neg (by decide), zS, lt_s', lt_s', ek2]
        exact ih (k + 1) q q' (by omega) (by omega) (by omega) (fun a o w1 w2 => C2 a o (by omega) (by omega) (by omega))
      · exfalso
        by_cases w1 : a' = k
        · subst w1
          exact (T2 o' (by omega) C3).1 C4.symm
        · by_cases w2 : o' = k
          · subst w2
            exact (T2 a' (by omega) C2).2 C4
          · exact h4 a' o' (by omega) (by omega) C4
    · rcases C with ⟨C1, C2⟩ | ⟨C1, a', o', C2, C3, C4⟩
      · exfalso
        rcases T3 with T3 | T3
        · exact C2 k o' (by omega) (by omega) T2 T3.symm
        · exact C2 o' k (by omega) T2 (by omega) T3
      · rw [T1, C1, bp_s, bp_s, if_pos rfl, if_pos rfl]
        exact ⟨_, rfl, rfl⟩
end
theorem sim_clear : Sim_clear Rel := by
  intro a1 σx σm h
  obtain ⟨z, h1, h2, rfl⟩ := zI_of a1
  have h' := h
  obtain ⟨hQ, d, hw, hx, hm, hS, a, w, hs, ks, hh, hX, hM⟩ := h
  have hc := hh.2.1 a (Nat.le_refl a)
  unfold f_BH_clear f_M_clear
  rw [x_isTrier hw hx h1 h2, m_isTrier hw hm h1 h2, bp_s, bp_s]
  by_cases c : 0 ≤ z ∧ z < nT d
  · rw [if_neg (fun e => bz0.mp e c), if_neg (fun e => bz0.mp e c)]
    obtain ⟨t, rfl⟩ := Int.eq_ofNat_of_zero_le c.1
    obtain ⟨σ1, q1, q2, q3⟩ := x_load hw hx hX.2.1 (t := t) (by omega)
    obtain ⟨r, w1, w2⟩ := clear_loop hw hm (by omega) q2 (hM.2.2.2.1.1 3 (by omega)) (hM.2.2.2.1.1 4 (by omega)) hc.2.2.2.2.1 hc.2.2.2.2.2.1 10 0 FU FU (by omega) (FU_gt (by omega)) (FU_gt (by omega)) (fun a o w => by omega)
    rw [q1, bp_s]
    exact ⟨r, _, w1, w2, Rel_eX h' q3⟩
  · rw [if_pos (bz0.mpr c), if_pos (bz0.mpr c)]
    exact ⟨_, _, rfl, rfl, h'⟩
