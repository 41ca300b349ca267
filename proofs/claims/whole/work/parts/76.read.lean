-- ===== X's reader steps =====
theorem rn_end {P : Nat → Bool} {b : Nat → Nat} {n : Nat} : ∀ m p, n - p ≤ m → p ≤ n → p + rn P b n p < n → P (b (p + rn P b n p)) = false := by
  intro m
  induction m with
  | zero =>
    intro p h1 h2 h3
    have : p = n := by omega
    subst this
    rw [rn_0] at h3
    omega
  | succ m ih =>
    intro p h1 h2 h3
    by_cases c : p = n
    · subst c
      rw [rn_0] at h3
      omega
    · cases hs : P (b p) with
      | true =>
        rw [rn_s (by omega) hs] at h3 ⊢
        have e : p + (rn P b n (p + 1) + 1) = p + 1 + rn P b n (p + 1) := by omega
        rw [e] at h3 ⊢
        exact ih (p + 1) (by omega) (by omega) h3
      | false =>
        rw [rn_n (by omega) hs, Nat.add_zero]
        exact hs
theorem lt_f {x : Nat} (h : isLt x = true) : 97 ≤ x ∧ x ≤ 122 := by
  unfold isLt at h
  simpa using h
theorem dg_f {x : Nat} (h : isDg x = true) : 48 ≤ x ∧ x ≤ 57 := by
  unfold isDg at h
  simpa using h
theorem nlt_f {x : Nat} (h : isLt x = false) : x < 97 ∨ 122 < x := by
  unfold isLt at h
  simp only [Bool.and_eq_false_iff, decide_eq_false_iff_not] at h
  omega
theorem ndg_f {x : Nat} (h : isDg x = false) : x < 48 ∨ 57 < x := by
  unfold isDg at h
  simp only [Bool.and_eq_false_iff, decide_eq_false_iff_not] at h
  omega
section
variable {b : Nat → Nat} {n : Nat}
theorem tX_o {σ σ' : St} {I J A B : List Nat} (h : tX' b n σ) (o : oS I J A B σ σ') (h6 : 6 ∉ I) (h0 : 0 ∉ A) : tX' b n σ' := by
  obtain ⟨a1, a2, a3, a4⟩ := h
  exact ⟨a1, by rw [o.1 6 h6]; exact a2, fun k hk => by rw [o.2.2.1 0 h0]; exact a3 k hk, a4⟩
/-- padding -/
theorem x_pad : ∀ (m k v q : Nat) (σ : St), k + m = 6 → m < q → sI σ 11 = zI v → ∃ σ1, f_Reader_readWord_102 q (zI k) σ = some σ1 ∧ oS [11] [] [] [] σ σ1 ∧ sI σ1 11 = zI (v * 27 ^ m : Nat) := by
  intro m
  induction m with
  | zero =>
    intro k v q σ h1 h2 hv
    obtain ⟨q, rfl⟩ : ∃ r, q = r + 1 := ⟨q - 1, by omega⟩
    have e6 : (6 : Int32) = zI (6 : Nat) := rfl
    refine ⟨σ, ?_, oS_r, by rw [Nat.pow_zero, Nat.mul_one]; exact hv⟩
    show f_Reader_readWord_102b (f_Reader_readWord_102 q) (zI k) σ = _
    unfold f_Reader_readWord_102b
    rw [e6, if_pos (by rw [zI_le (by omega) (by omega) (by omega) (by omega)]; omega)]
  | succ m ih =>
    intro k v q σ h1 h2 hv
    obtain ⟨q, rfl⟩ : ∃ r, q = r + 1 := ⟨q - 1, by omega⟩
    have e6 : (6 : Int32) = zI (6 : Nat) := rfl
    have e27 : (27 : Int32) = zI (27 : Nat) := rfl
    obtain ⟨σ1, a1, a2, a3⟩ := ih (k + 1) (v * 27) q (uI σ 11 (zI (v * 27 : Nat))) (by omega) (by omega) rfl
    refine ⟨σ1, ?_, oS_t (oS_uI (by decide) oS_r) a2, ?_⟩
    · rw [← a1]
      show f_Reader_readWord_102b (f_Reader_readWord_102 q) (zI k) σ = _
      unfold f_Reader_readWord_102b
      rw [e6, if_neg (by rw [zI_le (by omega) (by omega) (by omega) (by omega)]; omega), hv, e27, zI_mul, ← Int.natCast_mul, zS, lt_s', lt_s']
    · rw [a3, Nat.mul_assoc, Nat.pow_succ, Nat.mul_comm (27 ^ m) 27]
theorem x_word {s : Nat} {σ0 : St} (hT : tX' b n σ0) (hs : s ≤ n) : ∀ (m k q : Nat) (σ : St), k + m = rn isLt b n s → m < q → oS [7, 10, 11] [] [] [] σ0 σ → sI σ 7 = zI (s + k : Nat) → sI σ 10 = zI k → sI σ 11 = zI (nvL b s (min 6 k)) → ∃ σ1, f_Reader_readWord_0 q σ = some σ1 ∧ oS [7, 10, 11] [] [] [] σ0 σ1 ∧ sI σ1 7 = zI (s + rn isLt b n s : Nat) ∧ sI σ1 10 = zI (rn isLt b n s) ∧ sI σ1 11 = zI (wvP b s (rn isLt b n s)) := by
  have hrb := rn_b (P := isLt) (b := b) hs
  obtain ⟨hn, t6, tb, tbl⟩ := id hT
  intro m
  induction m with
  | zero =>
    intro k q σ h1 h2 o h7 h10 h11
    obtain ⟨q, rfl⟩ : ∃ r, q = r + 1 := ⟨q - 1, by omega⟩
    have ek : k = rn isLt b n s := by omega
    have q6 : sI σ 6 = zI n := by rw [o.1 6 (by decide)]; exact t6
    -- the pad
    have pad : ∃ σ1, f_Reader_readWord_102 FU (zI k) σ = some σ1 ∧ oS [7, 10, 11] [] [] [] σ0 σ1 ∧ sI σ1 7 = zI (s + rn isLt b n s : Nat) ∧ sI σ1 10 = zI (rn isLt b n s) ∧ sI σ1 11 = zI (wvP b s (rn isLt b n s)) := by
      rw [ek] at h7 h10 h11
      rw [ek]
      by_cases c6 : rn isLt b n s ≤ 6
      · obtain ⟨σ1, a1, a2, a3⟩ := x_pad (6 - rn isLt b n s) (rn isLt b n s) (nvL b s (min 6 (rn isLt b n s))) FU σ (by omega) (FU_gt (by omega)) h11
        refine ⟨σ1, a1, oS_t o (oS_w a2 (by decide) (by decide) (by decide) (by decide)), by rw [a2.1 7 (by decide)]; exact h7, by rw [a2.1 10 (by decide)]; exact h10, ?_⟩
        rw [a3]
        unfold wvP nP
        have e : min 6 (rn isLt b n s) = rn isLt b n s := Nat.min_eq_right c6
        rw [e]
      · refine ⟨σ, ?_, o, h7, h10, ?_⟩
        · have e6 : (6 : Int32) = zI (6 : Nat) := rfl
          show f_Reader_readWord_102b (f_Reader_readWord_102 99999) (zI (rn isLt b n s)) σ = _
          unfold f_Reader_readWord_102b
          rw [e6, if_pos (by rw [zI_le (by omega) (by omega) (by omega) (by omega)]; omega)]
        · rw [h11]
          unfold wvP nP
          have e : min 6 (rn isLt b n s) = 6 := Nat.min_eq_left (by omega)
          rw [e, Nat.sub_self, Nat.pow_zero, Nat.mul_one]
    show ∃ σ1, f_Reader_readWord_0b (f_Reader_readWord_0 q) σ = _ ∧ _
    unfold f_Reader_readWord_0b
    rw [q6, h7, h10]
    by_cases c : s + k = n
    · rw [if_pos (by rw [zI_le (by omega) (by omega) (by omega) (by omega)]; omega), lt_s']
      exact pad
    · have hend := rn_end (P := isLt) (b := b) (n := n) (n - s) s (Nat.le_refl _) hs (by omega)
      rw [← ek] at hend
      have hx := tbl (s + k) (by omega)
      have hnl := nlt_f hend
      rw [if_neg (by rw [zI_le (by omega) (by omega) (by omega) (by omega)]; omega), zI_in (by omega) (by omega) (by omega), gd_t, zI_cl (by omega) (by omega), Int.toNat_natCast, o.2.2.1 0 (by decide), tb (s + k) (by omega)]
      by_cases c97 : b (s + k) < 97
      · rw [if_pos ((zb_97 hx).mpr c97), lt_s']
        exact pad
      · rw [if_neg (fun z => c97 ((zb_97 hx).mp z)), gd_t, if_pos ((zb_122 hx).mpr (by omega)), lt_s']
        exact pad
  | succ m ih =>
    intro k q σ h1 h2 o h7 h10 h11
    obtain ⟨q, rfl⟩ : ∃ r, q = r + 1 := ⟨q - 1, by omega⟩
    obtain ⟨hlt, hlt2⟩ := rn_all (P := isLt) (b := b) (n := n) (n - s) s (Nat.le_refl _) hs k (by omega)
    have q6 : sI σ 6 = zI n := by rw [o.1 6 (by decide)]; exact t6
    have e6 : (6 : Int32) = zI (6 : Nat) := rfl
    have hl := lt_f hlt
    have hx := tbl (s + k) hlt2
    have g97 : ¬ zI (b (s + k) : Int) < (97 : Int32) := fun z => by have := (zb_97 hx).mp z; omega
    have g122 : ¬ (122 : Int32) < zI (b (s + k) : Int) := fun z => by have := (zb_122 hx).mp z; omega
    have hA : sA σ 0 = sA σ0 0 := o.2.2.1 0 (by decide)
    -- the step
    have nxt : ∀ v, oS [7, 10, 11] [] [] [] σ0 (uI (uI (uI σ 11 v) 10 (zI (k + 1 : Nat))) 7 (zI (s + (k + 1) : Nat))) := fun v => oS_uI (by decide) (oS_uI (by decide) (oS_uI (by decide) o))
    have st74 : ∀ τ : St, (∃ v, τ = uI σ 11 v) → f_Reader_readWord_74 (f_Reader_readWord_0 q) τ = f_Reader_readWord_0 q (uI (uI τ 10 (zI (k + 1 : Nat))) 7 (zI (s + (k + 1) : Nat))) := by
      rintro τ ⟨v, rfl⟩
      unfold f_Reader_readWord_74
      have a10 : sI (uI σ 11 v) 10 = zI k := h10
      have a7 : ∀ w, sI (uI (uI σ 11 v) 10 w) 7 = zI (s + k : Nat) := fun w => h7
      rw [a10, zS, lt_s', a7, zS, lt_s']
      rfl
    have hstep : ∃ v, f_Reader_readWord_0 (q + 1) σ = f_Reader_readWord_0 q (uI (uI (uI σ 11 v) 10 (zI (k + 1 : Nat))) 7 (zI (s + (k + 1) : Nat))) ∧ v = zI (nvL b s (min 6 (k + 1))) := by
      by_cases c6 : 6 ≤ k
      · refine ⟨sI σ 11, ?_, ?_⟩
        · show f_Reader_readWord_0b (f_Reader_readWord_0 q) σ = _
          unfold f_Reader_readWord_0b
          rw [q6, h7, h10, if_neg (by rw [zI_le (by omega) (by omega) (by omega) (by omega)]; omega), zI_in (by omega) (by omega) (by omega), gd_t, zI_cl (by omega) (by omega), Int.toNat_natCast, hA, tb (s + k) hlt2, if_neg g97, gd_t, if_neg g122, e6, if_pos (by rw [zI_le (by omega) (by omega) (by omega) (by omega)]; omega)]
          have := st74 σ ⟨sI σ 11, (uI_same σ 11).symm⟩
          rw [this, uI_same]
        · rw [h11]
          have e1 : min 6 k = 6 := Nat.min_eq_left c6
          have e2 : min 6 (k + 1) = 6 := Nat.min_eq_left (by omega)
          rw [e1, e2]
      · have e1 : min 6 k = k := Nat.min_eq_right (by omega)
        have e2 : min 6 (k + 1) = k + 1 := Nat.min_eq_right (by omega)
        rw [e1] at h11
        rw [e2]
        have ev : ((zI (nvL b s k) * 27 + zI (b (s + k))) - 97 + 1 : Int32) = zI (nvL b s (k + 1)) := by
          have e : nvL b s (k + 1) = nvL b s k * 27 + (b (s + k) - 96) := rfl
          simp only [zI_lit, zI_mul, zI_add, zI_sub]
          congr 1
          rw [e]
          omega
        refine ⟨zI (nvL b s (k + 1)), ?_, rfl⟩
        show f_Reader_readWord_0b (f_Reader_readWord_0 q) σ = _
        unfold f_Reader_readWord_0b
        rw [q6, h7, h10, if_neg (by rw [zI_le (by omega) (by omega) (by omega) (by omega)]; omega), zI_in (by omega) (by omega) (by omega), gd_t, zI_cl (by omega) (by omega), Int.toNat_natCast, hA, tb (s + k) hlt2, if_neg g97, gd_t, if_neg g122, e6, if_neg (by rw [zI_le (by omega) (by omega) (by omega) (by omega)]; omega), gd_t, h11, ev, lt_s']
        exact st74 _ ⟨_, rfl⟩
    obtain ⟨v, hst, hv⟩ := hstep
    rw [hst, hv]
    exact ih (k + 1) q _ (by omega) (by omega) (nxt _) rfl rfl rfl
theorem x_numb {s : Nat} {σ0 : St} (hT : tX' b n σ0) (hs : s ≤ n) : ∀ (m k q : Nat) (σ : St), k + m = rn isDg b n s → m < q → oS [7, 10, 11] [] [] [] σ0 σ → sI σ 7 = zI (s + k : Nat) → sI σ 10 = zI k → sI σ 11 = zI (dvL b s (min 4 k)) → ∃ σ1, f_Reader_readNumber_0 q σ = some σ1 ∧ oS [7, 10, 11] [] [] [] σ0 σ1 ∧ sI σ1 7 = zI (s + rn isDg b n s : Nat) ∧ sI σ1 10 = zI (rn isDg b n s) ∧ sI σ1 11 = zI (dvL b s (min 4 (rn isDg b n s))) := by
  have hrb := rn_b (P := isDg) (b := b) hs
  obtain ⟨hn, t6, tb, tbl⟩ := id hT
  intro m
  induction m with
  | zero =>
    intro k q σ h1 h2 o h7 h10 h11
    obtain ⟨q, rfl⟩ : ∃ r, q = r + 1 := ⟨q - 1, by omega⟩
    have ek : k = rn isDg b n s := by omega
    have q6 : sI σ 6 = zI n := by rw [o.1 6 (by decide)]; exact t6
    refine ⟨σ, ?_, o, by rw [← ek]; exact h7, by rw [← ek]; exact h10, by rw [← ek]; exact h11⟩
    show f_Reader_readNumber_0b (f_Reader_readNumber_0 q) σ = _
    unfold f_Reader_readNumber_0b
    rw [q6, h7]
    by_cases c : s + k = n
    · rw [if_pos (by rw [zI_le (by omega) (by omega) (by omega) (by omega)]; omega)]
    · have hend := rn_end (P := isDg) (b := b) (n := n) (n - s) s (Nat.le_refl _) hs (by omega)
      rw [← ek] at hend
      have hx := tbl (s + k) (by omega)
      have hnd := ndg_f hend
      rw [if_neg (by rw [zI_le (by omega) (by omega) (by omega) (by omega)]; omega), zI_in (by omega) (by omega) (by omega), gd_t, zI_cl (by omega) (by omega), Int.toNat_natCast, o.2.2.1 0 (by decide), tb (s + k) (by omega)]
      by_cases c48 : b (s + k) < 48
      · rw [if_pos ((zb_48 hx).mpr c48)]
      · rw [if_neg (fun z => c48 ((zb_48 hx).mp z)), gd_t, if_pos ((zb_57 hx).mpr (by omega))]
  | succ m ih =>
    intro k q σ h1 h2 o h7 h10 h11
    obtain ⟨q, rfl⟩ : ∃ r, q = r + 1 := ⟨q - 1, by omega⟩
    obtain ⟨hlt, hlt2⟩ := rn_all (P := isDg) (b := b) (n := n) (n - s) s (Nat.le_refl _) hs k (by omega)
    have q6 : sI σ 6 = zI n := by rw [o.1 6 (by decide)]; exact t6
    have e4 : (4 : Int32) = zI (4 : Nat) := rfl
    have hl := dg_f hlt
    have hx := tbl (s + k) hlt2
    have g48 : ¬ zI (b (s + k) : Int) < (48 : Int32) := fun z => by have := (zb_48 hx).mp z; omega
    have g57 : ¬ (57 : Int32) < zI (b (s + k) : Int) := fun z => by have := (zb_57 hx).mp z; omega
    have hA : sA σ 0 = sA σ0 0 := o.2.2.1 0 (by decide)
    have nxt : ∀ v, oS [7, 10, 11] [] [] [] σ0 (uI (uI (uI σ 11 v) 10 (zI (k + 1 : Nat))) 7 (zI (s + (k + 1) : Nat))) := fun v => oS_uI (by decide) (oS_uI (by decide) (oS_uI (by decide) o))
    have st71 : ∀ τ : St, (∃ v, τ = uI σ 11 v) → f_Reader_readNumber_71 (f_Reader_readNumber_0 q) τ = f_Reader_readNumber_0 q (uI (uI τ 10 (zI (k + 1 : Nat))) 7 (zI (s + (k + 1) : Nat))) := by
      rintro τ ⟨v, rfl⟩
      unfold f_Reader_readNumber_71
      have a10 : sI (uI σ 11 v) 10 = zI k := h10
      have a7 : ∀ w, sI (uI (uI σ 11 v) 10 w) 7 = zI (s + k : Nat) := fun w => h7
      rw [a10, zS, lt_s', a7, zS, lt_s']
      rfl
    have hstep : ∃ v, f_Reader_readNumber_0 (q + 1) σ = f_Reader_readNumber_0 q (uI (uI (uI σ 11 v) 10 (zI (k + 1 : Nat))) 7 (zI (s + (k + 1) : Nat))) ∧ v = zI (dvL b s (min 4 (k + 1))) := by
      by_cases c6 : 4 ≤ k
      · refine ⟨sI σ 11, ?_, ?_⟩
        · show f_Reader_readNumber_0b (f_Reader_readNumber_0 q) σ = _
          unfold f_Reader_readNumber_0b
          rw [q6, h7, h10, if_neg (by rw [zI_le (by omega) (by omega) (by omega) (by omega)]; omega), zI_in (by omega) (by omega) (by omega), gd_t, zI_cl (by omega) (by omega), Int.toNat_natCast, hA, tb (s + k) hlt2, if_neg g48, gd_t, if_neg g57, e4, if_pos (by rw [zI_le (by omega) (by omega) (by omega) (by omega)]; omega)]
          have := st71 σ ⟨sI σ 11, (uI_same σ 11).symm⟩
          rw [this, uI_same]
        · rw [h11]
          have e1 : min 4 k = 4 := Nat.min_eq_left c6
          have e2 : min 4 (k + 1) = 4 := Nat.min_eq_left (by omega)
          rw [e1, e2]
      · have e1 : min 4 k = k := Nat.min_eq_right (by omega)
        have e2 : min 4 (k + 1) = k + 1 := Nat.min_eq_right (by omega)
        rw [e1] at h11
        rw [e2]
        have ev : ((zI (dvL b s k) * 10 + zI (b (s + k))) - 48 : Int32) = zI (dvL b s (k + 1)) := by
          have e : dvL b s (k + 1) = dvL b s k * 10 + (b (s + k) - 48) := rfl
          simp only [zI_lit, zI_mul, zI_add, zI_sub]
          congr 1
          rw [e]
          omega
        refine ⟨zI (dvL b s (k + 1)), ?_, rfl⟩
        show f_Reader_readNumber_0b (f_Reader_readNumber_0 q) σ = _
        unfold f_Reader_readNumber_0b
        rw [q6, h7, h10, if_neg (by rw [zI_le (by omega) (by omega) (by omega) (by omega)]; omega), zI_in (by omega) (by omega) (by omega), gd_t, zI_cl (by omega) (by omega), Int.toNat_natCast, hA, tb (s + k) hlt2, if_neg g48, gd_t, if_neg g57, e4, if_neg (by rw [zI_le (by omega) (by omega) (by omega) (by omega)]; omega), gd_t, h11, ev, lt_s']
        exact st71 _ ⟨_, rfl⟩
    obtain ⟨v, hst, hv⟩ := hstep
    rw [hst, hv]
    exact ih (k + 1) q _ (by omega) (by omega) (nxt _) rfl rfl rfl
end
