-- ===== M's tree =====
section
variable {d : FD} {c : Nat → Nat} {fo be t : Nat}
/-- a row of trier t -/
noncomputable def PR (d : FD) (c : Nat → Nat) (fo be t : Nat) (val : Nat → Nat → Nat → Nat → Nat) (r : Nat) : Nat := PV d c fo be t val (sV d 0) 0 (sV d 1) 0 0 0 r
noncomputable def TR (d : FD) (c : Nat → Nat) (fo be t : Nat) (val : Nat → Nat → Nat → Nat → Nat) : Nat := TS d c fo be t val (sV d 0) 0 (sV d 1) 0 0 0
theorem pw_b {B N : Nat} (hB : B ≤ 6) (hN : N ≤ 4) (h0 : 0 < B) : B ^ N ≤ 1296 := by
  have h1 : B ^ N ≤ 6 ^ N := Nat.pow_le_pow_left hB N
  have h2 : 6 ^ N ≤ 6 ^ 4 := Nat.pow_le_pow_right (by omega) hN
  omega
theorem rows_loop (hw : wfD d) (ht : t < nT d) (hfo : fo < 64) (hp : c 5 ≤ 9) (hsl : c 4 ≤ 90) (hb : be ≤ 99) :
    ∀ (n x5 q J1 J2 J3 J4 f g : Nat) (σ : St), x5 + n = (tV d t 1 + 1) ^ sV d 0 → n < q → MD d σ → sI σ 15 = zI fo → sI σ 16 = zI be → sA σ 11 4 = zI (c 4) → sA σ 11 5 = zI (c 5) → sJ σ 0 = zJ ((tV d t 1 + 1) ^ sV d 0 : Nat) → mR J1 J2 J3 J4 f g σ → f ≤ 4 → g ≤ 4 →
      ∃ (f' g' : Nat) (σ1 : St), f_M_grows_89 q (zI t) (zI (tV d t 1 + 1 : Nat)) (zI x5) σ = some σ1 ∧ oS [14, 17, 18, 19, 20, 21, 22, 23, 24, 25] [1, 2, 3, 4] [10] [1] σ σ1 ∧ mR (J1 + sm (PR d c fo be t vRg) n x5) (J2 + sm (PR d c fo be t vK) n x5 * c 5) (J3 + sm (PR d c fo be t vLf) n x5) (J4 + sm (PR d c fo be t vCr) n x5) f' g' σ1 ∧ (∀ x, x ≤ f' ↔ (x ≤ f ∧ ∀ r, x5 ≤ r → r < x5 + n → x ≤ PR d c fo be t vK r)) ∧ (∀ x, g' ≤ x ↔ (g ≤ x ∧ ∀ r, x5 ≤ r → r < x5 + n → PR d c fo be t vK r ≤ x)) ∧ f' ≤ 4 ∧ g' ≤ 4 := by
  obtain ⟨t1, t2, t3, t4, t5, t6, t7⟩ := hw.2.2.2.2.1 t ht
  obtain ⟨s1, s2, s3, s4, s5, s6, s7⟩ := hw.2.2.2.2.2.1
  have hpw := pw_b (B := tV d t 1 + 1) (N := sV d 0) (by omega) s2 (by omega)
  intro n
  induction n with
  | zero =>
    intro x5 q J1 J2 J3 J4 f g σ h1 h2 hd h15 h16 e4 e5 j0 hR hf hg
    obtain ⟨q, rfl⟩ : ∃ r, q = r + 1 := ⟨q - 1, by omega⟩
    refine ⟨f, g, σ, ?_, oS_r, ?_, fun x => ⟨fun h => ⟨h, fun r _ _ => by omega⟩, fun h => h.1⟩, fun x => ⟨fun h => ⟨h, fun r _ _ => by omega⟩, fun h => h.1⟩, hf, hg⟩
    · show f_M_grows_89b (f_M_grows_89 q) (zI t) _ (zI x5) σ = _
      unfold f_M_grows_89b
      simp only [lg_cmp_ge]
      rw [j0, zJ_w (by omega) (by omega), if_pos (by rw [zJ_le (by omega) (by omega) (by omega) (by omega)]; omega)]
    · show mR (J1 + 0) (J2 + 0 * c 5) (J3 + 0) (J4 + 0) f g σ
      rw [Nat.zero_mul]
      exact hR
  | succ n ih =>
    intro x5 q J1 J2 J3 J4 f g σ h1 h2 hd h15 h16 e4 e5 j0 hR hf hg
    obtain ⟨q, rfl⟩ : ∃ r, q = r + 1 := ⟨q - 1, by omega⟩
    have o0 : oS [14, 17, 18, 19, 20, 21, 22, 23, 24, 25] [1, 2, 3, 4] [10] [1] σ (uI (uI (uI (uI (uI (uI σ 17 (zI (sV d 1))) 18 0) 19 (zI (tV d t 3))) 20 0) 21 0) 23 0) := oS_uI (by decide) (oS_uI (by decide) (oS_uI (by decide) (oS_uI (by decide) (oS_uI (by decide) (oS_uI (by decide) oS_r)))))
    have hM : mT d c fo be (sV d 1) 0 0 0 ((tV d t 3 : Int) - ((0 * c 5 : Nat) : Int)) (uI (uI (uI (uI (uI (uI σ 17 (zI (sV d 1))) 18 0) 19 (zI (tV d t 3))) 20 0) 21 0) 23 0) := by
      refine ⟨MD_oS hd o0 (by decide) (by decide), ⟨h15, h16, rfl, rfl, ?_, rfl, rfl⟩, e4, e5⟩
      show zI (tV d t 3) = _
      congr 1
      omega
    obtain ⟨σ1, u1, u2, u3, u4⟩ := row_loop (x5 := x5) hw ht hfo hp hsl hb (f_M_grows_89 q) (sV d 0) 0 (sV d 1) 0 0 0 x5 FU J1 J2 J3 J4 f g _ (by omega) (FU_gt (by omega)) (by omega) hM rfl (by omega) (.inl rfl) (by omega) (by omega) hR hf hg
    have o1 : oS [14, 17, 18, 19, 20, 21, 22, 23, 24, 25] [1, 2, 3, 4] [10] [1] σ σ1 := oS_t o0 u2
    obtain ⟨f', g', σ2, w1, w2, w3, w4, w5, w6, w7⟩ := ih (x5 + 1) q _ _ _ _ _ _ σ1 (by omega) (by omega) (MD_oS hd o1 (by decide) (by decide)) (by rw [o1.1 15 (by decide)]; exact h15) (by rw [o1.1 16 (by decide)]; exact h16) (by rw [o1.2.2.1 11 (by decide)]; exact e4) (by rw [o1.2.2.1 11 (by decide)]; exact e5) (by rw [o1.2.1 0 (by decide)]; exact j0) u3 (by omega) (by omega)
    have key : f_M_grows_89 (q + 1) (zI t) (zI (tV d t 1 + 1 : Nat)) (zI x5) σ = f_M_grows_123 (f_M_grows_89 q) FU (zI t) (zI (tV d t 1 + 1 : Nat)) (zI x5) (zI x5) (uI (uI (uI (uI (uI (uI σ 17 (zI (sV d 1))) 18 0) 19 (zI (tV d t 3))) 20 0) 21 0) 23 0) := by
      show f_M_grows_89b (f_M_grows_89 q) (zI t) _ (zI x5) σ = _
      unfold f_M_grows_89b f_M_begins
      simp only [lg_cmp_ge]
      have mt3 : f_M_trierOf (zI t) 3 (uI (uI σ 17 (zI (sV d 1))) 18 0) = some (zI (tV d t 3)) := m_trierOf (j := 3) hw (MD_oS hd (oS_uI (I := [17, 18]) (J := []) (A := []) (B := []) (by decide) (oS_uI (by decide) oS_r)) (by decide) (by decide)) ht (by omega)
      rw [j0, zJ_w (by omega) (by omega), if_neg (by rw [zJ_le (by omega) (by omega) (by omega) (by omega)]; omega), m_told4 hd, bp_s, lt_s', lt_s', mt3, bp_s, lt_s', lt_s', lt_s', lt_s', bp_s]
    refine ⟨f', g', σ2, ?_, oS_t o1 w2, ?_, fun x => ?_, fun x => ?_, w6, w7⟩
    · rw [key, u1]
      exact w1
    · have es : ∀ v, sm (PR d c fo be t v) (n + 1) x5 = PR d c fo be t v x5 + sm (PR d c fo be t v) n (x5 + 1) := fun v => rfl
      rw [es, es, es, es, Nat.add_mul, ← Nat.add_assoc, ← Nat.add_assoc, ← Nat.add_assoc, ← Nat.add_assoc]
      exact w3
    · rw [w4 x]
      constructor
      · intro h
        refine ⟨by omega, fun r g1 g2 => ?_⟩
        by_cases e : r = x5
        · rw [e]
          show x ≤ PV d c fo be t vK (sV d 0) 0 (sV d 1) 0 0 0 x5
          omega
        · exact h.2 r (by omega) (by omega)
      · intro h
        have := h.2 x5 (by omega) (by omega)
        have this' : x ≤ PV d c fo be t vK (sV d 0) 0 (sV d 1) 0 0 0 x5 := this
        exact ⟨by omega, fun r g1 g2 => h.2 r (by omega) (by omega)⟩
    · rw [w5 x]
      constructor
      · intro h
        refine ⟨by omega, fun r g1 g2 => ?_⟩
        by_cases e : r = x5
        · rw [e]
          show PV d c fo be t vK (sV d 0) 0 (sV d 1) 0 0 0 x5 ≤ x
          omega
        · exact h.2 r (by omega) (by omega)
      · intro h
        have := h.2 x5 (by omega) (by omega)
        have this' : PV d c fo be t vK (sV d 0) 0 (sV d 1) 0 0 0 x5 ≤ x := this
        exact ⟨by omega, fun r g1 g2 => h.2 r (by omega) (by omega)⟩
theorem grows_pow {x2 x3 : Int32} (hw : wfD d) (ht : t < nT d) : ∀ (m i q : Nat) (σ : St), MD d σ → i + m = sV d 0 → m < q → sJ σ 0 = zJ ((tV d t 1 + 1) ^ i : Nat) → ∃ σ1, f_M_grows_18 q (zI t) x2 x3 (zI (tV d t 1 + 1 : Nat)) (zI i) σ = f_M_grows_89 FU (zI t) (zI (tV d t 1 + 1 : Nat)) 0 (uI (uI (uI (uI (uJ (uJ (uJ (uJ σ1 1 0) 2 0) 3 0) 4 0) 24 4) 25 0) 15 x2) 16 x3) ∧ oS [] [0] [] [] σ σ1 ∧ sJ σ1 0 = zJ ((tV d t 1 + 1) ^ sV d 0 : Nat) := by
  obtain ⟨t1, t2, t3, t4, t5, t6, t7⟩ := hw.2.2.2.2.1 t ht
  obtain ⟨s1, s2, s3, s4, s5, s6, s7⟩ := hw.2.2.2.2.2.1
  intro m
  induction m with
  | zero =>
    intro i q σ hd h1 h2 h3
    obtain ⟨q, rfl⟩ : ∃ r, q = r + 1 := ⟨q - 1, by omega⟩
    have ei : i = sV d 0 := by omega
    refine ⟨σ, ?_, oS_r, by rw [← ei]; exact h3⟩
    show f_M_grows_18b (f_M_grows_18 q) (zI t) x2 x3 _ (zI i) σ = _
    unfold f_M_grows_18b
    rw [m_told2 hd, bp_s, if_pos (by rw [zI_le (by omega) (by omega) (by omega) (by omega)]; omega)]
    rfl
  | succ m ih =>
    intro i q σ hd h1 h2 h3
    obtain ⟨q, rfl⟩ : ∃ r, q = r + 1 := ⟨q - 1, by omega⟩
    have o : oS [] [0] [] [] σ (uJ σ 0 (zJ ((tV d t 1 + 1) ^ (i + 1) : Nat))) := oS_uJ (by decide) oS_r
    obtain ⟨σ1, a, b, e⟩ := ih (i + 1) q (uJ σ 0 (zJ ((tV d t 1 + 1) ^ (i + 1) : Nat))) (MD_oS hd o (by decide) (by decide)) (by omega) (by omega) rfl
    refine ⟨σ1, ?_, oS_t o b, e⟩
    rw [← a]
    show f_M_grows_18b (f_M_grows_18 q) (zI t) x2 x3 _ (zI i) σ = _
    unfold f_M_grows_18b
    rw [m_told2 hd, bp_s, if_neg (by rw [zI_le (by omega) (by omega) (by omega) (by omega)]; omega), h3, zJ_w (by omega) (by omega), zJ_mul, ← Int.natCast_mul, ← Nat.pow_succ, zS, lt_s', lt_s']
theorem m_grows {σ : St} (hw : wfD d) (ht : t < nT d) (hfo : fo < 64) (hp : c 5 ≤ 9) (hsl : c 4 ≤ 90) (hb : be ≤ 99) (hd : MD d σ) (e4 : sA σ 11 4 = zI (c 4)) (e5 : sA σ 11 5 = zI (c 5)) :
    ∃ (f' g' : Nat) (σ1 : St), f_M_grows (zI t) (zI fo) (zI be) σ = some σ1 ∧ oS [14, 15, 16, 17, 18, 19, 20, 21, 22, 23, 24, 25] [0, 1, 2, 3, 4] [10] [1] σ σ1 ∧ sJ σ1 0 = zJ ((tV d t 1 + 1) ^ sV d 0 : Nat) ∧ mR (TR d c fo be t vRg) (TR d c fo be t vK * c 5) (TR d c fo be t vLf) (TR d c fo be t vCr) f' g' σ1 ∧ (∀ x, x ≤ f' ↔ (x ≤ 4 ∧ ∀ r, r < (tV d t 1 + 1) ^ sV d 0 → x ≤ PR d c fo be t vK r)) ∧ (∀ x, g' ≤ x ↔ (∀ r, r < (tV d t 1 + 1) ^ sV d 0 → PR d c fo be t vK r ≤ x)) ∧ f' ≤ 4 ∧ g' ≤ 4 := by
  obtain ⟨t1, t2, t3, t4, t5, t6, t7⟩ := hw.2.2.2.2.1 t ht
  obtain ⟨s1, s2, s3, s4, s5, s6, s7⟩ := hw.2.2.2.2.2.1
  have hpw := pw_b (B := tV d t 1 + 1) (N := sV d 0) (by omega) s2 (by omega)
  have mt1 : f_M_trierOf (zI t) 1 σ = _ := m_trierOf (j := 1) hw hd ht (by omega)
  have o0 : oS [14, 15, 16, 17, 18, 19, 20, 21, 22, 23, 24, 25] [0, 1, 2, 3, 4] [10] [1] σ (uJ σ 0 1) := oS_uJ (by decide) oS_r
  have j0 : sJ (uJ σ 0 1) 0 = zJ ((tV d t 1 + 1) ^ 0 : Nat) := rfl
  obtain ⟨σ1, a1, a2, a3⟩ := grows_pow (x2 := zI fo) (x3 := zI be) hw ht (sV d 0) 0 FU (uJ σ 0 1) (MD_oS hd o0 (by decide) (by decide)) (by omega) (FU_gt (by omega)) j0
  generalize hσ2 : uI (uI (uI (uI (uJ (uJ (uJ (uJ σ1 1 0) 2 0) 3 0) 4 0) 24 4) 25 0) 15 (zI fo)) 16 (zI be) = σ2 at a1
  have o1 : oS [14, 15, 16, 17, 18, 19, 20, 21, 22, 23, 24, 25] [0, 1, 2, 3, 4] [10] [1] σ σ2 := by
    rw [← hσ2]
    exact oS_uI (by decide) (oS_uI (by decide) (oS_uI (by decide) (oS_uI (by decide) (oS_uJ (by decide) (oS_uJ (by decide) (oS_uJ (by decide) (oS_uJ (by decide) (oS_t o0 (oS_w a2 (by decide) (by decide) (by decide) (by decide))))))))))
  obtain ⟨f', g', σ3, w1, w2, w3, w4, w5, w6, w7⟩ := rows_loop hw ht hfo hp hsl hb ((tV d t 1 + 1) ^ sV d 0) 0 FU 0 0 0 0 4 0 σ2 (by omega) (FU_gt (by omega)) (MD_oS hd o1 (by decide) (by decide)) (by rw [← hσ2]; rfl) (by rw [← hσ2]; rfl) (by rw [o1.2.2.1 11 (by decide)]; exact e4) (by rw [o1.2.2.1 11 (by decide)]; exact e5) (by rw [← hσ2]; exact a3) (by rw [← hσ2]; exact ⟨rfl, rfl, rfl, rfl, rfl, rfl⟩) (by omega) (by omega)
  have es : ∀ v, sm (PR d c fo be t v) ((tV d t 1 + 1) ^ sV d 0) 0 = TR d c fo be t v := fun v => PV_sum _ _ _ _ _ _
  rw [es, es, es, es, Nat.zero_add, Nat.zero_add, Nat.zero_add, Nat.zero_add] at w3
  refine ⟨f', g', σ3, ?_, oS_t o1 (oS_w w2 (by decide) (by decide) (by decide) (by decide)), ?_, w3, fun x => ?_, fun x => ?_, w6, w7⟩
  · unfold f_M_grows
    have a1' : f_M_grows_18 FU (zI t) (zI fo) (zI be) (zI (tV d t 1 + 1 : Nat)) 0 (uJ σ 0 1) = _ := a1
    rw [mt1, bp_s, zS, lt_s', lt_s', a1']
    exact w1
  · rw [w2.2.1 0 (by decide), ← hσ2]
    exact a3
  · rw [w4 x]
    constructor
    · exact fun h => ⟨h.1, fun r hr => h.2 r (by omega) (by omega)⟩
    · exact fun h => ⟨h.1, fun r _ hr => h.2 r (by omega)⟩
  · rw [w5 x]
    constructor
    · exact fun h r hr => h.2 r (by omega) (by omega)
    · exact fun h => ⟨Nat.zero_le _, fun r _ hr => h r (by omega)⟩
end
