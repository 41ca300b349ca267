-- ===== turns =====
/-- a trier strikes again -/
def gO (d : FD) (c : Nat → Nat) (be t k last : Nat) : Prop := k < sV d 0 ∧ (k + 1) * c 5 ≤ tV d t 3 ∧ (k = 0 ∨ (last < be ∧ be ≤ last + tV d t 4))
theorem gO_d (d : FD) (c : Nat → Nat) (be t k last : Nat) : gO d c be t k last ∨ ¬ gO d c be t k last := Classical.em _
/-- who comes by a blow -/
def bR (d : FD) (be h : Nat) : Nat := if be ≤ h then sV d 3 else if be ≤ h + sV d 2 then sV d 4 else sV d 5
theorem bR_b {d : FD} {be h : Nat} (hs : wfS (sV d)) : bR d be h ≤ 9 := by
  obtain ⟨s1, s2, s3, s4, s5, s6, s7⟩ := hs
  unfold bR
  split
  · omega
  · split <;> omega
theorem kp_b {k p : Nat} (hk : k ≤ 5) (hp : p ≤ 9) : k * p ≤ 45 := Nat.le_trans (Nat.mul_le_mul hk hp) (by omega)
theorem x_coinsBehind_2 {d : FD} {c : Nat → Nat} {t be k : Nat} {σ : St} (hL : xL 25 16 d c t be σ) : f_Turn_coinsBehind_2 (zI k) σ = some (zI ((tV d t 3 : Int) - ((k * c 5 : Nat) : Int))) := by
  obtain ⟨⟨e0, e1, e2, e3, e4, e5⟩, ⟨e6, e7, e8, e9, e10, e11⟩, -⟩ := hL
  simp only [Nat.reduceAdd] at e3 e8
  unfold f_Turn_coinsBehind_2
  rw [e3, e8, zI_mul, zI_sub, ← Int.natCast_mul]
theorem x_isRing_2 {d : FD} {c : Nat → Nat} {t be h : Nat} {σ : St} (hL : xL 25 16 d c t be σ) (hb : be ≤ 99) (hh : h ≤ 99) : f_Turn_isRing_2 (zI h) σ = some (if be ≤ h then zI 1 else zI 0) := by
  obtain ⟨⟨e0, e1, e2, e3, e4, e5⟩, ⟨e6, e7, e8, e9, e10, e11⟩, -⟩ := hL
  simp only [Nat.reduceAdd] at e6
  unfold f_Turn_isRing_2
  rw [e6]
  by_cases q : be ≤ h
  · rw [if_neg (by rw [zI_lt (by omega) (by omega) (by omega) (by omega)]; omega), if_pos q]
    rfl
  · rw [if_pos (by rw [zI_lt (by omega) (by omega) (by omega) (by omega)]; omega), if_neg q]
    rfl
theorem x_goesOn_2 {d : FD} {c : Nat → Nat} {t be k last : Nat} {σ : St} (hL : xL 25 16 d c t be σ) (hT : wfT (tV d t)) (hS : wfS (sV d)) (hp : c 5 ≤ 9) (hb : be ≤ 99) (hk : k ≤ 4) (hl : last ≤ 99) : (gO d c be t k last → f_Turn_goesOn_2 (zI k) (zI last) σ = some 1) ∧ (¬ gO d c be t k last → f_Turn_goesOn_2 (zI k) (zI last) σ = some 0) := by
  have C := x_coinsBehind_2 (k := k) hL
  have R := x_isRing_2 (h := last) hL hb hl
  obtain ⟨⟨e0, e1, e2, e3, e4, e5⟩, ⟨e6, e7, e8, e9, e10, e11⟩, -⟩ := hL
  simp only [Nat.reduceAdd] at e4 e6 e8 e9
  obtain ⟨t1, t2, t3, t4, t5, t6, t7⟩ := hT
  obtain ⟨s1, s2, s3, s4, s5, s6, s7⟩ := hS
  have kp := kp_b (k := k) (p := c 5) (by omega) hp
  have kp1 : (k + 1) * c 5 = k * c 5 + c 5 := Nat.succ_mul k (c 5)
  have e00 : (0 : Int32) = zI (0 : Nat) := rfl
  have v : f_Turn_goesOn_2 (zI k) (zI last) σ = some (if k < sV d 0 then (if c 5 + k * c 5 ≤ tV d t 3 then (if k = 0 then 1 else if be ≤ last then 0 else if last + tV d t 4 < be then 0 else 1) else 0) else (0 : Int32)) := by
    unfold f_Turn_goesOn_2
    rw [C, R, bp_s, bp_s, e4, e6, e8, e9]
    by_cases q1 : k < sV d 0
    · rw [if_neg (by rw [zI_le (by omega) (by omega) (by omega) (by omega)]; omega), if_pos q1]
      by_cases q2 : c 5 + k * c 5 ≤ tV d t 3
      · rw [if_pos (by rw [zI_le (by omega) (by omega) (by omega) (by omega)]; omega), if_pos q2]
        by_cases q3 : k = 0
        · rw [if_pos (by rw [q3]; rfl), if_pos q3]
        · rw [if_neg (by rw [e00, zI_eq (by omega) (by omega) (by omega) (by omega)]; omega), if_neg q3]
          by_cases q4 : be ≤ last
          · rw [if_neg (fun e => bz0.mp e q4), if_pos q4]
          · rw [if_pos (bz0.mpr q4), if_neg q4, zI_sub]
            by_cases q5 : last + tV d t 4 < be
            · rw [if_pos (by rw [zI_lt (by omega) (by omega) (by omega) (by omega)]; omega), if_pos q5]
            · rw [if_neg (by rw [zI_lt (by omega) (by omega) (by omega) (by omega)]; omega), if_neg q5]
      · rw [if_neg (by rw [zI_le (by omega) (by omega) (by omega) (by omega)]; omega), if_neg q2]
    · rw [if_pos (by rw [zI_le (by omega) (by omega) (by omega) (by omega)]; omega), if_neg q1]
  rw [v]
  unfold gO
  constructor
  · rintro ⟨q1, q2, q3⟩
    rw [if_pos q1, if_pos (by omega)]
    by_cases q : k = 0
    · rw [if_pos q]
    · rw [if_neg q, if_neg (by omega), if_neg (by omega)]
  · intro h
    by_cases q1 : k < sV d 0
    · rw [if_pos q1]
      by_cases q2 : c 5 + k * c 5 ≤ tV d t 3
      · rw [if_pos q2]
        have q3 : ¬ k = 0 := fun e => h ⟨q1, by omega, .inl e⟩
        rw [if_neg q3]
        by_cases q4 : be ≤ last
        · rw [if_pos q4]
        · rw [if_neg q4]
          by_cases q5 : last + tV d t 4 < be
          · rw [if_pos q5]
          · exact absurd ⟨q1, by omega, .inr ⟨by omega, by omega⟩⟩ h
      · rw [if_neg q2]
    · rw [if_neg q1]
theorem x_isNear_2 {d : FD} {c : Nat → Nat} {t be h : Nat} {σ : St} (hL : xL 25 16 d c t be σ) (hS : wfS (sV d)) (hb : be ≤ 99) (hh : h ≤ 99) : f_Turn_isNear_2 (zI h) σ = some (if h < be ∧ be ≤ h + sV d 2 then zI 1 else zI 0) := by
  obtain ⟨⟨e0, e1, e2, e3, e4, e5⟩, ⟨e6, e7, e8, e9, e10, e11⟩, -⟩ := hL
  simp only [Nat.reduceAdd] at e6 e10
  obtain ⟨s1, s2, s3, s4, s5, s6, s7⟩ := hS
  unfold f_Turn_isNear_2
  rw [e6, e10, zI_sub]
  by_cases q : be ≤ h
  · rw [if_pos (by rw [zI_le (by omega) (by omega) (by omega) (by omega)]; omega), if_neg (by omega)]
    rfl
  · rw [if_neg (by rw [zI_le (by omega) (by omega) (by omega) (by omega)]; omega)]
    by_cases q2 : be ≤ h + sV d 2
    · rw [if_neg (by rw [zI_lt (by omega) (by omega) (by omega) (by omega)]; omega), if_pos (by omega)]
      rfl
    · rw [if_pos (by rw [zI_lt (by omega) (by omega) (by omega) (by omega)]; omega), if_neg (by omega)]
      rfl
theorem x_brings_2 {d : FD} {c : Nat → Nat} {t be h : Nat} {σ : St} (hL : xL 25 16 d c t be σ) (hS : wfS (sV d)) (hb : be ≤ 99) (hh : h ≤ 99) : f_Turn_brings_2 (zI h) σ = some (zI (bR d be h)) := by
  have R := x_isRing_2 (h := h) hL hb hh
  have N := x_isNear_2 (h := h) hL hS hb hh
  obtain ⟨-, -, f0, f1, f2⟩ := hL
  unfold f_Turn_brings_2 bR
  rw [R, bp_s, N, bp_s, cl0, cl1, cl2, f0, f1, f2]
  by_cases q : be ≤ h
  · rw [if_neg (fun e => bz0.mp e q), if_pos q]
  · rw [if_pos (bz0.mpr q), if_neg q]
    by_cases q2 : be ≤ h + sV d 2
    · rw [if_neg (fun e => bz0.mp e (by omega)), if_pos q2]
    · rw [if_pos (bz0.mpr (by omega)), if_neg q2]
theorem x_coinsBehind {d : FD} {c : Nat → Nat} {t be k : Nat} {σ : St} (hL : xL 40 17 d c t be σ) : f_Turn_coinsBehind (zI k) σ = some (zI ((tV d t 3 : Int) - ((k * c 5 : Nat) : Int))) := by
  obtain ⟨⟨e0, e1, e2, e3, e4, e5⟩, ⟨e6, e7, e8, e9, e10, e11⟩, -⟩ := hL
  simp only [Nat.reduceAdd] at e3 e8
  unfold f_Turn_coinsBehind
  rw [e3, e8, zI_mul, zI_sub, ← Int.natCast_mul]
theorem x_isRing {d : FD} {c : Nat → Nat} {t be h : Nat} {σ : St} (hL : xL 40 17 d c t be σ) (hb : be ≤ 99) (hh : h ≤ 99) : f_Turn_isRing (zI h) σ = some (if be ≤ h then zI 1 else zI 0) := by
  obtain ⟨⟨e0, e1, e2, e3, e4, e5⟩, ⟨e6, e7, e8, e9, e10, e11⟩, -⟩ := hL
  simp only [Nat.reduceAdd] at e6
  unfold f_Turn_isRing
  rw [e6]
  by_cases q : be ≤ h
  · rw [if_neg (by rw [zI_lt (by omega) (by omega) (by omega) (by omega)]; omega), if_pos q]
    rfl
  · rw [if_pos (by rw [zI_lt (by omega) (by omega) (by omega) (by omega)]; omega), if_neg q]
    rfl
theorem x_goesOn {d : FD} {c : Nat → Nat} {t be k last : Nat} {σ : St} (hL : xL 40 17 d c t be σ) (hT : wfT (tV d t)) (hS : wfS (sV d)) (hp : c 5 ≤ 9) (hb : be ≤ 99) (hk : k ≤ 4) (hl : last ≤ 99) : (gO d c be t k last → f_Turn_goesOn (zI k) (zI last) σ = some 1) ∧ (¬ gO d c be t k last → f_Turn_goesOn (zI k) (zI last) σ = some 0) := by
  have C := x_coinsBehind (k := k) hL
  have R := x_isRing (h := last) hL hb hl
  obtain ⟨⟨e0, e1, e2, e3, e4, e5⟩, ⟨e6, e7, e8, e9, e10, e11⟩, -⟩ := hL
  simp only [Nat.reduceAdd] at e4 e6 e8 e9
  obtain ⟨t1, t2, t3, t4, t5, t6, t7⟩ := hT
  obtain ⟨s1, s2, s3, s4, s5, s6, s7⟩ := hS
  have kp := kp_b (k := k) (p := c 5) (by omega) hp
  have kp1 : (k + 1) * c 5 = k * c 5 + c 5 := Nat.succ_mul k (c 5)
  have e00 : (0 : Int32) = zI (0 : Nat) := rfl
  have v : f_Turn_goesOn (zI k) (zI last) σ = some (if k < sV d 0 then (if c 5 + k * c 5 ≤ tV d t 3 then (if k = 0 then 1 else if be ≤ last then 0 else if last + tV d t 4 < be then 0 else 1) else 0) else (0 : Int32)) := by
    unfold f_Turn_goesOn
    rw [C, R, bp_s, bp_s, e4, e6, e8, e9]
    by_cases q1 : k < sV d 0
    · rw [if_neg (by rw [zI_le (by omega) (by omega) (by omega) (by omega)]; omega), if_pos q1]
      by_cases q2 : c 5 + k * c 5 ≤ tV d t 3
      · rw [if_pos (by rw [zI_le (by omega) (by omega) (by omega) (by omega)]; omega), if_pos q2]
        by_cases q3 : k = 0
        · rw [if_pos (by rw [q3]; rfl), if_pos q3]
        · rw [if_neg (by rw [e00, zI_eq (by omega) (by omega) (by omega) (by omega)]; omega), if_neg q3]
          by_cases q4 : be ≤ last
          · rw [if_neg (fun e => bz0.mp e q4), if_pos q4]
          · rw [if_pos (bz0.mpr q4), if_neg q4, zI_sub]
            by_cases q5 : last + tV d t 4 < be
            · rw [if_pos (by rw [zI_lt (by omega) (by omega) (by omega) (by omega)]; omega), if_pos q5]
            · rw [if_neg (by rw [zI_lt (by omega) (by omega) (by omega) (by omega)]; omega), if_neg q5]
      · rw [if_neg (by rw [zI_le (by omega) (by omega) (by omega) (by omega)]; omega), if_neg q2]
    · rw [if_pos (by rw [zI_le (by omega) (by omega) (by omega) (by omega)]; omega), if_neg q1]
  rw [v]
  unfold gO
  constructor
  · rintro ⟨q1, q2, q3⟩
    rw [if_pos q1, if_pos (by omega)]
    by_cases q : k = 0
    · rw [if_pos q]
    · rw [if_neg q, if_neg (by omega), if_neg (by omega)]
  · intro h
    by_cases q1 : k < sV d 0
    · rw [if_pos q1]
      by_cases q2 : c 5 + k * c 5 ≤ tV d t 3
      · rw [if_pos q2]
        have q3 : ¬ k = 0 := fun e => h ⟨q1, by omega, .inl e⟩
        rw [if_neg q3]
        by_cases q4 : be ≤ last
        · rw [if_pos q4]
        · rw [if_neg q4]
          by_cases q5 : last + tV d t 4 < be
          · rw [if_pos q5]
          · exact absurd ⟨q1, by omega, .inr ⟨by omega, by omega⟩⟩ h
      · rw [if_neg q2]
    · rw [if_neg q1]
theorem x_isNear {d : FD} {c : Nat → Nat} {t be h : Nat} {σ : St} (hL : xL 40 17 d c t be σ) (hS : wfS (sV d)) (hb : be ≤ 99) (hh : h ≤ 99) : f_Turn_isNear (zI h) σ = some (if h < be ∧ be ≤ h + sV d 2 then zI 1 else zI 0) := by
  obtain ⟨⟨e0, e1, e2, e3, e4, e5⟩, ⟨e6, e7, e8, e9, e10, e11⟩, -⟩ := hL
  simp only [Nat.reduceAdd] at e6 e10
  obtain ⟨s1, s2, s3, s4, s5, s6, s7⟩ := hS
  unfold f_Turn_isNear
  rw [e6, e10, zI_sub]
  by_cases q : be ≤ h
  · rw [if_pos (by rw [zI_le (by omega) (by omega) (by omega) (by omega)]; omega), if_neg (by omega)]
    rfl
  · rw [if_neg (by rw [zI_le (by omega) (by omega) (by omega) (by omega)]; omega)]
    by_cases q2 : be ≤ h + sV d 2
    · rw [if_neg (by rw [zI_lt (by omega) (by omega) (by omega) (by omega)]; omega), if_pos (by omega)]
      rfl
    · rw [if_pos (by rw [zI_lt (by omega) (by omega) (by omega) (by omega)]; omega), if_neg (by omega)]
      rfl
theorem x_brings {d : FD} {c : Nat → Nat} {t be h : Nat} {σ : St} (hL : xL 40 17 d c t be σ) (hS : wfS (sV d)) (hb : be ≤ 99) (hh : h ≤ 99) : f_Turn_brings (zI h) σ = some (zI (bR d be h)) := by
  have R := x_isRing (h := h) hL hb hh
  have N := x_isNear (h := h) hL hS hb hh
  obtain ⟨-, -, f0, f1, f2⟩ := hL
  unfold f_Turn_brings bR
  rw [R, bp_s, N, bp_s, cl0, cl1, cl2, f0, f1, f2]
  by_cases q : be ≤ h
  · rw [if_neg (fun e => bz0.mp e q), if_pos q]
  · rw [if_pos (bz0.mpr q), if_neg q]
    by_cases q2 : be ≤ h + sV d 2
    · rw [if_neg (fun e => bz0.mp e (by omega)), if_pos q2]
    · rw [if_pos (bz0.mpr (by omega)), if_neg q2]
/-- M's turn -/
def mT (d : FD) (c : Nat → Nat) (fo be cr k last rg : Nat) (co : Int) (σ : St) : Prop := MD d σ ∧ (sI σ 15 = zI fo ∧ sI σ 16 = zI be ∧ sI σ 17 = zI cr ∧ sI σ 18 = zI rg ∧ sI σ 19 = zI co ∧ sI σ 20 = zI k ∧ sI σ 21 = zI last) ∧ sA σ 11 4 = zI (c 4) ∧ sA σ 11 5 = zI (c 5)
theorem m_strikes {d : FD} {c : Nat → Nat} {t fo be cr k last rg : Nat} {σ : St} (hw : wfD d) (ht : t < nT d) (hM : mT d c fo be cr k last rg ((tV d t 3 : Int) - ((k * c 5 : Nat) : Int)) σ) (hp : c 5 ≤ 9) (hb : be ≤ 99) (hk : k ≤ sV d 0) (hl : last ≤ 99) : (gO d c be t k last → f_M_strikes (zI t) σ = some 1) ∧ (¬ gO d c be t k last → f_M_strikes (zI t) σ = some 0) := by
  obtain ⟨hd, ⟨e15, e16, e17, e18, e19, e20, e21⟩, e4, e5⟩ := hM
  obtain ⟨t1, t2, t3, t4, t5, t6, t7⟩ := hw.2.2.2.2.1 t ht
  obtain ⟨s1, s2, s3, s4, s5, s6, s7⟩ := hw.2.2.2.2.2.1
  have kp := kp_b (k := k) (p := c 5) (by omega) hp
  have kp1 : (k + 1) * c 5 = k * c 5 + c 5 := Nat.succ_mul k (c 5)
  have e00 : (0 : Int32) = zI (0 : Nat) := rfl
  have t4' : f_M_trierOf (zI t) 4 σ = _ := m_trierOf (j := 4) hw hd ht (by omega)
  have v : f_M_strikes (zI t) σ = some (if k < sV d 0 then (if c 5 + k * c 5 ≤ tV d t 3 then (if k = 0 then 1 else if be ≤ last then 0 else if last + tV d t 4 < be then 0 else 1) else 0) else (0 : Int32)) := by
    unfold f_M_strikes
    rw [m_told2 hd, bp_s, cl5, e5, e16, e19, e20, e21, t4', bp_s]
    by_cases q1 : k < sV d 0
    · rw [if_neg (by rw [zI_eq (by omega) (by omega) (by omega) (by omega)]; omega), if_pos q1]
      by_cases q2 : c 5 + k * c 5 ≤ tV d t 3
      · rw [if_pos (by rw [zI_le (by omega) (by omega) (by omega) (by omega)]; omega), if_pos q2]
        by_cases q3 : k = 0
        · rw [if_pos (by rw [q3]; rfl), if_pos q3]
        · rw [if_neg (by rw [e00, zI_eq (by omega) (by omega) (by omega) (by omega)]; omega), if_neg q3]
          by_cases q4 : be ≤ last
          · rw [if_pos (by rw [zI_le (by omega) (by omega) (by omega) (by omega)]; omega), if_pos q4]
          · rw [if_neg (by rw [zI_le (by omega) (by omega) (by omega) (by omega)]; omega), if_neg q4, zI_sub]
            by_cases q5 : last + tV d t 4 < be
            · rw [if_pos (by rw [zI_lt (by omega) (by omega) (by omega) (by omega)]; omega), if_pos q5]
            · rw [if_neg (by rw [zI_lt (by omega) (by omega) (by omega) (by omega)]; omega), if_neg q5]
      · rw [if_neg (by rw [zI_le (by omega) (by omega) (by omega) (by omega)]; omega), if_neg q2]
    · have : k = sV d 0 := by omega
      rw [if_pos (by rw [this]), if_neg q1]
  rw [v]
  unfold gO
  constructor
  · rintro ⟨q1, q2, q3⟩
    rw [if_pos q1, if_pos (by omega)]
    by_cases q : k = 0
    · rw [if_pos q]
    · rw [if_neg q, if_neg (by omega), if_neg (by omega)]
  · intro h
    by_cases q1 : k < sV d 0
    · rw [if_pos q1]
      by_cases q2 : c 5 + k * c 5 ≤ tV d t 3
      · rw [if_pos q2]
        have q3 : ¬ k = 0 := fun e => h ⟨q1, by omega, .inl e⟩
        rw [if_neg q3]
        by_cases q4 : be ≤ last
        · rw [if_pos q4]
        · rw [if_neg q4]
          by_cases q5 : last + tV d t 4 < be
          · rw [if_pos q5]
          · exact absurd ⟨q1, by omega, .inr ⟨by omega, by omega⟩⟩ h
      · rw [if_neg q2]
    · rw [if_neg q1]
/-- he leans at this blow -/
noncomputable def lB (d : FD) (c : Nat → Nat) (fo t cr k last rg : Nat) : Nat := leN d (fA cr k last (tV d t 5) rg (tV d t 3 - k * c 5)) fo
theorem lB_b {d : FD} {c : Nat → Nat} {fo t cr k last rg : Nat} : lB d c fo t cr k last rg ≤ 1 := leN_b
theorem m_blow {d : FD} {c : Nat → Nat} {t fo be cr k last rg o lt0 : Nat} {σ : St} (hw : wfD d) (ht : t < nT d) (hM : mT d c fo be cr k last rg ((tV d t 3 : Int) - ((k * c 5 : Nat) : Int)) σ) (h23 : sI σ 23 = zI lt0) (hlt : lt0 ≤ 1) (hfo : fo < 64) (hp : c 5 ≤ 9) (hsl : c 4 ≤ 90) (hb : be ≤ 99) (hcr : cr ≤ 999) (hrg : rg ≤ 900) (ho : o ≤ 9) (hl : last ≤ 99) (hG' : gO d c be t k last) :
    ∃ σ1, f_M_blow (zI t) (zI o) σ = some σ1 ∧ oS [14, 17, 18, 19, 20, 21, 22, 23] [] [10] [1] σ σ1 ∧ mT d c fo be (min 999 (cr + bR d be (hG be (c 4) (tV d t 0) (tV d t 2) k o (lB d c fo t cr k last rg)))) (k + 1) (hG be (c 4) (tV d t 0) (tV d t 2) k o (lB d c fo t cr k last rg)) (rg + (if be ≤ hG be (c 4) (tV d t 0) (tV d t 2) k o (lB d c fo t cr k last rg) then 1 else 0)) ((tV d t 3 : Int) - (((k + 1) * c 5 : Nat) : Int)) σ1 ∧ sI σ1 22 = zI (lB d c fo t cr k last rg) ∧ sI σ1 23 = zI (max lt0 (lB d c fo t cr k last rg) : Nat) := by
  obtain ⟨hd, ⟨e15, e16, e17, e18, e19, e20, e21⟩, e4, e5⟩ := hM
  have hT := hw.2.2.2.2.1 t ht
  have hS := hw.2.2.2.2.2.1
  obtain ⟨t1, t2, t3, t4, t5, t6, t7⟩ := hw.2.2.2.2.1 t ht
  obtain ⟨s1, s2, s3, s4, s5, s6, s7⟩ := hw.2.2.2.2.2.1
  obtain ⟨g1, g2, g3⟩ := hG'
  have kp := kp_b (k := k) (p := c 5) (by omega) hp
  have kp1 : (k + 1) * c 5 = k * c 5 + c 5 := Nat.succ_mul k (c 5)
  have eco : ((tV d t 3 : Int) - ((k * c 5 : Nat) : Int)) = ((tV d t 3 - k * c 5 : Nat) : Int) := by omega
  have e19' : sI σ 19 = zI ((tV d t 3 - k * c 5 : Nat) : Int) := by rw [e19, eco]
  obtain ⟨τ, p1, p2⟩ := m_isLeant (fo := fo) (t := t) hw hd ht hfo e15 e17 e20 e21 e18 e19' (by omega) (by omega) (by omega) (by omega) (by omega)
  unfold f_M_blow
  rw [p1, bd_s]
  have hl1 : leN d (fA cr k last (tV d t 5) rg (tV d t 3 - k * c 5)) fo = lB d c fo t cr k last rg := rfl
  rw [hl1]
  have lb := lB_b (d := d) (c := c) (fo := fo) (t := t) (cr := cr) (k := k) (last := last) (rg := rg)
  generalize lB d c fo t cr k last rg = l at lb
  have isb : isB (zI (l : Int)) = true := by
    rcases (show l = 0 ∨ l = 1 by omega) with rfl | rfl <;> rfl
  have o1 : oS [14, 17, 18, 19, 20, 21, 22, 23] [] [10] [1] σ τ := oS_w p2 (by decide) (by decide) (by decide) (by decide)
  rw [isb, gd_t, lt_s']
  -- the flag
  have flag : (if sI (uI τ 22 (zI l)) 23 = 0 then (if sI (uI τ 22 (zI l)) 22 = 0 then f_M_blow_29 (zI t) (zI o) 0 (uI τ 22 (zI l)) else f_M_blow_24 (zI t) (zI o) (uI τ 22 (zI l))) else f_M_blow_24 (zI t) (zI o) (uI τ 22 (zI l))) = f_M_blow_29 (zI t) (zI o) (zI (max lt0 l : Nat)) (uI τ 22 (zI l)) := by
    have q1 : sI (uI τ 22 (zI l)) 23 = zI lt0 := by
      show sI τ 23 = _
      rw [p2.1 23 (by decide), h23]
    have q2 : sI (uI τ 22 (zI l)) 22 = zI l := rfl
    rw [q1, q2]
    unfold f_M_blow_24
    rcases (show lt0 = 0 ∨ lt0 = 1 by omega) with rfl | rfl
    · rw [if_pos (by decide)]
      rcases (show l = 0 ∨ l = 1 by omega) with rfl | rfl
      · rw [if_pos (by decide)]
        rfl
      · rw [if_neg (by decide)]
        rfl
    · rw [if_neg (by decide)]
      rcases (show l = 0 ∨ l = 1 by omega) with rfl | rfl <;> rfl
  rw [flag]
  have mx : max lt0 l ≤ 1 := by omega
  generalize hmx : max lt0 l = m at mx
  have isb2 : isB (zI (m : Int)) = true := by
    rcases (show m = 0 ∨ m = 1 by omega) with rfl | rfl <;> rfl
  unfold f_M_blow_29
  rw [isb2, gd_t, lt_s', cl5]
  have r19 : sI (uI (uI τ 22 (zI l)) 23 (zI m)) 19 = zI ((tV d t 3 : Int) - ((k * c 5 : Nat) : Int)) := by
    show sI τ 19 = _
    rw [p2.1 19 (by decide), e19]
  have r11 : sA (uI (uI τ 22 (zI l)) 23 (zI m)) 11 = sA σ 11 := p2.2.2.1 11 (by decide)
  rw [r19, r11, e5, zI_sub, lt_s']
  have eco2 : (tV d t 3 : Int) - ((k * c 5 : Nat) : Int) - (c 5 : Int) = (tV d t 3 : Int) - (((k + 1) * c 5 : Nat) : Int) := by omega
  rw [eco2]
  generalize hτ3 : uI (uI (uI τ 22 (zI l)) 23 (zI m)) 19 (zI ((tV d t 3 : Int) - (((k + 1) * c 5 : Nat) : Int))) = τ3
  have o3 : oS [14, 17, 18, 19, 20, 21, 22, 23] [] [10] [1] σ τ3 := by
    rw [← hτ3]
    exact oS_uI (by decide) (oS_uI (by decide) (oS_uI (by decide) o1))
  have hd3 : MD d τ3 := MD_oS hd o3 (by decide) (by decide)
  have u16 : sI τ3 16 = zI be := by rw [o3.1 16 (by decide), e16]
  have u20 : sI τ3 20 = zI k := by
    rw [← hτ3]
    show sI τ 20 = _
    rw [p2.1 20 (by decide), e20]
  have u22 : sI τ3 22 = zI l := by rw [← hτ3]; rfl
  have u4 : sA τ3 11 4 = zI (c 4) := by rw [o3.2.2.1 11 (by decide), e4]
  rw [u16, u20, u22]
  rw [m_height (k := k) (o := o) (l := l) hd3 hw ht u4 hsl hb (by omega) ho lb]
  have hb2 := hG_b (be := be) (sl := c 4) (f := tV d t 0) (ti := tV d t 2) (k := k) (o := o) (l := l)
  generalize hhh : hG be (c 4) (tV d t 0) (tV d t 2) k o l = h at hb2
  have u20' : sI (uI τ3 21 (zI h)) 20 = zI k := u20
  rw [lt_s', u20', zS, lt_s']
  have u21 : sI (uI (uI τ3 21 (zI h)) 20 (zI (k + 1 : Nat))) 21 = zI h := rfl
  have u16' : sI (uI (uI τ3 21 (zI h)) 20 (zI (k + 1 : Nat))) 16 = zI be := u16
  rw [u21, u16']
  generalize hτ5 : uI (uI τ3 21 (zI h)) 20 (zI (k + 1 : Nat)) = τ5
  have o5 : oS [14, 17, 18, 19, 20, 21, 22, 23] [] [10] [1] σ τ5 := by
    rw [← hτ5]
    exact oS_uI (by decide) (oS_uI (by decide) o3)
  have hd5 : MD d τ5 := MD_oS hd o5 (by decide) (by decide)
  have v17 : sI τ5 17 = zI cr := by
    rw [← hτ5, ← hτ3]
    show sI τ 17 = _
    rw [p2.1 17 (by decide), e17]
  have v18 : sI τ5 18 = zI rg := by
    rw [← hτ5, ← hτ3]
    show sI τ 18 = _
    rw [p2.1 18 (by decide), e18]
  have v19 : sI τ5 19 = zI ((tV d t 3 : Int) - (((k + 1) * c 5 : Nat) : Int)) := by rw [← hτ5, ← hτ3]; rfl
  have v20 : sI τ5 20 = zI (k + 1 : Nat) := by rw [← hτ5]; rfl
  have v21 : sI τ5 21 = zI h := by rw [← hτ5]; rfl
  have v22 : sI τ5 22 = zI l := by
    rw [← hτ5]
    exact u22
  have v23 : sI τ5 23 = zI m := by rw [← hτ5, ← hτ3]; rfl
  have v16 : sI τ5 16 = zI be := by
    rw [← hτ5]
    exact u16
  -- who comes
  have come : ∀ (x3 : Int32) (τ6 : St) (rg2 : Nat), MD d τ6 → oS [14, 17, 18, 19, 20, 21, 22, 23] [] [10] [1] σ τ6 → sI τ6 16 = zI be → sI τ6 17 = zI cr → sI τ6 18 = zI rg2 → sI τ6 19 = zI ((tV d t 3 : Int) - (((k + 1) * c 5 : Nat) : Int)) → sI τ6 20 = zI (k + 1 : Nat) → sI τ6 21 = zI h → sI τ6 22 = zI l → sI τ6 23 = zI m → ((x3 = 0) ↔ h < be) → ∃ σ1, f_M_blow_128 x3 τ6 = some σ1 ∧ oS [14, 17, 18, 19, 20, 21, 22, 23] [] [10] [1] σ σ1 ∧ mT d c fo be (min 999 (cr + bR d be h)) (k + 1) h rg2 ((tV d t 3 : Int) - (((k + 1) * c 5 : Nat) : Int)) σ1 ∧ sI σ1 22 = zI l ∧ sI σ1 23 = zI m := by
    intro x3 τ6 rg2 hd6 o6 w16 w17 w18 w19 w20 w21 w22 w23 hx3
    have fin : ∀ p : Nat, p ≤ 9 → ∃ σ1, f_M_blow_173 (zI p) τ6 = some σ1 ∧ oS [14, 17, 18, 19, 20, 21, 22, 23] [] [10] [1] σ σ1 ∧ mT d c fo be (min 999 (cr + p)) (k + 1) h rg2 ((tV d t 3 : Int) - (((k + 1) * c 5 : Nat) : Int)) σ1 ∧ sI σ1 22 = zI l ∧ sI σ1 23 = zI m := by
      intro p hp9
      unfold f_M_blow_173
      have e999 : (999 : Int32) = zI (999 : Nat) := rfl
      have mk' : ∀ v : Nat, mT d c fo be v (k + 1) h rg2 ((tV d t 3 : Int) - (((k + 1) * c 5 : Nat) : Int)) (uI τ6 17 (zI v)) := by
        intro v
        refine ⟨MD_oS hd6 (oS_uI (I := [17]) (J := []) (A := []) (B := []) (by decide) oS_r) (by decide) (by decide), ⟨?_, w16, rfl, w18, w19, w20, w21⟩, ?_, ?_⟩
        · exact (o6.1 15 (by decide)).trans e15
        · show sA τ6 11 4 = _
          rw [o6.2.2.1 11 (by decide), e4]
        · show sA τ6 11 5 = _
          rw [o6.2.2.1 11 (by decide), e5]
      rw [w17, zI_add]
      by_cases q : cr + p ≤ 999
      · rw [e999, if_pos (by rw [zI_le (by omega) (by omega) (by omega) (by omega)]; omega), lt_s', Nat.min_eq_right q]
        exact ⟨_, rfl, oS_uI (by decide) o6, mk' (cr + p), w22, w23⟩
      · rw [e999, if_neg (by rw [zI_le (by omega) (by omega) (by omega) (by omega)]; omega), lt_s', Nat.min_eq_left (by omega)]
        exact ⟨_, rfl, oS_uI (by decide) o6, mk' 999, w22, w23⟩
    unfold f_M_blow_128 bR
    rw [m_told5 hd6, m_told6 hd6, m_told7 hd6, m_told8 hd6, bp_s, bp_s, bp_s, bp_s, w16, w21, zI_sub]
    by_cases q : be ≤ h
    · rw [if_neg (fun e => by have := hx3.mp e; omega), if_pos q]
      exact fin _ s5
    · rw [if_pos (hx3.mpr (by omega)), if_neg q]
      by_cases q2 : be ≤ h + sV d 2
      · rw [if_neg (by rw [zI_lt (by omega) (by omega) (by omega) (by omega)]; omega), if_pos q2]
        exact fin _ s6
      · rw [if_pos (by rw [zI_lt (by omega) (by omega) (by omega) (by omega)]; omega), if_neg q2]
        exact fin _ s7
  unfold f_M_blow_113
  by_cases q : be ≤ h
  · have hbe : h = be := by omega
    have e18s : zI (rg : Int) + 1 = zI (rg + 1 : Nat) := zS rg
    rw [if_pos (by rw [hbe]), if_neg (by decide), v18, e18s, lt_s', if_pos q]
    exact come 1 _ (rg + 1) (MD_oS hd5 (oS_uI (I := [18]) (J := []) (A := []) (B := []) (by decide) oS_r) (by decide) (by decide)) (oS_uI (by decide) o5) v16 v17 rfl v19 v20 v21 v22 v23 ⟨fun e => absurd e (by decide), fun e => by omega⟩
  · rw [if_neg (by rw [zI_eq (by omega) (by omega) (by omega) (by omega)]; omega), if_pos rfl, if_neg q]
    exact come 0 τ5 (rg + 0) hd5 o5 v16 v17 v18 v19 v20 v21 v22 v23 ⟨fun _ => by omega, fun _ => rfl⟩
