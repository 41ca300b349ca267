-- ===== which rules hold =====
def mk (h : Nat → Int) : Nat → Nat
  | 0 => 0
  | k + 1 => mk h k ||| (if h k = 1 then 2 ^ k else 0)
theorem mk_b (h : Nat → Int) : ∀ k, mk h k < 2 ^ k := by
  intro k
  induction k with
  | zero => exact Nat.one_pos
  | succ k ih =>
    unfold mk
    have h1 : 2 ^ k < 2 ^ (k + 1) := Nat.pow_lt_pow_right (by omega) (by omega)
    refine Nat.or_lt_two_pow (by omega) ?_
    split
    · exact h1
    · exact Nat.pow_pos (by omega)
theorem mk_t (h : Nat → Int) (j : Nat) : ∀ k, (mk h k).testBit j = (decide (j < k) && decide (h j = 1)) := by
  intro k
  induction k with
  | zero => simp [mk]
  | succ k ih =>
    unfold mk
    rw [Nat.testBit_or, ih]
    by_cases c : h k = 1
    · rw [if_pos c, Nat.testBit_two_pow]
      by_cases q : j = k
      · subst q
        simp [c]
      · have q2 : ¬ k = j := fun e => q e.symm
        have q3 : (j < k + 1) ↔ j < k := by omega
        simp [q2, q3]
    · rw [if_neg c, Nat.zero_testBit, Bool.or_false]
      by_cases q : j = k
      · subst q
        simp [c]
      · have q3 : (j < k + 1) ↔ j < k := by omega
        simp [q3]
/-- he leans: a rule in force holds -/
def rL (d : FD) (fa : Nat → Int) (fo : Nat) : Prop := mk (rH d fa) (nR d) &&& fo ≠ 0
theorem rL_i {d : FD} {fa : Nat → Int} {fo : Nat} : rL d fa fo ↔ ∃ j, j < nR d ∧ rH d fa j = 1 ∧ fo.testBit j = true := by
  unfold rL
  constructor
  · intro h
    apply Classical.byContradiction
    intro hn
    apply h
    apply Nat.eq_of_testBit_eq
    intro i
    rw [Nat.testBit_and, mk_t, Nat.zero_testBit]
    cases hb : (decide (i < nR d) && decide (rH d fa i = 1) && fo.testBit i) with
    | false => rfl
    | true =>
      simp only [Bool.and_eq_true, decide_eq_true_eq] at hb
      exact absurd ⟨i, hb.1.1, hb.1.2, hb.2⟩ hn
  · rintro ⟨j, h1, h2, h3⟩ e
    have := congrArg (fun n => n.testBit j) e
    simp only [Nat.testBit_and, mk_t, Nat.zero_testBit, h1, h2, h3, decide_true, Bool.and_self] at this
    exact absurd this (by decide)
noncomputable def leN (d : FD) (fa : Nat → Int) (fo : Nat) : Nat := @ite _ (rL d fa fo) (Classical.propDecidable _) 1 0
theorem leN_b {d : FD} {fa : Nat → Int} {fo : Nat} : leN d fa fo ≤ 1 := by
  unfold leN
  split <;> omega
theorem leN_1 {d : FD} {fa : Nat → Int} {fo : Nat} (h : rL d fa fo) : leN d fa fo = 1 := if_pos h
theorem leN_0 {d : FD} {fa : Nat → Int} {fo : Nat} (h : ¬ rL d fa fo) : leN d fa fo = 0 := if_neg h
theorem x_rules {fa : Nat → Int} {σ : St} {d : FD} (hw : wfD d) (hd : XD d σ) (hf : ∀ i, i < 6 → sA σ 14 i = zI (fa i)) (hfb : ∀ i, i < 6 → -1000000 ≤ fa i ∧ fa i ≤ 1000000) : ∀ (n k q : Nat) (f : Nat → Int32), k + n = nR d → n < q → ∃ f', f_Showman_rulesThatHold_7 q (zI (mk (rH d fa) k)) (zI (cF d k)) (zI k) (uA σ 15 f) = some (zI (mk (rH d fa) (nR d)), uA σ 15 f') := by
  have hr := hw.2.2.1
  have h55 : ∀ f, sI (uA σ 15 f) 55 = zI (nR d) := fun f => hd.2.2.1
  intro n
  induction n with
  | zero =>
    intro k q f h1 h2
    obtain ⟨q, rfl⟩ : ∃ r, q = r + 1 := ⟨q - 1, by omega⟩
    have : k = nR d := by omega
    subst this
    refine ⟨f, ?_⟩
    show f_Showman_rulesThatHold_7b (f_Showman_rulesThatHold_7 q) _ _ _ _ = _
    unfold f_Showman_rulesThatHold_7b
    rw [h55, if_pos (Int32.le_refl _)]
  | succ n ih =>
    intro k q f h1 h2
    obtain ⟨q, rfl⟩ : ∃ r, q = r + 1 := ⟨q - 1, by omega⟩
    show ∃ f', f_Showman_rulesThatHold_7b (f_Showman_rulesThatHold_7 q) _ _ _ _ = _
    unfold f_Showman_rulesThatHold_7b f_Showman_rulesThatHold_42
    have e27 : ∀ f, sA (uA σ 15 f) 27 k = zI (cE d k) := fun f => hd.2.2.2.2.2.2.2.1 k (by omega)
    obtain ⟨f', hv, e⟩ := x_holds (σ := uA σ 15 f) hw hd hf hfb (show k < nR d by omega)
    rw [uA_uA] at e
    have mb := mk_b (rH d fa) k
    have pb : 2 ^ k ≤ 2 ^ 6 := Nat.pow_le_pow_right (by omega) (by omega)
    have ecF : cF d (k + 1) = cE d k := by
      unfold cF
      rw [if_neg (by omega), Nat.add_sub_cancel]
    rw [h55, if_neg (by rw [zI_le (by omega) (by omega) (by omega) (by omega)]; omega), zI_in (by omega) (by omega) (by omega), gd_t, zI_cl (by omega) (by omega), Int.toNat_natCast, e27, e, bd_s]
    simp only [gd_q, e27, zS, lt_q]
    rw [pow_z (by omega), or_nat (by omega) (by omega)]
    have I := ih (k + 1) q f' (by omega) (by omega)
    rw [ecF] at I
    rcases hv with hv | hv
    · have em : mk (rH d fa) (k + 1) = mk (rH d fa) k := by
        show _ ||| _ = _
        rw [if_neg (by omega), Nat.or_zero]
      rw [em] at I
      rw [hv, if_pos (by decide)]
      exact I
    · have em : mk (rH d fa) (k + 1) = mk (rH d fa) k ||| 2 ^ k := by
        show _ ||| _ = _
        rw [if_pos hv]
      rw [em] at I
      rw [hv, if_neg (by decide)]
      exact I
theorem x_lean {fa : Nat → Int} {σ : St} {d : FD} {fo : Nat} (hw : wfD d) (hd : XD d σ) (hf : ∀ i, i < 6 → sA σ 14 i = zI (fa i)) (hfb : ∀ i, i < 6 → -1000000 ≤ fa i ∧ fa i ≤ 1000000) (hfo : fo < 2 ^ nR d) : ∃ f', f_Showman_rulesThatHold σ = some (zI (mk (rH d fa) (nR d)), uA σ 15 f') ∧ ((zI (mk (rH d fa) (nR d)) &&& zI fo = 0) ↔ ¬ rL d fa fo) := by
  have hr := hw.2.2.1
  have mb := mk_b (rH d fa) (nR d)
  have pb : 2 ^ nR d ≤ 2 ^ 6 := Nat.pow_le_pow_right (by omega) hr
  obtain ⟨f', e⟩ := x_rules hw hd hf hfb (nR d) 0 FU (sA σ 15) (by omega) (FU_gt (by omega))
  rw [uA_same] at e
  refine ⟨f', e, ?_⟩
  rw [and_nat (by omega) (by omega)]
  have hle : mk (rH d fa) (nR d) &&& fo ≤ fo := Nat.and_le_right
  have e0 : (0 : Int32) = zI (0 : Nat) := rfl
  unfold rL
  rw [e0, zI_eq (by omega) (by omega) (by omega) (by omega)]
  constructor
  · intro h q
    exact q (by omega)
  · intro h
    have : mk (rH d fa) (nR d) &&& fo = 0 := Classical.byContradiction h
    rw [this]
theorem x_rules_2 {fa : Nat → Int} {σ : St} {d : FD} (hw : wfD d) (hd : XD d σ) (hf : ∀ i, i < 6 → sA σ 18 i = zI (fa i)) (hfb : ∀ i, i < 6 → -1000000 ≤ fa i ∧ fa i ≤ 1000000) : ∀ (n k q : Nat) (f : Nat → Int32), k + n = nR d → n < q → ∃ f', f_Showman_rulesThatHold_2_7 q (zI (mk (rH d fa) k)) (zI (cF d k)) (zI k) (uA σ 19 f) = some (zI (mk (rH d fa) (nR d)), uA σ 19 f') := by
  have hr := hw.2.2.1
  have h55 : ∀ f, sI (uA σ 19 f) 55 = zI (nR d) := fun f => hd.2.2.1
  intro n
  induction n with
  | zero =>
    intro k q f h1 h2
    obtain ⟨q, rfl⟩ : ∃ r, q = r + 1 := ⟨q - 1, by omega⟩
    have : k = nR d := by omega
    subst this
    refine ⟨f, ?_⟩
    show f_Showman_rulesThatHold_2_7b (f_Showman_rulesThatHold_2_7 q) _ _ _ _ = _
    unfold f_Showman_rulesThatHold_2_7b
    rw [h55, if_pos (Int32.le_refl _)]
  | succ n ih =>
    intro k q f h1 h2
    obtain ⟨q, rfl⟩ : ∃ r, q = r + 1 := ⟨q - 1, by omega⟩
    show ∃ f', f_Showman_rulesThatHold_2_7b (f_Showman_rulesThatHold_2_7 q) _ _ _ _ = _
    unfold f_Showman_rulesThatHold_2_7b f_Showman_rulesThatHold_2_42
    have e27 : ∀ f, sA (uA σ 19 f) 27 k = zI (cE d k) := fun f => hd.2.2.2.2.2.2.2.1 k (by omega)
    obtain ⟨f', hv, e⟩ := x_holds_2 (σ := uA σ 19 f) hw hd hf hfb (show k < nR d by omega)
    rw [uA_uA] at e
    have mb := mk_b (rH d fa) k
    have pb : 2 ^ k ≤ 2 ^ 6 := Nat.pow_le_pow_right (by omega) (by omega)
    have ecF : cF d (k + 1) = cE d k := by
      unfold cF
      rw [if_neg (by omega), Nat.add_sub_cancel]
    rw [h55, if_neg (by rw [zI_le (by omega) (by omega) (by omega) (by omega)]; omega), zI_in (by omega) (by omega) (by omega), gd_t, zI_cl (by omega) (by omega), Int.toNat_natCast, e27, e, bd_s]
    simp only [gd_q, e27, zS, lt_q]
    rw [pow_z (by omega), or_nat (by omega) (by omega)]
    have I := ih (k + 1) q f' (by omega) (by omega)
    rw [ecF] at I
    rcases hv with hv | hv
    · have em : mk (rH d fa) (k + 1) = mk (rH d fa) k := by
        show _ ||| _ = _
        rw [if_neg (by omega), Nat.or_zero]
      rw [em] at I
      rw [hv, if_pos (by decide)]
      exact I
    · have em : mk (rH d fa) (k + 1) = mk (rH d fa) k ||| 2 ^ k := by
        show _ ||| _ = _
        rw [if_pos hv]
      rw [em] at I
      rw [hv, if_neg (by decide)]
      exact I
theorem x_lean_2 {fa : Nat → Int} {σ : St} {d : FD} {fo : Nat} (hw : wfD d) (hd : XD d σ) (hf : ∀ i, i < 6 → sA σ 18 i = zI (fa i)) (hfb : ∀ i, i < 6 → -1000000 ≤ fa i ∧ fa i ≤ 1000000) (hfo : fo < 2 ^ nR d) : ∃ f', f_Showman_rulesThatHold_2 σ = some (zI (mk (rH d fa) (nR d)), uA σ 19 f') ∧ ((zI (mk (rH d fa) (nR d)) &&& zI fo = 0) ↔ ¬ rL d fa fo) := by
  have hr := hw.2.2.1
  have mb := mk_b (rH d fa) (nR d)
  have pb : 2 ^ nR d ≤ 2 ^ 6 := Nat.pow_le_pow_right (by omega) hr
  obtain ⟨f', e⟩ := x_rules_2 hw hd hf hfb (nR d) 0 FU (sA σ 19) (by omega) (FU_gt (by omega))
  rw [uA_same] at e
  refine ⟨f', e, ?_⟩
  rw [and_nat (by omega) (by omega)]
  have hle : mk (rH d fa) (nR d) &&& fo ≤ fo := Nat.and_le_right
  have e0 : (0 : Int32) = zI (0 : Nat) := rfl
  unfold rL
  rw [e0, zI_eq (by omega) (by omega) (by omega) (by omega)]
  constructor
  · intro h q
    exact q (by omega)
  · intro h
    have : mk (rH d fa) (nR d) &&& fo = 0 := Classical.byContradiction h
    rw [this]
theorem m_lean_loop {fa : Nat → Int} {σ : St} {d : FD} {fo : Nat} (hw : wfD d) (hd : MD d σ) (hf : ∀ i, i < 6 → sA σ 10 i = zI (fa i)) (hfb : ∀ i, i < 6 → -1000000 ≤ fa i ∧ fa i ≤ 1000000) (hfo : fo < 64) (h15 : sI σ 15 = zI fo) : ∀ (n k q : Nat) (τ : St), k + n = nR d → n < q → oS [14] [] [] [1] σ τ → ∃ τ', oS [14] [] [] [1] σ τ' ∧ ((f_M_isLeant_64 q (zI k) τ = some (1, τ') ∧ ∃ j, j < nR d ∧ rH d fa j = 1 ∧ fo.testBit j = true) ∨ (f_M_isLeant_64 q (zI k) τ = some (0, τ') ∧ ∀ j, k ≤ j → j < nR d → rH d fa j = 1 → fo.testBit j = true → False)) := by
  have hr := hw.2.2.1
  intro n
  induction n with
  | zero =>
    intro k q τ h1 h2 ho
    obtain ⟨q, rfl⟩ : ∃ r, q = r + 1 := ⟨q - 1, by omega⟩
    have hdτ : MD d τ := MD_oS hd ho (by decide) (by decide)
    refine ⟨τ, ho, .inr ⟨?_, fun j g1 g2 => by omega⟩⟩
    show f_M_isLeant_64b (f_M_isLeant_64 q) (zI k) τ = _
    unfold f_M_isLeant_64b
    rw [m_ruleMany hdτ, bp_s, if_pos (by rw [zI_le (by omega) (by omega) (by omega) (by omega)]; omega)]
  | succ n ih =>
    intro k q τ h1 h2 ho
    obtain ⟨q, rfl⟩ : ∃ r, q = r + 1 := ⟨q - 1, by omega⟩
    have hdτ : MD d τ := MD_oS hd ho (by decide) (by decide)
    have hfτ : ∀ i, i < 6 → sA τ 10 i = zI (fa i) := fun i hi => by rw [ho.2.2.1 10 (by decide)]; exact hf i hi
    have h15τ : sI τ 15 = zI fo := by rw [ho.1 15 (by decide)]; exact h15
    obtain ⟨f', hv, e⟩ := m_holds (σ := τ) hw hdτ hfτ hfb (show k < nR d by omega)
    have hoτ : oS [14] [] [] [1] σ (mS τ f' 1) := mS_o ho (by decide) (by decide)
    show ∃ τ', _ ∧ ((f_M_isLeant_64b (f_M_isLeant_64 q) (zI k) τ = _ ∧ _) ∨ (f_M_isLeant_64b (f_M_isLeant_64 q) (zI k) τ = _ ∧ _))
    unfold f_M_isLeant_64b
    have eb : (zI fo >>> (zI (k : Int) &&& 31)) &&& 1 = zI (fo / 2 ^ k % 2 : Nat) := bit_z (by omega) (by omega)
    have tb : fo.testBit k = true ↔ fo / 2 ^ k % 2 = 1 := by
      rw [Nat.testBit_eq_decide_div_mod_eq]
      simp
    have b01 : fo / 2 ^ k % 2 < 2 := Nat.mod_lt _ (by omega)
    rw [m_ruleMany hdτ, bp_s, if_neg (by rw [zI_le (by omega) (by omega) (by omega) (by omega)]; omega), h15τ, eb, e, bd_s, zS, lt_s', lt_s']
    by_cases c : fo / 2 ^ k % 2 = 1
    · rw [c, if_pos (by decide)]
      rcases hv with hv | hv
      · rw [hv, if_pos (by decide)]
        obtain ⟨τ', o1, o2⟩ := ih (k + 1) q _ (by omega) (by omega) hoτ
        refine ⟨τ', o1, ?_⟩
        rcases o2 with o2 | ⟨o2, o3⟩
        · exact .inl o2
        · refine .inr ⟨o2, fun j g1 g2 g3 g4 => ?_⟩
          by_cases q2 : j = k
          · subst q2
            omega
          · exact o3 j (by omega) g2 g3 g4
      · rw [hv, if_neg (by decide)]
        exact ⟨_, hoτ, .inl ⟨rfl, k, by omega, hv, tb.mpr c⟩⟩
    · have c0 : fo / 2 ^ k % 2 = 0 := by omega
      rw [c0, if_neg (by decide)]
      obtain ⟨τ', o1, o2⟩ := ih (k + 1) q τ (by omega) (by omega) ho
      refine ⟨τ', o1, ?_⟩
      rcases o2 with o2 | ⟨o2, o3⟩
      · exact .inl o2
      · refine .inr ⟨o2, fun j g1 g2 g3 g4 => ?_⟩
        by_cases q2 : j = k
        · subst q2
          exact c (tb.mp g4)
        · exact o3 j (by omega) g2 g3 g4
/-- the facts as both tell them -/
def fA (crowd tried last lady rings coins : Nat) (i : Nat) : Int := if i = 0 then crowd else if i = 1 then tried else if i = 2 then last else if i = 3 then lady else if i = 4 then rings else coins
theorem m_isLeant {σ : St} {d : FD} {fo t crowd tried last rings coins : Nat} (hw : wfD d) (hd : MD d σ) (ht : t < nT d) (hfo : fo < 64) (h15 : sI σ 15 = zI fo) (h17 : sI σ 17 = zI crowd) (h20 : sI σ 20 = zI tried) (h21 : sI σ 21 = zI last) (h18 : sI σ 18 = zI rings) (h19 : sI σ 19 = zI coins) (b1 : crowd ≤ 1000) (b2 : tried ≤ 1000) (b3 : last ≤ 1000) (b4 : rings ≤ 1000) (b5 : coins ≤ 1000) : ∃ σ1, f_M_isLeant (zI t) σ = some (zI (leN d (fA crowd tried last (tV d t 5) rings coins) fo), σ1) ∧ oS [14] [] [10] [1] σ σ1 := by
  have hT := hw.2.2.2.2.1 t ht
  have hl := hT.2.2.2.2.2.2
  unfold f_M_isLeant
  have s20 : ∀ f, sI (uA σ 10 f) 20 = zI tried := fun f => h20
  have s21 : ∀ f, sI (uA σ 10 f) 21 = zI last := fun f => h21
  have s18 : ∀ f, sI (uA σ 10 f) 18 = zI rings := fun f => h18
  have s19 : ∀ f, sI (uA σ 10 f) 19 = zI coins := fun f => h19
  have s5 : ∀ f, f_M_trierOf (zI t) 5 (uA σ 10 f) = some (zI (tV d t 5)) := fun f => m_trierOf (j := 5) hw (MD_oS hd (oS_uA (A := [10]) (I := []) (J := []) (B := []) (by decide) oS_r) (by decide) (by decide)) ht (by omega)
  simp only [lt_q, uA_uA, sA_eq, h17, s20, s21, s18, s19, s5, bp_q, cl0, cl1, cl2, cl3, cl4, cl5]
  generalize hg : upd _ 5 (zI (coins : Int)) = g
  have hgk : ∀ i, i < 6 → sA (uA σ 10 g) 10 i = zI (fA crowd tried last (tV d t 5) rings coins i) := by
    intro i hi
    rw [sA_eq, ← hg]
    match i, hi with
    | 0, _ => rfl
    | 1, _ => rfl
    | 2, _ => rfl
    | 3, _ => rfl
    | 4, _ => rfl
    | 5, _ => rfl
  have hfb : ∀ i, i < 6 → -1000000 ≤ fA crowd tried last (tV d t 5) rings coins i ∧ fA crowd tried last (tV d t 5) rings coins i ≤ 1000000 := by
    intro i hi
    unfold fA
    split
    · omega
    · split
      · omega
      · split
        · omega
        · split
          · omega
          · split <;> omega
  have ho : oS [14] [] [10] [1] σ (uA σ 10 g) := oS_uA (by decide) oS_r
  obtain ⟨τ', o1, o2⟩ := m_lean_loop (fo := fo) hw (MD_oS hd ho (by decide) (by decide)) hgk hfb hfo h15 (nR d) 0 FU _ (by omega) (FU_gt (by have := hw.2.2.1; omega)) oS_r
  refine ⟨τ', ?_, oS_t ho (oS_w o1 (by decide) (by decide) (by decide) (by decide))⟩
  rcases o2 with ⟨o2, o3⟩ | ⟨o2, o3⟩
  · have hL : rL d (fA crowd tried last (tV d t 5) rings coins) fo := rL_i.mpr o3
    rw [leN_1 hL]
    exact o2
  · have hL : ¬ rL d (fA crowd tried last (tV d t 5) rings coins) fo := fun h => by
      obtain ⟨j, j1, j2, j3⟩ := rL_i.mp h
      exact o3 j (by omega) j1 j2 j3
    rw [leN_0 hL]
    exact o2
theorem fA_b {crowd tried last lady rings coins : Nat} (b1 : crowd ≤ 1000) (b2 : tried ≤ 1000) (b3 : last ≤ 1000) (b0 : lady ≤ 1000) (b4 : rings ≤ 1000) (b5 : coins ≤ 1000) : ∀ i, i < 6 → -1000000 ≤ fA crowd tried last lady rings coins i ∧ fA crowd tried last lady rings coins i ≤ 1000000 := by
  intro i hi
  unfold fA
  split
  · omega
  · split
    · omega
    · split
      · omega
      · split
        · omega
        · split <;> omega
theorem sim_leans : Sim_leans Rel := by
  intro a1 a2 a3 a4 a5 σx σm h
  obtain ⟨z, h1, h2, rfl⟩ := zI_of a1
  obtain ⟨y, h3, h4, rfl⟩ := zI_of a2
  obtain ⟨x, h5, h6, rfl⟩ := zI_of a3
  obtain ⟨w, h7, h8, rfl⟩ := zI_of a4
  obtain ⟨v, h9, h10, rfl⟩ := zI_of a5
  have h' := h
  obtain ⟨hQ, d, hw, hx, hm, hS, a, w0, hs, ks, hh, hX, hM⟩ := h
  have hc := hh.2.1 a (Nat.le_refl a)
  unfold f_BH_leans f_M_leans f_BH_leans_50
  have e999 : (999 : Int32) = zI (999 : Nat) := rfl
  have e99 : (99 : Int32) = zI (99 : Nat) := rfl
  have e3 : (3 : Int32) = zI (3 : Nat) := rfl
  have i1 : f_M_isIn (zI y).toInt64 0 999 σm = some (if 0 ≤ y ∧ y ≤ 999 then zI 1 else zI 0) := by simp (disch := omega) only [zI_lit, zJ_lit, zI_neg, zJ_neg, zI_add, zI_sub, zI_mul, zJ_add, zJ_sub, zJ_mul, zI_lt, zI_le, zI_eq, zJ_lt, zJ_le, zJ_eq, zJ_w, zJ_n, in_z, zI_cl, zI_in, nz_z, nzJ_z, iMin_z, iMax_z, lg_cmp_lt, lg_cmp_le, lg_cmp_gt, lg_cmp_ge, lg_cmp_eq, lt_q, gd_q, bp_q, bd_q, Int.toNat_natCast, Int.toNat_zero, Int.toNat_one, Int.reduceToNat, ite_true, ite_false, bz, isB_i, isB0, isB1]
  have i2 : f_M_isIn (zI x).toInt64 0 3 σm = some (if 0 ≤ x ∧ x ≤ 3 then zI 1 else zI 0) := by simp (disch := omega) only [zI_lit, zJ_lit, zI_neg, zJ_neg, zI_add, zI_sub, zI_mul, zJ_add, zJ_sub, zJ_mul, zI_lt, zI_le, zI_eq, zJ_lt, zJ_le, zJ_eq, zJ_w, zJ_n, in_z, zI_cl, zI_in, nz_z, nzJ_z, iMin_z, iMax_z, lg_cmp_lt, lg_cmp_le, lg_cmp_gt, lg_cmp_ge, lg_cmp_eq, lt_q, gd_q, bp_q, bd_q, Int.toNat_natCast, Int.toNat_zero, Int.toNat_one, Int.reduceToNat, ite_true, ite_false, bz, isB_i, isB0, isB1]
  have i3 : f_M_isIn (zI w).toInt64 0 99 σm = some (if 0 ≤ w ∧ w ≤ 99 then zI 1 else zI 0) := by simp (disch := omega) only [zI_lit, zJ_lit, zI_neg, zJ_neg, zI_add, zI_sub, zI_mul, zJ_add, zJ_sub, zJ_mul, zI_lt, zI_le, zI_eq, zJ_lt, zJ_le, zJ_eq, zJ_w, zJ_n, in_z, zI_cl, zI_in, nz_z, nzJ_z, iMin_z, iMax_z, lg_cmp_lt, lg_cmp_le, lg_cmp_gt, lg_cmp_ge, lg_cmp_eq, lt_q, gd_q, bp_q, bd_q, Int.toNat_natCast, Int.toNat_zero, Int.toNat_one, Int.reduceToNat, ite_true, ite_false, bz, isB_i, isB0, isB1]
  have i4 : f_M_isIn (zI v).toInt64 0 99 σm = some (if 0 ≤ v ∧ v ≤ 99 then zI 1 else zI 0) := by simp (disch := omega) only [zI_lit, zJ_lit, zI_neg, zJ_neg, zI_add, zI_sub, zI_mul, zJ_add, zJ_sub, zJ_mul, zI_lt, zI_le, zI_eq, zJ_lt, zJ_le, zJ_eq, zJ_w, zJ_n, in_z, zI_cl, zI_in, nz_z, nzJ_z, iMin_z, iMax_z, lg_cmp_lt, lg_cmp_le, lg_cmp_gt, lg_cmp_ge, lg_cmp_eq, lt_q, gd_q, bp_q, bd_q, Int.toNat_natCast, Int.toNat_zero, Int.toNat_one, Int.reduceToNat, ite_true, ite_false, bz, isB_i, isB0, isB1]
  have j1 : f_BH_isWithin (zI y) 999 σx = some (if 0 ≤ y ∧ y ≤ 999 then zI 1 else zI 0) := x_isWithin (m := 999) σx h3 h4 (by omega)
  have j2 : f_BH_isWithin (zI x) 3 σx = some (if 0 ≤ x ∧ x ≤ 3 then zI 1 else zI 0) := x_isWithin (m := 3) σx h5 h6 (by omega)
  have j3 : f_BH_isWithin (zI w) 99 σx = some (if 0 ≤ w ∧ w ≤ 99 then zI 1 else zI 0) := x_isWithin (m := 99) σx h7 h8 (by omega)
  have j4 : f_BH_isWithin (zI v) 99 σx = some (if 0 ≤ v ∧ v ≤ 99 then zI 1 else zI 0) := x_isWithin (m := 99) σx h9 h10 (by omega)
  rw [x_isTrier hw hx h1 h2, m_isTrier hw hm h1 h2, i1, i2, i3, i4, j1, j2, j3, j4]
  simp only [bp_q]
  have no : ∀ A B C D E : Int32, f_BH_leans_51 A B C D E 0 σx = some (-1, σx) := fun A B C D E => rfl
  simp only [no]
  by_cases g1 : 0 ≤ z ∧ z < nT d
  · rw [if_neg (fun e => bz0.mp e g1), if_neg (fun e => bz0.mp e g1)]
    by_cases g2 : 0 ≤ y ∧ y ≤ 999
    · rw [if_neg (fun e => bz0.mp e g2), if_neg (fun e => bz0.mp e g2)]
      by_cases g3 : 0 ≤ x ∧ x ≤ 3
      · rw [if_neg (fun e => bz0.mp e g3), if_neg (fun e => bz0.mp e g3)]
        by_cases g4 : 0 ≤ w ∧ w ≤ 99
        · rw [if_neg (fun e => bz0.mp e g4), if_neg (fun e => bz0.mp e g4)]
          by_cases g5 : 0 ≤ v ∧ v ≤ 99
          · rw [if_neg (fun e => bz0.mp e g5), if_neg (fun e => bz0.mp e g5)]
            obtain ⟨t, rfl⟩ := Int.eq_ofNat_of_zero_le g1.1
            obtain ⟨y, rfl⟩ := Int.eq_ofNat_of_zero_le g2.1
            obtain ⟨x, rfl⟩ := Int.eq_ofNat_of_zero_le g3.1
            obtain ⟨w, rfl⟩ := Int.eq_ofNat_of_zero_le g4.1
            obtain ⟨v, rfl⟩ := Int.eq_ofNat_of_zero_le g5.1
            have ht : t < nT d := by omega
            have hT := hw.2.2.2.2.1 t ht
            have hr := hw.2.2.1
            have hfo : hs a 2 < 64 := by
              have : 2 ^ nR d ≤ 2 ^ 6 := Nat.pow_le_pow_right (by omega) hr
              have := hc.2.2.1
              omega
            -- M
            have m2 : sA σm 11 2 = zI (hs a 2) := hM.2.2.2.1.1 2 (by omega)
            rw [cl2, m2]
            simp only [lt_q]
            have hoM : oS [15, 17, 18, 19, 20, 21] [] [] [] σm (uI (uI (uI (uI (uI σm 15 (zI (hs a 2))) 17 (zI y)) 20 (zI x)) 21 (zI w)) 18 (zI v)) := oS_uI (by decide) (oS_uI (by decide) (oS_uI (by decide) (oS_uI (by decide) (oS_uI (by decide) oS_r))))
            have t3 : f_M_trierOf (zI t) 3 (uI (uI (uI (uI (uI σm 15 (zI (hs a 2))) 17 (zI y)) 20 (zI x)) 21 (zI w)) 18 (zI v)) = some (zI (tV d t 3)) := m_trierOf (j := 3) hw (MD_oS hm hoM (by decide) (by decide)) ht (by omega)
            rw [t3, bp_s]
            have hoM2 : oS [15, 17, 18, 19, 20, 21] [] [] [] σm (uI (uI (uI (uI (uI (uI σm 15 (zI (hs a 2))) 17 (zI y)) 20 (zI x)) 21 (zI w)) 18 (zI v)) 19 (zI (tV d t 3))) := oS_uI (by decide) hoM
            obtain ⟨τ, p1, p2⟩ := m_isLeant (σ := uI (uI (uI (uI (uI (uI σm 15 (zI (hs a 2))) 17 (zI y)) 20 (zI x)) 21 (zI w)) 18 (zI v)) 19 (zI (tV d t 3))) (fo := hs a 2) (t := t) (crowd := y) (tried := x) (last := w) (rings := v) (coins := tV d t 3) hw (MD_oS hm hoM2 (by decide) (by decide)) ht hfo rfl rfl rfl rfl rfl rfl (by omega) (by omega) (by omega) (by omega) (by have := hT.2.2.2.2.1; omega)
            rw [p1, bd_s]
            have hoM3 : oS [14, 15, 17, 18, 19, 20, 21] [] [10] [1] σm τ := oS_t (oS_w hoM2 (by decide) (by decide) (by decide) (by decide)) (oS_w p2 (by decide) (by decide) (by decide) (by decide))
            -- X
            unfold f_BH_leans_51 f_Showman_look f_Showman_lookAt
            rw [if_neg (by decide)]
            simp only [lt_q, bp_q, uA_uA, sA_eq, cl0, cl1, cl2, cl3, cl4, cl5]
            have tr5 : ∀ f, f_Fair_trait (zI t) 5 (uA σx 14 f) = some (zI (tV d t 5)) := fun f => x_trait (j := 5) hw (XD_oS hx (oS_uA (A := [14]) (I := []) (J := []) (B := []) (by decide) oS_r) (by decide) (by decide)) ht (by omega)
            have tr3 : ∀ f, f_Fair_trait (zI t) 3 (uA σx 14 f) = some (zI (tV d t 3)) := fun f => x_trait (j := 3) hw (XD_oS hx (oS_uA (A := [14]) (I := []) (J := []) (B := []) (by decide) oS_r) (by decide) (by decide)) ht (by omega)
            simp only [tr5, tr3, bp_q]
            generalize hg : upd _ 5 (zI (tV d t 3)) = g
            have hgk : ∀ i, i < 6 → sA (uA σx 14 g) 14 i = zI (fA y x w (tV d t 5) v (tV d t 3) i) := by
              intro i hi
              rw [sA_eq, ← hg]
              match i, hi with
              | 0, _ => rfl
              | 1, _ => rfl
              | 2, _ => rfl
              | 3, _ => rfl
              | 4, _ => rfl
              | 5, _ => rfl
            have hoX : oS [] [] [14, 15] [] σx (uA σx 14 g) := oS_uA (by decide) oS_r
            obtain ⟨f', q1, q2⟩ := x_lean (σ := uA σx 14 g) (fo := hs a 2) hw (XD_oS hx hoX (by decide) (by decide)) hgk (fA_b (by omega) (by omega) (by omega) (by have := hT.2.2.2.2.2.2; omega) (by omega) (by have := hT.2.2.2.2.1; omega)) hc.2.2.1
            have s19 : sI (uA (uA σx 14 g) 15 f') 19 = zI (hs a 2) := hX.2.1.2.2.1
            rw [q1, bd_s, s19]
            have hoX2 : oS [] [] [14, 15] [] σx (uA (uA σx 14 g) 15 f') := oS_uA (by decide) hoX
            have R := Rel_eM (Rel_eX h' (eX_oS hoX2 (by decide) (by decide))) (eM_oS hoM3 (by decide) (by decide) (by decide) (by decide))
            by_cases L : rL d (fA y x w (tV d t 5) v (tV d t 3)) (hs a 2)
            · rw [if_neg (fun e => q2.mp e L), leN_1 L, if_neg (by decide)]
              exact ⟨_, _, _, rfl, rfl, R⟩
            · rw [if_pos (q2.mpr L), leN_0 L, if_pos (by decide)]
              exact ⟨_, _, _, rfl, rfl, R⟩
          · rw [if_pos (bz0.mpr g5), if_pos (bz0.mpr g5)]
            exact ⟨_, _, _, rfl, rfl, h'⟩
        · rw [if_pos (bz0.mpr g4), if_pos (bz0.mpr g4)]
          exact ⟨_, _, _, rfl, rfl, h'⟩
      · rw [if_pos (bz0.mpr g3), if_pos (bz0.mpr g3)]
        exact ⟨_, _, _, rfl, rfl, h'⟩
    · rw [if_pos (bz0.mpr g2), if_pos (bz0.mpr g2)]
      exact ⟨_, _, _, rfl, rfl, h'⟩
  · rw [if_pos (bz0.mpr g1), if_pos (bz0.mpr g1)]
    exact ⟨_, _, _, rfl, rfl, h'⟩
