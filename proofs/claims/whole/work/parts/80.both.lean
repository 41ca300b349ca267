-- ===== both read =====
def SY (b : Nat → Nat) (n s : Nat) (st : Bool) (σx σm : St) : Prop := tX' b n σx ∧ tM' b n σm ∧ tk b n s st σx ∧ mtk b n s st σm ∧ sI σm 4 = 0 ∧ rO σx
section
variable {b : Nat → Nat} {n : Nat}
theorem tk_o {s : Nat} {st : Bool} {σ σ' : St} {I J A B : List Nat} (h : tk b n s st σ) (o : oS I J A B σ σ') (hi : ∀ k, k ∈ [7, 8, 9, 10, 11] → k ∉ I) : tk b n s st σ' := by
  unfold tk
  rw [o.1 7 (hi 7 (by decide)), o.1 8 (hi 8 (by decide)), o.1 9 (hi 9 (by decide)), o.1 10 (hi 10 (by decide)), o.1 11 (hi 11 (by decide))]
  exact h
theorem mtk_o {s : Nat} {st : Bool} {σ σ' : St} {I J A B : List Nat} (h : mtk b n s st σ) (o : oS I J A B σ σ') (hi : ∀ k, k ∈ [1, 3] → k ∉ I) : mtk b n s st σ' := by
  unfold mtk
  rw [o.1 1 (hi 1 (by decide)), o.1 3 (hi 3 (by decide))]
  exact h
theorem SY_o {s : Nat} {st : Bool} {σx σx' σm σm' : St} {I J A B I' J' A' B' : List Nat} (h : SY b n s st σx σm) (o : oS I J A B σx σx') (o' : oS I' J' A' B' σm σm') (hi : ∀ k, k ∈ [6, 7, 8, 9, 10, 11] → k ∉ I) (ha : ∀ k, k ∈ [0, 1] → k ∉ A) (hi' : ∀ k, k ∈ [1, 2, 3, 4] → k ∉ I') (ha' : 0 ∉ A') : SY b n s st σx' σm' := by
  obtain ⟨a1, a2, a3, a4, a5, a6⟩ := h
  refine ⟨tX_o a1 o (hi 6 (by decide)) (ha 0 (by decide)), tM_o a2 o' (hi' 2 (by decide)) ha', tk_o a3 o (fun k hk => hi k (by revert hk; decide +revert)), mtk_o a4 o' (fun k hk => hi' k (by revert hk; decide +revert)), by rw [o'.1 4 (hi' 4 (by decide))]; exact a5, ?_⟩
  unfold rO
  rw [o.2.2.1 1 (ha 1 (by decide))]
  exact a6
theorem SY_look {s : Nat} {st : Bool} {σx σm : St} (h : SY b n s st σx σm) : f_M_look σm = some (zI (chA b n s), uI σm 1 (zI s)) ∧ SY b n s st σx (uI σm 1 (zI s)) := by
  obtain ⟨a1, a2, a3, a4, a5, a6⟩ := h
  obtain ⟨l1, l2⟩ := m_look a2 a4
  exact ⟨l1, a1, tM_o a2 (oS_uI (I := [1]) (J := []) (A := []) (B := []) (by decide) oS_r) (by decide) (by decide), a3, l2, a5, a6⟩
/-- after a token that ends at a -/
theorem SY_next {s a κ : Nat} {st : Bool} {σx σm σm' : St} (h : SY b n s st σx σm) (ha : a ≤ n) (hsa : s < a) (h7 : sI σx 7 = zI a) (hκ : kd b n s st = κ) (o : oS [1, 3] [] [] [] σm σm') (h1 : sI σm' 1 = zI a) (h3 : ((κ = 1 ∨ κ = 2) ∧ sI σm' 3 = zI a) ∨ (¬ (κ = 1 ∨ κ = 2) ∧ ∃ e : Int, sI σm' 3 = zI e ∧ -1 ≤ e ∧ e ≤ s)) : ∃ σx' s' st', f_Reader_step σx = some σx' ∧ oS [7, 8, 9, 10, 11] [] [] [] σx σx' ∧ SY b n s' st' σx' σm' ∧ s < s' := by
  obtain ⟨a1, a2, a3, a4, a5, a6⟩ := h
  obtain ⟨σx', w1, w2, w3⟩ := x_step a1 ha h7 a3.2.1 kd_b
  have hs' := skp_b (b := b) ha
  refine ⟨σx', skp b n a, _, w1, w2, ⟨tX_o a1 w2 (by decide) (by decide), tM_o a2 o (by decide) (by decide), w3, ?_, by rw [o.1 4 (by decide)]; exact a5, ?_⟩, by omega⟩
  · rw [hκ]
    rcases h3 with ⟨hk, h3⟩ | ⟨hk, e, h3, e1, e2⟩
    · refine ⟨a, (a : Int), h1, h3, hs'.1, hs'.2, rfl, by omega, by omega, ?_⟩
      rw [decide_eq_true hk, Bool.true_and, decide_eq_true_eq]
      omega
    · refine ⟨a, e, h1, h3, hs'.1, hs'.2, rfl, e1, by omega, ?_⟩
      rw [decide_eq_false hk, Bool.false_and]
      constructor
      · intro q; exact absurd q (by decide)
      · intro q; omega
  · unfold rO
    rw [w2.2.2.1 1 (by decide)]
    exact a6
theorem t_word {s j : Nat} {st : Bool} {σx σm : St} (h : SY b n s st σx σm) (hj : j < 27) : (∃ σx' σm' s' st', f_Reader_isWord (zI j) σx = some 1 ∧ f_Reader_step σx = some σx' ∧ f_M_isHere j σm = some (1, uI σm 1 (zI s)) ∧ f_M_takes j σm = some (1, σm') ∧ SY b n s' st' σx' σm' ∧ oS [7, 8, 9, 10, 11] [] [] [] σx σx' ∧ oS [1, 3] [] [] [] σm σm' ∧ s < s' ∧ (kd b n s st = 1 ∧ wAt b n s j)) ∨ (f_Reader_isWord (zI j) σx = some 0 ∧ f_M_isHere j σm = some (0, uI σm 1 (zI s)) ∧ f_M_takes j σm = some (0, uI σm 1 (zI s)) ∧ SY b n s st σx (uI σm 1 (zI s)) ∧ ¬ (kd b n s st = 1 ∧ wAt b n s j)) := by
  have h' := h
  obtain ⟨a1, a2, a3, a4, a5, a6⟩ := h
  have hn := a1.1
  obtain ⟨σ1, e1, m1, m2⟩ := m_isHere (j := j) a2 a4 a5
  obtain ⟨x1, x0⟩ := x_isWord (j := j) hn a3 a6 hj
  subst e1
  rcases m2 with ⟨m2, m3⟩ | ⟨m2, m3⟩
  · left
    have hx := x1 m3
    obtain ⟨g1, g2, g3⟩ := kd_1.mp m3.1
    obtain ⟨b7, b10, b11⟩ := a3.2.2.2.2.1 g1 g2
    have hr1 := rn_1 (P := isLt) g1 g2
    have hrb := rn_b (P := isLt) (b := b) (n := n) (p := s) (by omega)
    have hwl := m3.2.1
    have ew : Int32.ofNat (wlen j) = zI (wlen j) := by rw [← zI_n]; rfl
    have tk' : f_M_takes j σm = some (1, uI (uI (uI σm 1 (zI s)) 1 (zI (s + wlen j : Nat))) 3 (zI (s + wlen j : Nat))) := by
      unfold f_M_takes
      have y1 : sI (uI σm 1 (zI s)) 1 = zI s := rfl
      rw [m2, bd_s, if_neg (by decide), y1, ew, zI_add, ← Int.natCast_add, lt_s']
      rfl
    have oM : oS [1, 3] [] [] [] σm (uI (uI (uI σm 1 (zI s)) 1 (zI (s + wlen j : Nat))) 3 (zI (s + wlen j : Nat))) := oS_uI (by decide) (oS_uI (by decide) (oS_uI (by decide) oS_r))
    rw [hwl] at b7
    obtain ⟨σx', s', st', n1, n2, n3, n4⟩ := SY_next (a := s + wlen j) h' (by omega) (by omega) b7 m3.1 oM rfl (.inl ⟨.inl rfl, rfl⟩)
    exact ⟨σx', _, s', st', hx, n1, m2, tk', n3, n2, oM, n4, m3⟩
  · right
    refine ⟨x0 m3, m2, ?_, (SY_look h').2, m3⟩
    unfold f_M_takes
    rw [m2, bd_s, if_pos rfl]
/-- signs -/
def isSg (c : Nat) : Prop := isLt c = false ∧ isDg c = false ∧ isSp c = false ∧ c < 256
theorem x_isSign {s c : Nat} {st : Bool} {σ : St} (hT : tX' b n σ) (ht : tk b n s st σ) (hc : isSg c) : (s < n ∧ b s = c → f_Reader_isSign (zI c) σ = some 1) ∧ (¬ (s < n ∧ b s = c) → f_Reader_isSign (zI c) σ = some 0) := by
  obtain ⟨t9, t8, ⟨ts, tsp⟩, t0, tl, td, tn⟩ := ht
  have kb := kd_b (b := b) (n := n) (s := s) (st := st)
  have e3 : (3 : Int32) = zI (3 : Nat) := rfl
  unfold f_Reader_isSign
  rw [t8]
  by_cases q : s < n ∧ isLt (b s) = false ∧ isDg (b s) = false
  · have ek : kd b n s st = 3 := by
      unfold kd
      rw [if_neg (by omega), if_neg (by rw [q.2.1]; decide), if_neg (by rw [q.2.2]; decide)]
    obtain ⟨a7, a11⟩ := tn q.1 q.2.1 q.2.2
    have hb := hT.2.2.2 s q.1
    have hcc := hc.2.2.2
    rw [ek, if_pos (show zI ((3 : Nat) : Int) = (3 : Int32) from rfl), a11]
    have e : (zI (b s) = zI c) ↔ b s = c := by
      rw [zI_eq (by omega) (by omega) (by omega) (by omega)]
      omega
    constructor
    · intro h
      rw [if_pos (e.mpr h.2)]
    · intro h
      rw [if_neg (fun x => h ⟨q.1, e.mp x⟩)]
  · have ek : kd b n s st ≠ 3 := by
      unfold kd
      intro h
      by_cases c1 : n ≤ s
      · rw [if_pos c1] at h
        exact absurd h (by decide)
      · rw [if_neg c1] at h
        split at h
        · split at h <;> exact absurd h (by decide)
        · split at h
          · split at h <;> exact absurd h (by decide)
          · rename_i q1 q2
            exact q ⟨by omega, by simpa using q1, by simpa using q2⟩
    rw [if_neg (by rw [e3, zI_eq (by omega) (by omega) (by omega) (by omega)]; omega)]
    constructor
    · intro h
      exact absurd ⟨h.1, by rw [h.2]; exact hc.1, by rw [h.2]; exact hc.2.1⟩ q
    · intro _; rfl
theorem t_sign {s c : Nat} {st : Bool} {σx σm : St} (h : SY b n s st σx σm) (hc : isSg c) : (∃ σx' σm' s' st', f_Reader_isSign (zI c) σx = some 1 ∧ f_Reader_step σx = some σx' ∧ f_M_takesSign (zI c) σm = some (1, σm') ∧ SY b n s' st' σx' σm' ∧ oS [7, 8, 9, 10, 11] [] [] [] σx σx' ∧ oS [1, 3] [] [] [] σm σm' ∧ s < s' ∧ (s < n ∧ b s = c) ∧ sI σm' 1 = zI (s + 1 : Nat)) ∨ (f_Reader_isSign (zI c) σx = some 0 ∧ f_M_takesSign (zI c) σm = some (0, uI σm 1 (zI s)) ∧ SY b n s st σx (uI σm 1 (zI s)) ∧ ¬ (s < n ∧ b s = c)) := by
  have h' := h
  obtain ⟨l1, l2⟩ := SY_look h
  obtain ⟨a1, a2, a3, a4, a5, a6⟩ := h
  have hn := a1.1
  obtain ⟨x1, x0⟩ := x_isSign a1 a3 hc
  have hcb := chA_b (b := b) (n := n) (s := s) a2.2.2.2
  have hcc := hc.2.2.2
  by_cases q : s < n ∧ b s = c
  · left
    have ech : chA b n s = (c : Int) := by
      unfold chA
      rw [if_pos q.1, q.2]
    have ek : kd b n s st = 3 := by
      unfold kd
      rw [if_neg (by omega), if_neg (by rw [q.2, hc.1]; decide), if_neg (by rw [q.2, hc.2.1]; decide)]
    obtain ⟨b7, b11⟩ := a3.2.2.2.2.2.2 q.1 (by rw [q.2]; exact hc.1) (by rw [q.2]; exact hc.2.1)
    have tk' : f_M_takesSign (zI c) σm = some (1, uI (uI σm 1 (zI s)) 1 (zI (s + 1 : Nat))) := by
      unfold f_M_takesSign
      have y1 : sI (uI σm 1 (zI s)) 1 = zI s := rfl
      rw [if_pos a5, l1, bd_s, ech, if_pos rfl, y1, zS, lt_s']
    have oM : oS [1, 3] [] [] [] σm (uI (uI σm 1 (zI s)) 1 (zI (s + 1 : Nat))) := oS_uI (by decide) (oS_uI (by decide) oS_r)
    obtain ⟨p, e, p1, p3, pp, ps, pk, pe1, pe2, pst⟩ := a4
    obtain ⟨σx', s', st', n1, n2, n3, n4⟩ := SY_next (a := s + 1) h' (by omega) (by omega) b7 ek oM rfl (.inr ⟨by decide, e, p3, pe1, by omega⟩)
    exact ⟨σx', _, s', st', x1 q, n1, tk', n3, n2, oM, n4, q, rfl⟩
  · right
    refine ⟨x0 q, ?_, l2, q⟩
    unfold f_M_takesSign
    have ne : chA b n s ≠ (c : Int) := by
      unfold chA
      intro h
      by_cases q1 : s < n
      · rw [if_pos q1] at h
        exact q ⟨q1, by omega⟩
      · rw [if_neg q1] at h
        omega
    rw [if_pos a5, l1, bd_s, if_neg (by rw [zI_eq (by omega) (by omega) (by omega) (by omega)]; exact ne)]
/-- both have failed: fault f at pl -/
def FL (f pl : Nat) (σx σm : St) : Prop := 1 ≤ f ∧ f ≤ 5 ∧ sI σx 4 = zI f ∧ sI σx 5 = zI pl ∧ sI σm 4 = zI f ∧ sI σm 5 = zI pl
theorem m_fail {σ : St} (x1 x2 : Int32) (h : sI σ 4 = 0) : f_M_fail x1 x2 σ = some (uI (uI σ 4 x1) 5 x2) := by
  unfold f_M_fail
  rw [if_pos h]
  rfl
theorem x_tell (σ : St) (x1 x2 : Int32) : f_Parser_tell x1 x2 σ = some (0, uI (uI σ 4 x1) 5 x2) := rfl
theorem x_wrong {s : Nat} {st : Bool} {σ : St} (h : tk b n s st σ) : f_Parser_tellWrong σ = some (0, uI (uI σ 4 1) 5 (zI s)) := by
  unfold f_Parser_tellWrong
  rw [h.1, x_tell, bd_s]
  rfl
theorem FL_wrong {s : Nat} (σx σm : St) : FL 1 s (uI (uI σx 4 1) 5 (zI s)) (uI (uI σm 4 1) 5 (zI s)) := ⟨by omega, by omega, rfl, rfl, rfl, rfl⟩
theorem m_num {lo hi s : Nat} {σ0 : St} (hT : tM' b n σ0) (hbad : sI σ0 4 = 0) (hs : s ≤ n) (hlo : lo ≤ 9999) (hhi : hi ≤ 9999) : ∀ (m k q : Nat) (σ : St), k + m = rn isDg b n s → m < q → k ≤ 4 → oS [1] [] [] [] σ0 σ → sI σ 1 = zI (s + k : Nat) → (rn isDg b n s ≤ 4 ∧ lo ≤ dvL b s (rn isDg b n s) ∧ dvL b s (rn isDg b n s) ≤ hi ∧ ∃ σ1, f_M_number_49 q (zI lo) (zI hi) (zI s) (zI (dvL b s k)) σ = some (zI (dvL b s (rn isDg b n s)), σ1) ∧ oS [1, 3] [] [] [] σ0 σ1 ∧ sI σ1 1 = zI (s + rn isDg b n s : Nat) ∧ sI σ1 3 = zI (s + rn isDg b n s : Nat)) ∨ (rn isDg b n s ≤ 4 ∧ ¬ (lo ≤ dvL b s (rn isDg b n s) ∧ dvL b s (rn isDg b n s) ≤ hi) ∧ ∃ r σ1, f_M_number_49 q (zI lo) (zI hi) (zI s) (zI (dvL b s k)) σ = some (r, σ1) ∧ oS [1, 3, 4, 5] [] [] [] σ0 σ1 ∧ sI σ1 4 = zI (2 : Nat) ∧ sI σ1 5 = zI s) ∨ (4 < rn isDg b n s ∧ ∃ r σ1, f_M_number_49 q (zI lo) (zI hi) (zI s) (zI (dvL b s k)) σ = some (r, σ1) ∧ oS [1, 3, 4, 5] [] [] [] σ0 σ1 ∧ sI σ1 4 = zI (1 : Nat) ∧ sI σ1 5 = zI (s + 4 : Nat)) := by
  have hrb := rn_b (P := isDg) (b := b) hs
  obtain ⟨hn, t2, tb, tbl⟩ := id hT
  have hall := rn_all (P := isDg) (b := b) (n := n) (n - s) s (Nat.le_refl _) hs
  intro m
  induction m with
  | zero =>
    intro k q σ h1 h2 h3 o h7
    obtain ⟨q, rfl⟩ : ∃ r, q = r + 1 := ⟨q - 1, by omega⟩
    have ek : k = rn isDg b n s := by omega
    have q2 : sI σ 2 = zI n := by rw [o.1 2 (by decide)]; exact t2
    have hdv : dvL b s (rn isDg b n s) < 10000 := by
      have := dvL_b (b := b) (s := s) (rn isDg b n s) (fun i hi => (dg_f (hall i hi).1).2)
      have h4 : 10 ^ rn isDg b n s ≤ 10 ^ 4 := Nat.pow_le_pow_right (by omega) (by omega)
      omega
    -- the end of the digits
    have fin : (rn isDg b n s ≤ 4 ∧ lo ≤ dvL b s (rn isDg b n s) ∧ dvL b s (rn isDg b n s) ≤ hi ∧ ∃ σ1, f_M_number_129 (zI lo) (zI hi) (zI s) (zI (dvL b s k)) σ = some (zI (dvL b s (rn isDg b n s)), σ1) ∧ oS [1, 3] [] [] [] σ0 σ1 ∧ sI σ1 1 = zI (s + rn isDg b n s : Nat) ∧ sI σ1 3 = zI (s + rn isDg b n s : Nat)) ∨ (rn isDg b n s ≤ 4 ∧ ¬ (lo ≤ dvL b s (rn isDg b n s) ∧ dvL b s (rn isDg b n s) ≤ hi) ∧ ∃ r σ1, f_M_number_129 (zI lo) (zI hi) (zI s) (zI (dvL b s k)) σ = some (r, σ1) ∧ oS [1, 3, 4, 5] [] [] [] σ0 σ1 ∧ sI σ1 4 = zI (2 : Nat) ∧ sI σ1 5 = zI s) := by
      unfold f_M_number_129
      rw [ek] at h7
      rw [ek, h7, lt_s']
      have i1 : ∀ τ, f_M_isIn (zI (dvL b s (rn isDg b n s))).toInt64 (zI (lo : Int)).toInt64 (zI (hi : Int)).toInt64 τ = some (if (lo : Int) ≤ dvL b s (rn isDg b n s) ∧ (dvL b s (rn isDg b n s) : Int) ≤ hi then zI 1 else zI 0) := by
        intro τ
        rw [zJ_w (by omega) (by omega), zJ_w (by omega) (by omega), zJ_w (by omega) (by omega), in_z τ (by omega) (by omega) (by omega) (by omega) (by omega) (by omega)]
      rw [i1, bp_s]
      have oA : oS [1, 3] [] [] [] σ0 (uI σ 3 (zI (s + k : Nat))) := oS_uI (by decide) (oS_w o (by decide) (by decide) (by decide) (by decide))
      rw [ek] at oA
      by_cases c : lo ≤ dvL b s (rn isDg b n s) ∧ dvL b s (rn isDg b n s) ≤ hi
      · left
        rw [if_neg (fun e => bz0.mp e (by omega))]
        exact ⟨by omega, c.1, c.2, _, rfl, oA, h7, rfl⟩
      · right
        rw [if_pos (bz0.mpr (by omega))]
        have b4 : sI (uI σ 3 (zI (s + rn isDg b n s : Nat))) 4 = 0 := by
          show sI σ 4 = 0
          rw [o.1 4 (by decide)]
          exact hbad
        rw [m_fail 2 (zI s) b4, bp_s]
        exact ⟨by omega, c, _, _, rfl, oS_uI (by decide) (oS_uI (by decide) (oS_w oA (by decide) (by decide) (by decide) (by decide))), rfl, rfl⟩
    have key : f_M_number_49 (q + 1) (zI lo) (zI hi) (zI s) (zI (dvL b s k)) σ = f_M_number_129 (zI lo) (zI hi) (zI s) (zI (dvL b s k)) σ := by
      show f_M_number_49b (f_M_number_49 q) (zI lo) (zI hi) (zI s) (zI (dvL b s k)) σ = _
      unfold f_M_number_49b
      rw [q2, h7]
      by_cases c : s + k = n
      · rw [if_pos (by rw [zI_le (by omega) (by omega) (by omega) (by omega)]; omega)]
      · have hend := rn_end (P := isDg) (b := b) (n := n) (n - s) s (Nat.le_refl _) hs (by omega)
        rw [← ek] at hend
        have hbb := tbl (s + k) (by omega)
        have hnl : ¬ (48 ≤ (b (s + k) : Int) ∧ (b (s + k) : Int) ≤ 57) := by
          intro h
          unfold isDg at hend
          simp only [Bool.and_eq_false_iff, decide_eq_false_iff_not] at hend
          omega
        rw [if_neg (by rw [zI_le (by omega) (by omega) (by omega) (by omega)]; omega), zI_in (by omega) (by omega) (by omega), gd_t, zI_cl (by omega) (by omega), Int.toNat_natCast, o.2.2.1 0 (by decide), tb (s + k) (by omega), m_isDigit σ (by omega) (by omega), bp_s, if_pos (bz0.mpr hnl)]
    rw [key]
    rcases fin with f | f
    · exact .inl f
    · exact .inr (.inl f)
  | succ m ih =>
    intro k q σ h1 h2 h3 o h7
    obtain ⟨q, rfl⟩ : ∃ r, q = r + 1 := ⟨q - 1, by omega⟩
    obtain ⟨hlt, hlt2⟩ := hall k (by omega)
    have q2 : sI σ 2 = zI n := by rw [o.1 2 (by decide)]; exact t2
    have hl := dg_f hlt
    have hbb := tbl (s + k) (by omega)
    have e4 : (4 : Int32) = zI (4 : Nat) := rfl
    have es : zI ((s + k : Nat) : Int) - zI (s : Int) = zI (k : Int) := by
      rw [zI_sub]
      congr 1
      omega
    have ev : ((10 * zI (dvL b s k) + zI (b (s + k))) - 48 : Int32) = zI (dvL b s (k + 1)) := by
      have e : dvL b s (k + 1) = dvL b s k * 10 + (b (s + k) - 48) := rfl
      simp only [zI_lit, zI_mul, zI_add, zI_sub]
      congr 1
      rw [e]
      omega
    have key : f_M_number_49 (q + 1) (zI lo) (zI hi) (zI s) (zI (dvL b s k)) σ = if zI (k : Int) = 4 then bp (f_M_fail 1 (zI (s + k : Nat)) σ) (fun σ_8 => some (0, σ_8)) else f_M_number_49 q (zI lo) (zI hi) (zI s) (zI (dvL b s (k + 1))) (uI σ 1 (zI (s + k + 1 : Nat))) := by
      show f_M_number_49b (f_M_number_49 q) (zI lo) (zI hi) (zI s) (zI (dvL b s k)) σ = _
      unfold f_M_number_49b
      rw [q2, h7, if_neg (by rw [zI_le (by omega) (by omega) (by omega) (by omega)]; omega), zI_in (by omega) (by omega) (by omega), gd_t, zI_cl (by omega) (by omega), Int.toNat_natCast, o.2.2.1 0 (by decide), tb (s + k) (by omega), m_isDigit σ (by omega) (by omega), bp_s, if_neg (fun e => bz0.mp e (by omega)), es, gd_t, ev, zS, lt_s', lt_s']
    rw [key]
    by_cases c : k = 4
    · subst c
      rw [if_pos (by rfl)]
      have b4 : sI σ 4 = 0 := by rw [o.1 4 (by decide)]; exact hbad
      rw [m_fail 1 _ b4, bp_s]
      exact .inr (.inr ⟨by omega, _, _, rfl, oS_uI (by decide) (oS_uI (by decide) (oS_w o (by decide) (by decide) (by decide) (by decide))), rfl, rfl⟩)
    · rw [if_neg (by rw [e4, zI_eq (by omega) (by omega) (by omega) (by omega)]; omega)]
      exact ih (k + 1) q _ (by omega) (by omega) (by omega) (oS_uI (by decide) o) rfl
theorem t_number {s lo hi : Nat} {st : Bool} {σx σm : St} (h : SY b n s st σx σm) (hlo : lo ≤ 9999) (hhi : hi ≤ 9999) : (∃ (v : Nat) (σx' σm' : St) (s' : Nat) (st' : Bool), f_Parser_passNumber (zI lo) (zI hi) σx = some (zI v, σx') ∧ f_M_number (zI lo) (zI hi) σm = some (zI v, σm') ∧ SY b n s' st' σx' σm' ∧ oS [7, 8, 9, 10, 11] [] [] [] σx σx' ∧ oS [1, 3] [] [] [] σm σm' ∧ s < s' ∧ lo ≤ v ∧ v ≤ hi ∧ kd b n s st = 2) ∨ (∃ (f pl : Nat) (r : Int32) (σx' σm' : St), f_Parser_passNumber (zI lo) (zI hi) σx = some (zI (-1), σx') ∧ f_M_number (zI lo) (zI hi) σm = some (r, σm') ∧ FL f pl σx' σm' ∧ oS [4, 5] [] [] [] σx σx' ∧ oS [1, 3, 4, 5] [] [] [] σm σm') := by
  have h' := h
  obtain ⟨l1, l2⟩ := SY_look h
  obtain ⟨a1, a2, a3, a4, a5, a6⟩ := h
  have hn := a1.1
  have hcb := chA_b (b := b) (n := n) (s := s) a2.2.2.2
  have hkb := kd_b (b := b) (n := n) (s := s) (st := st)
  have e2 : (2 : Int32) = zI (2 : Nat) := rfl
  have oX : ∀ f pl, oS [4, 5] [] [] [] σx (uI (uI σx 4 f) 5 pl) := fun f pl => oS_uI (by decide) (oS_uI (by decide) oS_r)
  unfold f_Parser_passNumber f_Parser_passNumber_64 f_M_number f_M_number_30
  have y1 : sI (uI σm 1 (zI s)) 1 = zI s := rfl
  rw [if_pos a5, l1, bd_s, m_isDigit _ hcb.1 hcb.2, bp_s, y1, a3.2.1]
  by_cases c : kd b n s st = 2
  · obtain ⟨g1, g2, g3⟩ := kd_2.mp c
    obtain ⟨b7, b10, b11⟩ := a3.2.2.2.2.2.1 g1 g2
    have hr1 := rn_1 (P := isDg) g1 g2
    have hrb := rn_b (P := isDg) (b := b) (n := n) (p := s) (by omega)
    have hne : ¬ zI (s : Int) = sI (uI σm 1 (zI s)) 3 := by
      obtain ⟨p, e, p1, p3, pp, ps, pk, pe1, pe2, pst⟩ := a4
      have : sI (uI σm 1 (zI s)) 3 = zI e := p3
      rw [this, zI_eq (by omega) (by omega) (by omega) (by omega)]
      intro q
      have := pst.mpr q.symm
      rw [g3] at this
      exact absurd this (by decide)
    have hT1 := l2.2.1
    have b4' : sI (uI σm 1 (zI s)) 4 = 0 := a5
    have M := m_num (lo := lo) (hi := hi) hT1 b4' (by omega) hlo hhi (rn isDg b n s) 0 FU (uI σm 1 (zI s)) (by omega) (FU_gt (by omega)) (by omega) oS_r y1
    have o1 : oS [1, 3] [] [] [] σm (uI σm 1 (zI s)) := oS_uI (by decide) oS_r
    have o1' : oS [1, 3, 4, 5] [] [] [] σm (uI σm 1 (zI s)) := oS_uI (by decide) oS_r
    have e4 : (4 : Int32) = zI (4 : Nat) := rfl
    rw [if_neg (fun e => bz0.mp e (chA_d.mpr ⟨g1, g2⟩)), if_neg hne, lt_s', c, if_pos (show zI ((2 : Nat) : Int) = (2 : Int32) from rfl), b10, b11]
    rcases M with ⟨m1, m2, m3, σ1, m4, m5, m6, m7⟩ | ⟨m1, m2, r, σ1, m4, m5, m6, m7⟩ | ⟨m1, r, σ1, m4, m5, m6, m7⟩
    · have hall := rn_all (P := isDg) (b := b) (n := n) (n - s) s (Nat.le_refl _) (by omega)
      have oM := oS_t o1 m5
      obtain ⟨σx', s', st', n1, n2, n3, n4⟩ := SY_next (a := s + rn isDg b n s) h' (by omega) (by omega) b7 c oM m6 (.inl ⟨.inr rfl, m7⟩)
      left
      refine ⟨dvL b s (rn isDg b n s), σx', σ1, s', st', ?_, m4, n3, n2, oM, n4, m2, m3, rfl⟩
      rw [e4, if_pos (by rw [zI_le (by omega) (by omega) (by omega) (by omega)]; omega), Nat.min_eq_right m1, if_neg (by rw [zI_lt (by omega) (by omega) (by omega) (by omega)]; omega), if_pos (by rw [zI_le (by omega) (by omega) (by omega) (by omega)]; omega), n1, bp_s]
    · right
      have hall := rn_all (P := isDg) (b := b) (n := n) (n - s) s (Nat.le_refl _) (by omega)
      have hdv : dvL b s (rn isDg b n s) < 10000 := by
        have := dvL_b (b := b) (s := s) (rn isDg b n s) (fun i hi => (dg_f (hall i hi).1).2)
        have h4 : 10 ^ rn isDg b n s ≤ 10 ^ 4 := Nat.pow_le_pow_right (by omega) (by omega)
        omega
      refine ⟨2, s, r, _, σ1, ?_, m4, ⟨by omega, by omega, rfl, rfl, m6, m7⟩, oX 2 (zI s), oS_t o1' m5⟩
      rw [e4, if_pos (by rw [zI_le (by omega) (by omega) (by omega) (by omega)]; omega), Nat.min_eq_right m1, a3.1, x_tell, bd_s]
      by_cases q1 : dvL b s (rn isDg b n s) < lo
      · rw [if_pos (by rw [zI_lt (by omega) (by omega) (by omega) (by omega)]; omega)]
        rfl
      · rw [if_neg (by rw [zI_lt (by omega) (by omega) (by omega) (by omega)]; omega), if_neg (by rw [zI_le (by omega) (by omega) (by omega) (by omega)]; omega)]
        rfl
    · right
      have e5 : zI (s : Int) + zI ((4 : Nat) : Int) = zI (s + 4 : Nat) := by rw [zI_add]; rfl
      refine ⟨1, s + 4, r, _, σ1, ?_, m4, ⟨by omega, by omega, rfl, rfl, m6, m7⟩, oX 1 (zI (s + 4 : Nat)), oS_t o1' m5⟩
      rw [e4, if_neg (by rw [zI_le (by omega) (by omega) (by omega) (by omega)]; omega), a3.1, e5, x_tell, bd_s]
      rfl
  · right
    have hW := x_wrong a3
    have b4' : sI (uI σm 1 (zI s)) 4 = 0 := a5
    refine ⟨1, s, 0, _, uI (uI (uI σm 1 (zI s)) 4 1) 5 (zI s), ?_, ?_, FL_wrong σx _, oX 1 (zI s), oS_uI (by decide) (oS_uI (by decide) (oS_uI (by decide) oS_r))⟩
    · rw [if_neg (by rw [e2, zI_eq (by omega) (by omega) (by omega) (by omega)]; omega), hW, bd_s]
      rfl
    · have f := m_fail 1 (zI s) b4'
      rw [f, bp_s]
      by_cases q : 48 ≤ chA b n s ∧ chA b n s ≤ 57
      · rw [if_neg (fun e => bz0.mp e q)]
        obtain ⟨g1, g2⟩ := chA_d.mp q
        have hst : st = true := by
          cases st with
          | true => rfl
          | false => exact absurd (kd_2.mpr ⟨g1, g2, rfl⟩) c
        obtain ⟨p, e, p1, p3, pp, ps, pk, pe1, pe2, pst⟩ := a4
        have y3 : sI (uI σm 1 (zI s)) 3 = zI e := p3
        rw [y3, pst.mp hst, if_pos rfl]
      · rw [if_pos (bz0.mpr q)]
end
