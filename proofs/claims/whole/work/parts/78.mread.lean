-- ===== M's reader =====
def tM' (b : Nat → Nat) (n : Nat) (σ : St) : Prop := n ≤ 1600 ∧ sI σ 2 = zI n ∧ (∀ k, k < n → sA σ 0 k = zI (b k)) ∧ (∀ k, k < n → b k < 256)
/-- M stands before the token at s -/
def mtk (b : Nat → Nat) (n s : Nat) (st : Bool) (σ : St) : Prop := ∃ (p : Nat) (e : Int), sI σ 1 = zI p ∧ sI σ 3 = zI e ∧ p ≤ s ∧ s ≤ n ∧ skp b n p = s ∧ -1 ≤ e ∧ e ≤ p ∧ (st = true ↔ e = s)
section
variable {b : Nat → Nat} {n : Nat}
theorem tM_o {σ σ' : St} {I J A B : List Nat} (h : tM' b n σ) (o : oS I J A B σ σ') (h2 : 2 ∉ I) (h0 : 0 ∉ A) : tM' b n σ' := by
  obtain ⟨a1, a2, a3, a4⟩ := h
  exact ⟨a1, by rw [o.1 2 h2]; exact a2, fun k hk => by rw [o.2.2.1 0 h0]; exact a3 k hk, a4⟩
def chA (b : Nat → Nat) (n s : Nat) : Int := if s < n then (b s : Int) else -1
theorem m_look_loop {σ0 : St} (hT : tM' b n σ0) : ∀ (m p q : Nat), n - p ≤ m → m < q → p ≤ n → f_M_look_0 q (uI σ0 1 (zI p)) = some (zI (chA b n (skp b n p)), uI σ0 1 (zI (skp b n p))) := by
  obtain ⟨hn, t2, tb, tbl⟩ := id hT
  have fin : ∀ p, p ≤ n → (p < n → isSp (b p) = false) → f_M_look_52 (uI σ0 1 (zI p)) = some (zI (chA b n p), uI σ0 1 (zI p)) := by
    intro p hp hsp
    unfold f_M_look_52 chA
    have q2 : sI (uI σ0 1 (zI p)) 2 = zI n := t2
    have q1 : sI (uI σ0 1 (zI p)) 1 = zI p := rfl
    have q0 : sA (uI σ0 1 (zI p)) 0 = sA σ0 0 := rfl
    rw [q2, q1, q0]
    by_cases c : p < n
    · rw [if_neg (by rw [zI_le (by omega) (by omega) (by omega) (by omega)]; omega), zI_in (by omega) (by omega) (by omega), gd_t, zI_cl (by omega) (by omega), Int.toNat_natCast, tb p c, if_pos c]
    · rw [if_pos (by rw [zI_le (by omega) (by omega) (by omega) (by omega)]; omega), if_neg c]
      rfl
  intro m
  induction m with
  | zero =>
    intro p q h1 h2 hp
    obtain ⟨q, rfl⟩ : ∃ r, q = r + 1 := ⟨q - 1, by omega⟩
    have ep : p = n := by omega
    have q2 : sI (uI σ0 1 (zI p)) 2 = zI n := t2
    have q1 : sI (uI σ0 1 (zI p)) 1 = zI p := rfl
    show f_M_look_0b (f_M_look_0 q) (uI σ0 1 (zI p)) = _
    unfold f_M_look_0b
    rw [q2, q1, if_pos (by rw [zI_le (by omega) (by omega) (by omega) (by omega)]; omega), fin p hp (fun h => by omega)]
    rw [ep, skp_0]
  | succ m ih =>
    intro p q h1 h2 hp
    obtain ⟨q, rfl⟩ : ∃ r, q = r + 1 := ⟨q - 1, by omega⟩
    by_cases ep : p = n
    · exact ih p (q + 1) (by omega) (by omega) hp
    · have q2 : sI (uI σ0 1 (zI p)) 2 = zI n := t2
      have q1 : sI (uI σ0 1 (zI p)) 1 = zI p := rfl
      have q0 : sA (uI σ0 1 (zI p)) 0 = sA σ0 0 := rfl
      have hb := tbl p (by omega)
      have e10 : (10 : Int32) = zI (10 : Nat) := rfl
      have e32 : (32 : Int32) = zI (32 : Nat) := rfl
      show f_M_look_0b (f_M_look_0 q) (uI σ0 1 (zI p)) = _
      unfold f_M_look_0b f_M_look_39
      rw [q2, q1, if_neg (by rw [zI_le (by omega) (by omega) (by omega) (by omega)]; omega), zI_in (by omega) (by omega) (by omega), gd_t, zI_cl (by omega) (by omega), Int.toNat_natCast, q0, tb p (by omega), gd_t, zS, lt_s', uI_uI]
      cases hs : isSp (b p) with
      | true =>
        rw [skp_s (by omega) hs, ih (p + 1) q (by omega) (by omega) (by omega)]
        have : b p = 10 ∨ b p = 32 := by
          unfold isSp at hs
          simpa using hs
        rcases this with h | h
        · rw [if_pos (by rw [h]; rfl)]
        · rw [if_neg (by rw [h]; decide), if_pos (by rw [h]; rfl)]
      | false =>
        rw [skp_n (by omega) hs, fin p hp (fun _ => hs)]
        have : b p ≠ 10 ∧ b p ≠ 32 := by
          unfold isSp at hs
          simpa using hs
        rw [if_neg (by rw [e10, zI_eq (by omega) (by omega) (by omega) (by omega)]; omega), if_neg (by rw [e32, zI_eq (by omega) (by omega) (by omega) (by omega)]; omega)]
theorem m_look {s : Nat} {st : Bool} {σ : St} (hT : tM' b n σ) (hm : mtk b n s st σ) : f_M_look σ = some (zI (chA b n s), uI σ 1 (zI s)) ∧ mtk b n s st (uI σ 1 (zI s)) := by
  obtain ⟨p, e, h1, h3, hp, hs, hk, he1, he2, hst⟩ := hm
  have := m_look_loop hT (n - p) p FU (Nat.le_refl _) (FU_gt (by have := hT.1; omega)) (by omega)
  rw [← h1, uI_same, hk] at this
  refine ⟨this, s, e, rfl, h3, Nat.le_refl _, hs, ?_, he1, by omega, hst⟩
  rw [← hk]
  exact skp_id (by omega)
theorem m_isLetter {x : Int} (σ : St) (h1 : -1 ≤ x) (h2 : x < 256) : f_M_isLetter (zI x) σ = some (if 97 ≤ x ∧ x ≤ 122 then zI 1 else zI 0) := by
  unfold f_M_isLetter
  simp (disch := omega) only [zI_lit, zJ_lit, zI_neg, zJ_neg, zI_add, zI_sub, zI_mul, zJ_add, zJ_sub, zJ_mul, zI_lt, zI_le, zI_eq, zJ_lt, zJ_le, zJ_eq, zJ_w, zJ_n, in_z, zI_cl, zI_in, nz_z, nzJ_z, iMin_z, iMax_z, lg_cmp_lt, lg_cmp_le, lg_cmp_gt, lg_cmp_ge, lg_cmp_eq, lt_q, gd_q, bp_q, bd_q, Int.toNat_natCast, Int.toNat_zero, Int.toNat_one, Int.reduceToNat, ite_true, ite_false, bz, isB_i, isB0, isB1]
  by_cases c : x < 97
  · rw [if_pos c, if_neg (by omega)]
  · rw [if_neg c]
    by_cases c2 : 122 < x
    · rw [if_pos c2, if_neg (by omega)]
    · rw [if_neg c2, if_pos (by omega)]
theorem m_isDigit {x : Int} (σ : St) (h1 : -1 ≤ x) (h2 : x < 256) : f_M_isDigit (zI x) σ = some (if 48 ≤ x ∧ x ≤ 57 then zI 1 else zI 0) := by
  unfold f_M_isDigit
  simp (disch := omega) only [zI_lit, zJ_lit, zI_neg, zJ_neg, zI_add, zI_sub, zI_mul, zJ_add, zJ_sub, zJ_mul, zI_lt, zI_le, zI_eq, zJ_lt, zJ_le, zJ_eq, zJ_w, zJ_n, in_z, zI_cl, zI_in, nz_z, nzJ_z, iMin_z, iMax_z, lg_cmp_lt, lg_cmp_le, lg_cmp_gt, lg_cmp_ge, lg_cmp_eq, lt_q, gd_q, bp_q, bd_q, Int.toNat_natCast, Int.toNat_zero, Int.toNat_one, Int.reduceToNat, ite_true, ite_false, bz, isB_i, isB0, isB1]
  by_cases c : x < 48
  · rw [if_pos c, if_neg (by omega)]
  · rw [if_neg c]
    by_cases c2 : 57 < x
    · rw [if_pos c2, if_neg (by omega)]
    · rw [if_neg c2, if_pos (by omega)]
theorem chA_b {s : Nat} (h : ∀ k, k < n → b k < 256) : -1 ≤ chA b n s ∧ chA b n s < 256 := by
  unfold chA
  by_cases c : s < n
  · rw [if_pos c]
    have := h s c
    omega
  · rw [if_neg c]
    omega
theorem chA_l {s : Nat} : (97 ≤ chA b n s ∧ chA b n s ≤ 122) ↔ (s < n ∧ isLt (b s) = true) := by
  unfold chA isLt
  by_cases c : s < n
  · rw [if_pos c]
    simp only [c, true_and, Bool.and_eq_true, decide_eq_true_eq]
    omega
  · rw [if_neg c]
    constructor
    · intro h; omega
    · intro h; exact absurd h.1 c
theorem chA_d {s : Nat} : (48 ≤ chA b n s ∧ chA b n s ≤ 57) ↔ (s < n ∧ isDg (b s) = true) := by
  unfold chA isDg
  by_cases c : s < n
  · rw [if_pos c]
    simp only [c, true_and, Bool.and_eq_true, decide_eq_true_eq]
    omega
  · rw [if_neg c]
    constructor
    · intro h; omega
    · intro h; exact absurd h.1 c
/-- word j stands at s, whole -/
def wAt (b : Nat → Nat) (n s j : Nat) : Prop := rn isLt b n s = wlen j ∧ ∀ i, i < wlen j → zI (b (s + i)) = wchr j i
theorem m_run {s j : Nat} {σ : St} (hT : tM' b n σ) (hs : s ≤ n) : ∀ (m k q : Nat), k + m = rn isLt b n s → m < q → f_M_isHere_35 j q (zI (s + k : Nat)) σ = f_M_isHere_61 j (zI (s + rn isLt b n s : Nat)) σ := by
  have hrb := rn_b (P := isLt) (b := b) hs
  obtain ⟨hn, t2, tb, tbl⟩ := id hT
  intro m
  induction m with
  | zero =>
    intro k q h1 h2
    obtain ⟨q, rfl⟩ : ∃ r, q = r + 1 := ⟨q - 1, by omega⟩
    have ek : k = rn isLt b n s := by omega
    show f_M_isHere_35b j (f_M_isHere_35 j q) (zI (s + k : Nat)) σ = _
    unfold f_M_isHere_35b
    rw [t2]
    by_cases c : s + k = n
    · rw [if_pos (by rw [zI_le (by omega) (by omega) (by omega) (by omega)]; omega), ek]
    · have hend := rn_end (P := isLt) (b := b) (n := n) (n - s) s (Nat.le_refl _) hs (by omega)
      rw [← ek] at hend
      have hbb := tbl (s + k) (by omega)
      have hnl : ¬ (97 ≤ (b (s + k) : Int) ∧ (b (s + k) : Int) ≤ 122) := by
        intro h
        unfold isLt at hend
        simp only [Bool.and_eq_false_iff, decide_eq_false_iff_not] at hend
        omega
      rw [if_neg (by rw [zI_le (by omega) (by omega) (by omega) (by omega)]; omega), zI_in (by omega) (by omega) (by omega), gd_t, zI_cl (by omega) (by omega), Int.toNat_natCast, tb (s + k) (by omega), m_isLetter σ (by omega) (by omega), bp_s, if_pos (bz0.mpr hnl), ek]
  | succ m ih =>
    intro k q h1 h2
    obtain ⟨q, rfl⟩ : ∃ r, q = r + 1 := ⟨q - 1, by omega⟩
    obtain ⟨hlt, hlt2⟩ := rn_all (P := isLt) (b := b) (n := n) (n - s) s (Nat.le_refl _) hs k (by omega)
    have hl := lt_f hlt
    have hbb := tbl (s + k) (by omega)
    show f_M_isHere_35b j (f_M_isHere_35 j q) (zI (s + k : Nat)) σ = _
    unfold f_M_isHere_35b
    rw [t2, if_neg (by rw [zI_le (by omega) (by omega) (by omega) (by omega)]; omega), zI_in (by omega) (by omega) (by omega), gd_t, zI_cl (by omega) (by omega), Int.toNat_natCast, tb (s + k) (by omega), m_isLetter σ (by omega) (by omega), bp_s, if_neg (fun e => bz0.mp e (by omega)), zS, lt_s']
    exact ih (k + 1) q (by omega) (by omega)
theorem wlen_b : ∀ j, wlen j ≤ 6 := by
  intro j
  by_cases h : j < 27
  · have : ∀ j : Fin 27, wlen j.val ≤ 6 := by decide
    exact this ⟨j, h⟩
  · unfold wlen
    have : wtab.getD j [] = [] := by
      rw [List.getD_eq_getElem?_getD, List.getElem?_eq_none (show wtab.length ≤ j from (show 27 ≤ j by omega))]
      rfl
    rw [this]
    exact Nat.zero_le _
theorem m_cmp {s j : Nat} {σ : St} (hT : tM' b n σ) (h1' : sI σ 1 = zI s) (hr : rn isLt b n s = wlen j) (hs : s ≤ n) : ∀ (m k q : Nat), k + m = wlen j → m < q → (∀ i, i < k → zI (b (s + i)) = wchr j i) → (f_M_isHere_76 j q (zI k) σ = some (1, σ) ∧ wAt b n s j) ∨ (f_M_isHere_76 j q (zI k) σ = some (0, σ) ∧ ¬ wAt b n s j) := by
  have hrb := rn_b (P := isLt) (b := b) hs
  have hwl := wlen_b j
  obtain ⟨hn, t2, tb, tbl⟩ := id hT
  have ew : Int32.ofNat (wlen j) = zI (wlen j) := by rw [← zI_n]; rfl
  intro m
  induction m with
  | zero =>
    intro k q g1 g2 g3
    obtain ⟨q, rfl⟩ : ∃ r, q = r + 1 := ⟨q - 1, by omega⟩
    refine .inl ⟨?_, hr, fun i hi => g3 i (by omega)⟩
    show f_M_isHere_76b j (f_M_isHere_76 j q) (zI k) σ = _
    unfold f_M_isHere_76b
    rw [ew, if_pos (by rw [zI_le (by omega) (by omega) (by omega) (by omega)]; omega)]
  | succ m ih =>
    intro k q g1 g2 g3
    obtain ⟨q, rfl⟩ : ∃ r, q = r + 1 := ⟨q - 1, by omega⟩
    have head : f_M_isHere_76 j (q + 1) (zI k) σ = if zI (b (s + k)) = wchr j k then f_M_isHere_76 j q (zI (k + 1 : Nat)) σ else some (0, σ) := by
      show f_M_isHere_76b j (f_M_isHere_76 j q) (zI k) σ = _
      unfold f_M_isHere_76b
      rw [ew, if_neg (by rw [zI_le (by omega) (by omega) (by omega) (by omega)]; omega), h1', zI_add, ← Int.natCast_add, zI_in (by omega) (by omega) (by omega), gd_t, zI_in (by omega) (by omega) (by omega), gd_t, zI_cl (by omega) (by omega), zI_cl (by omega) (by omega), Int.toNat_natCast, Int.toNat_natCast, tb (s + k) (by omega), zS, lt_s']
    rw [head]
    by_cases c : zI (b (s + k)) = wchr j k
    · rw [if_pos c]
      refine ih (k + 1) q (by omega) (by omega) (fun i hi => ?_)
      by_cases ci : i = k
      · rw [ci]; exact c
      · exact g3 i (by omega)
    · rw [if_neg c]
      exact .inr ⟨rfl, fun h => c (h.2 k (by omega))⟩
/-- is word j here? -/
theorem m_isHere {s j : Nat} {st : Bool} {σ : St} (hT : tM' b n σ) (hm : mtk b n s st σ) (hbad : sI σ 4 = 0) : ∃ σ1, σ1 = uI σ 1 (zI s) ∧ mtk b n s st σ1 ∧ ((f_M_isHere j σ = some (1, σ1) ∧ kd b n s st = 1 ∧ wAt b n s j) ∨ (f_M_isHere j σ = some (0, σ1) ∧ ¬ (kd b n s st = 1 ∧ wAt b n s j))) := by
  obtain ⟨L1, L2⟩ := m_look hT hm
  obtain ⟨hn, t2, tb, tbl⟩ := id hT
  have hc := chA_b (b := b) (n := n) (s := s) tbl
  have hT1 : tM' b n (uI σ 1 (zI s)) := tM_o hT (oS_uI (I := [1]) (J := []) (A := []) (B := []) (by decide) oS_r) (by decide) (by decide)
  refine ⟨_, rfl, L2, ?_⟩
  obtain ⟨p, e, h1, h3, hp, hs, hk, he1, he2, hst⟩ := hm
  unfold f_M_isHere
  have y1 : sI (uI σ 1 (zI s)) 1 = zI s := rfl
  have y3 : sI (uI σ 1 (zI s)) 3 = zI e := h3
  rw [if_pos hbad, L1, bd_s, m_isLetter _ hc.1 hc.2, bp_s, y1, y3]
  by_cases cl : s < n ∧ isLt (b s) = true
  · rw [if_neg (fun q => bz0.mp q (chA_l.mpr cl))]
    have ekd : kd b n s st = if st then 4 else 1 := by
      unfold kd
      rw [if_neg (by omega), if_pos cl.2]
    by_cases ce : e = s
    · rw [if_pos (by rw [ce])]
      have : st = true := hst.mpr ce
      rw [ekd, this]
      exact .inr ⟨rfl, fun h => absurd h.1 (by decide)⟩
    · have hst' : st = false := by
        cases st with
        | false => rfl
        | true => exact absurd (hst.mp rfl) ce
      rw [if_neg (by rw [zI_eq (by omega) (by omega) (by omega) (by omega)]; omega), lt_s']
      have hrb := rn_b (P := isLt) (b := b) hs
      have R := m_run (j := j) hT1 hs (rn isLt b n s) 0 FU (by omega) (FU_gt (by omega))
      rw [Nat.add_zero] at R
      rw [R]
      unfold f_M_isHere_61
      have hwl := wlen_b j
      have ew : Int32.ofNat (wlen j) = zI (wlen j) := by rw [← zI_n]; rfl
      have es : zI ((s + rn isLt b n s : Nat) : Int) - zI (s : Int) = zI (rn isLt b n s) := by
        rw [zI_sub]
        congr 1
        omega
      rw [y1, es, ew]
      by_cases cr : rn isLt b n s = wlen j
      · rw [if_pos (by rw [cr])]
        have ek1 : kd b n s st = 1 := by rw [ekd, hst']; rfl
        rcases m_cmp hT1 y1 cr hs (wlen j) 0 FU (by omega) (FU_gt (by omega)) (fun i hi => by omega) with ⟨a, b'⟩ | ⟨a, b'⟩
        · exact .inl ⟨a, ek1, b'⟩
        · exact .inr ⟨a, fun h => b' h.2⟩
      · rw [if_neg (by rw [zI_eq (by omega) (by omega) (by omega) (by omega)]; omega)]
        exact .inr ⟨rfl, fun h => cr h.2.1⟩
  · rw [if_pos (bz0.mpr (fun q => cl (chA_l.mp q)))]
    refine .inr ⟨rfl, fun h => ?_⟩
    have h1' := h.1
    unfold kd at h1'
    by_cases q1 : n ≤ s
    · rw [if_pos q1] at h1'
      exact absurd h1' (by decide)
    · rw [if_neg q1, if_neg (fun q => cl ⟨by omega, q⟩)] at h1'
      split at h1'
      · split at h1' <;> exact absurd h1' (by decide)
      · exact absurd h1' (by decide)
end
