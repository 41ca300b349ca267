-- ===== tokens =====
/-- the kind of what stands at s; st: stuck to the word or number before -/
def kd (b : Nat → Nat) (n s : Nat) (st : Bool) : Nat := if n ≤ s then 0 else if isLt (b s) then (if st then 4 else 1) else if isDg (b s) then (if st then 4 else 2) else 3
def tk (b : Nat → Nat) (n s : Nat) (st : Bool) (σ : St) : Prop := sI σ 9 = zI s ∧ sI σ 8 = zI (kd b n s st) ∧ (s ≤ n ∧ (s < n → isSp (b s) = false)) ∧ (n ≤ s → sI σ 7 = zI s) ∧ (s < n → isLt (b s) = true → sI σ 7 = zI (s + rn isLt b n s : Nat) ∧ sI σ 10 = zI (rn isLt b n s) ∧ sI σ 11 = zI (wvP b s (rn isLt b n s))) ∧ (s < n → isDg (b s) = true → sI σ 7 = zI (s + rn isDg b n s : Nat) ∧ sI σ 10 = zI (rn isDg b n s) ∧ sI σ 11 = zI (dvL b s (min 4 (rn isDg b n s)))) ∧ (s < n → isLt (b s) = false → isDg (b s) = false → sI σ 7 = zI (s + 1 : Nat) ∧ sI σ 11 = zI (b s))
theorem lt_ndg {x : Nat} (h : isLt x = true) : isDg x = false := by
  have := lt_f h
  unfold isDg
  simp only [Bool.and_eq_false_iff, decide_eq_false_iff_not]
  omega
theorem dg_nlt {x : Nat} (h : isDg x = true) : isLt x = false := by
  have := dg_f h
  unfold isLt
  simp only [Bool.and_eq_false_iff, decide_eq_false_iff_not]
  omega
theorem s189_n {x1 x2 : Int32} {σ : St} (h : ¬ sI σ 8 = (1 : Int32)) (h2 : ¬ sI σ 8 = (2 : Int32)) : f_Reader_step_189 x1 x2 σ = some σ := by
  unfold f_Reader_step_189 f_Reader_step_210
  rw [if_neg h, if_neg h2, if_pos rfl]
theorem s205_e {x1 x2 : Int32} {σ : St} : f_Reader_step_205 x1 x2 σ = if x2 = 0 then some σ else if sI σ 9 = x1 then lt (uI σ 8 4) fun σ_1 => some σ_1 else some σ := by
  unfold f_Reader_step_205 f_Reader_step_210
  rw [if_neg (show ¬ (1 : Int32) = 0 by decide)]
theorem s189_y {x1 x2 : Int32} {σ : St} (h : sI σ 8 = (1 : Int32) ∨ sI σ 8 = (2 : Int32)) : f_Reader_step_189 x1 x2 σ = if x2 = 0 then some σ else if sI σ 9 = x1 then lt (uI σ 8 4) fun σ_1 => some σ_1 else some σ := by
  rw [← s205_e]
  unfold f_Reader_step_189
  rcases h with h | h
  · rw [if_pos h]
  · rw [if_neg (by rw [h]; decide), if_pos h]
section
variable {b : Nat → Nat} {n : Nat}
theorem x_skip {x1 x2 : Int32} {σ0 : St} (hT : tX' b n σ0) : ∀ (m p q : Nat) (σ : St), n - p ≤ m → m < q → p ≤ n → oS [7] [] [] [] σ0 σ → sI σ 7 = zI p → ∃ σ1, f_Reader_step_27 q x1 x2 σ = f_Reader_step_79 x1 x2 σ1 ∧ oS [7] [] [] [] σ0 σ1 ∧ sI σ1 7 = zI (skp b n p) := by
  obtain ⟨hn, t6, tb, tbl⟩ := id hT
  intro m
  induction m with
  | zero =>
    intro p q σ h1 h2 hp o h7
    obtain ⟨q, rfl⟩ : ∃ r, q = r + 1 := ⟨q - 1, by omega⟩
    have ep : p = n := by omega
    have q6 : sI σ 6 = zI n := by rw [o.1 6 (by decide)]; exact t6
    refine ⟨σ, ?_, o, by rw [ep, skp_0, ← ep]; exact h7⟩
    show f_Reader_step_27b (f_Reader_step_27 q) x1 x2 σ = _
    unfold f_Reader_step_27b
    rw [q6, h7, if_pos (by rw [zI_le (by omega) (by omega) (by omega) (by omega)]; omega)]
  | succ m ih =>
    intro p q σ h1 h2 hp o h7
    obtain ⟨q, rfl⟩ : ∃ r, q = r + 1 := ⟨q - 1, by omega⟩
    have q6 : sI σ 6 = zI n := by rw [o.1 6 (by decide)]; exact t6
    by_cases ep : p = n
    · exact ih p (q + 1) σ (by omega) (by omega) hp o h7
    · have hx := tbl p (by omega)
      have head : f_Reader_step_27 (q + 1) x1 x2 σ = if isSp (b p) = true then f_Reader_step_27 q x1 x2 (uI σ 7 (zI (p + 1 : Nat))) else f_Reader_step_79 x1 x2 σ := by
        show f_Reader_step_27b (f_Reader_step_27 q) x1 x2 σ = _
        unfold f_Reader_step_27b f_Reader_step_66
        rw [q6, h7, if_neg (by rw [zI_le (by omega) (by omega) (by omega) (by omega)]; omega), zI_in (by omega) (by omega) (by omega), gd_t, zI_cl (by omega) (by omega), Int.toNat_natCast, o.2.2.1 0 (by decide), tb p (by omega)]
        by_cases c10 : b p = 10
        · have hs : isSp (b p) = true := by
            unfold isSp
            simp [c10]
          rw [if_pos ((zb_10 hx).mpr c10), zS, lt_s', if_pos hs]
        · rw [if_neg (fun z => c10 ((zb_10 hx).mp z)), gd_t]
          by_cases c32 : b p = 32
          · have hs : isSp (b p) = true := by
              unfold isSp
              simp [c32]
            rw [if_pos ((zb_32 hx).mpr c32), zS, lt_s', if_pos hs]
          · have hs : ¬ isSp (b p) = true := by
              unfold isSp
              simp [c10, c32]
            rw [if_neg (fun z => c32 ((zb_32 hx).mp z)), if_neg hs]
      rw [head]
      cases hs : isSp (b p) with
      | true =>
        rw [if_pos rfl, skp_s (by omega) hs]
        exact ih (p + 1) q _ (by omega) (by omega) (by omega) (oS_uI (by decide) o) rfl
      | false =>
        rw [if_neg (by decide), skp_n (by omega) hs]
        exact ⟨σ, rfl, o, h7⟩
theorem x_tok {x1 : Int32} {a s : Nat} {fl : Bool} {σ : St} (hT : tX' b n σ) (hs : s ≤ n) (hsp : s < n → isSp (b s) = false) (h7 : sI σ 7 = zI s) (ha : a ≤ n) (hx : x1 = zI a) : ∃ σ1, f_Reader_step_79 x1 (if fl then 1 else 0) σ = some σ1 ∧ oS [7, 8, 9, 10, 11] [] [] [] σ σ1 ∧ tk b n s (fl && decide (s = a)) σ1 := by
  obtain ⟨hn, t6, tb, tbl⟩ := id hT
  have oA : oS [7, 8, 9, 10, 11] [] [] [] σ (uI (uI (uI σ 9 (zI s)) 10 0) 11 0) := oS_uI (by decide) (oS_uI (by decide) (oS_uI (by decide) oS_r))
  have s6 : sI (uI (uI (uI σ 9 (zI s)) 10 0) 11 0) 6 = zI n := t6
  have s7 : sI (uI (uI (uI σ 9 (zI s)) 10 0) 11 0) 7 = zI s := h7
  unfold f_Reader_step_79
  rw [h7, lt_s', lt_s', lt_s', s6, s7]
  by_cases c : n ≤ s
  · have es : s = n := by omega
    have ekd : ∀ st, kd b n s st = 0 := fun st => if_pos c
    rw [if_pos (by rw [zI_le (by omega) (by omega) (by omega) (by omega)]; omega)]
    unfold f_Reader_step_125
    have z8 : ∀ τ : St, sI (uI τ 8 0) 8 = (0 : Int32) := fun τ => rfl
    rw [lt_s', z8, if_neg (show ¬ (0 : Int32) = 3 by decide), if_neg (show ¬ (0 : Int32) = 1 by decide), if_neg (show ¬ (0 : Int32) = 2 by decide)]
    exact ⟨_, s189_n (by rw [z8]; decide) (by rw [z8]; decide), oS_uI (by decide) oA, rfl, by rw [ekd]; rfl, ⟨hs, hsp⟩, fun _ => h7, fun q => by omega, fun q => by omega, fun q => by omega⟩
  · have hlt : s < n := by omega
    rw [if_neg (by rw [zI_le (by omega) (by omega) (by omega) (by omega)]; omega), zI_in (by omega) (by omega) (by omega), gd_t, zI_cl (by omega) (by omega), Int.toNat_natCast]
    have hk : f_Reader_kindOf (sA (uI (uI (uI σ 9 (zI s)) 10 0) 11 0) 0 s) (uI (uI (uI σ 9 (zI s)) 10 0) 11 0) = some (zI (if isLt (b s) then 1 else if isDg (b s) then 2 else 3 : Nat)) := by
      have : sA (uI (uI (uI σ 9 (zI s)) 10 0) 11 0) 0 s = zI (b s) := tb s hlt
      rw [this]
      exact x_kindOf (tbl s hlt) _
    rw [hk, bp_s]
    unfold f_Reader_step_125
    rw [lt_s']
    cases hl : isLt (b s) with
    | true =>
      have hd := lt_ndg hl
      have ekd : ∀ st, kd b n s st = if st then 4 else 1 := fun st => by
        unfold kd
        rw [if_neg (by omega), if_pos hl]
      rw [if_pos rfl]
      have z8 : sI (uI (uI (uI (uI σ 9 (zI s)) 10 0) 11 0) 8 (zI (1 : Nat))) 8 = (1 : Int32) := rfl
      rw [z8, if_neg (show ¬ (1 : Int32) = 3 by decide), if_pos (show (1 : Int32) = 1 from rfl)]
      have oB : oS [7, 8, 9, 10, 11] [] [] [] σ (uI (uI (uI (uI σ 9 (zI s)) 10 0) 11 0) 8 (zI (1 : Nat))) := oS_uI (by decide) oA
      have hr := rn_b (P := isLt) (b := b) hs
      obtain ⟨σ1, w1, w2, w3, w4, w5⟩ := x_word (s := s) (tX_o hT oB (by decide) (by decide)) hs (rn isLt b n s) 0 FU _ (by omega) (FU_gt (by omega)) oS_r (by rw [Nat.add_zero]; exact h7) rfl rfl
      have w1' : f_Reader_readWord (uI (uI (uI (uI σ 9 (zI s)) 10 0) 11 0) 8 (zI (1 : Nat))) = some σ1 := w1
      have oC : oS [7, 8, 9, 10, 11] [] [] [] σ σ1 := oS_t oB (oS_w w2 (by decide) (by decide) (by decide) (by decide))
      have y9 : sI σ1 9 = zI s := by rw [w2.1 9 (by decide)]; rfl
      have y8 : sI σ1 8 = zI (1 : Nat) := by rw [w2.1 8 (by decide)]; rfl
      have y8' : sI σ1 8 = (1 : Int32) := y8
      rw [w1', bp_s, s189_y (.inl y8')]
      have fin : ∀ (σ' : St) (st : Bool), oS [7, 8, 9, 10, 11] [] [] [] σ σ' → sI σ' 9 = zI s → sI σ' 8 = zI (if st then 4 else 1 : Nat) → sI σ' 7 = zI (s + rn isLt b n s : Nat) → sI σ' 10 = zI (rn isLt b n s) → sI σ' 11 = zI (wvP b s (rn isLt b n s)) → tk b n s st σ' := fun σ' st _ a9 a8 a7 a10 a11 => ⟨a9, by rw [ekd]; exact a8, ⟨hs, hsp⟩, fun q => by omega, fun _ _ => ⟨a7, a10, a11⟩, fun _ q => absurd q (by rw [hd]; decide), fun _ q => absurd q (by rw [hl]; decide)⟩
      cases fl with
      | false =>
        rw [if_pos (by decide)]
        exact ⟨_, rfl, oC, fin σ1 false oC y9 y8 w3 w4 w5⟩
      | true =>
        rw [if_neg (by decide), y9, hx]
        by_cases q : s = a
        · rw [if_pos (by rw [q]), lt_s']
          refine ⟨_, rfl, oS_uI (by decide) oC, ?_⟩
          have : (true && decide (s = a)) = true := by simp [q]
          rw [this]
          exact fin _ true (oS_uI (by decide) oC) y9 rfl w3 w4 w5
        · rw [if_neg (by rw [zI_eq (by omega) (by omega) (by omega) (by omega)]; omega)]
          refine ⟨_, rfl, oC, ?_⟩
          have : (true && decide (s = a)) = false := by simp [q]
          rw [this]
          exact fin σ1 false oC y9 y8 w3 w4 w5
    | false =>
      rw [if_neg (show ¬ (false = true) by decide)]
      cases hd : isDg (b s) with
      | true =>
        have ekd : ∀ st, kd b n s st = if st then 4 else 2 := fun st => by
          unfold kd
          rw [if_neg (by omega), if_neg (by rw [hl]; decide), if_pos hd]
        rw [if_pos (show true = true from rfl)]
        have z8 : sI (uI (uI (uI (uI σ 9 (zI s)) 10 0) 11 0) 8 (zI (2 : Nat))) 8 = (2 : Int32) := rfl
        rw [z8, if_neg (show ¬ (2 : Int32) = 3 by decide), if_neg (show ¬ (2 : Int32) = 1 by decide), if_pos (show (2 : Int32) = 2 from rfl)]
        have oB : oS [7, 8, 9, 10, 11] [] [] [] σ (uI (uI (uI (uI σ 9 (zI s)) 10 0) 11 0) 8 (zI (2 : Nat))) := oS_uI (by decide) oA
        have hr := rn_b (P := isDg) (b := b) hs
        obtain ⟨σ1, w1, w2, w3, w4, w5⟩ := x_numb (s := s) (tX_o hT oB (by decide) (by decide)) hs (rn isDg b n s) 0 FU _ (by omega) (FU_gt (by omega)) oS_r (by rw [Nat.add_zero]; exact h7) rfl rfl
        have w1' : f_Reader_readNumber (uI (uI (uI (uI σ 9 (zI s)) 10 0) 11 0) 8 (zI (2 : Nat))) = some σ1 := w1
        have oC : oS [7, 8, 9, 10, 11] [] [] [] σ σ1 := oS_t oB (oS_w w2 (by decide) (by decide) (by decide) (by decide))
        have y9 : sI σ1 9 = zI s := by rw [w2.1 9 (by decide)]; rfl
        have y8 : sI σ1 8 = zI (2 : Nat) := by rw [w2.1 8 (by decide)]; rfl
        have y8' : sI σ1 8 = (2 : Int32) := y8
        rw [w1', bp_s, s189_y (.inr y8')]
        have fin : ∀ (σ' : St) (st : Bool), sI σ' 9 = zI s → sI σ' 8 = zI (if st then 4 else 2 : Nat) → sI σ' 7 = zI (s + rn isDg b n s : Nat) → sI σ' 10 = zI (rn isDg b n s) → sI σ' 11 = zI (dvL b s (min 4 (rn isDg b n s))) → tk b n s st σ' := fun σ' st a9 a8 a7 a10 a11 => ⟨a9, by rw [ekd]; exact a8, ⟨hs, hsp⟩, fun q => by omega, fun _ q => absurd q (by rw [hl]; decide), fun _ _ => ⟨a7, a10, a11⟩, fun _ _ q => absurd q (by rw [hd]; decide)⟩
        cases fl with
        | false =>
          rw [if_pos (by decide)]
          exact ⟨_, rfl, oC, fin σ1 false y9 y8 w3 w4 w5⟩
        | true =>
          rw [if_neg (by decide), y9, hx]
          by_cases q : s = a
          · rw [if_pos (by rw [q]), lt_s']
            refine ⟨_, rfl, oS_uI (by decide) oC, ?_⟩
            have : (true && decide (s = a)) = true := by simp [q]
            rw [this]
            exact fin _ true y9 rfl w3 w4 w5
          · rw [if_neg (by rw [zI_eq (by omega) (by omega) (by omega) (by omega)]; omega)]
            refine ⟨_, rfl, oC, ?_⟩
            have : (true && decide (s = a)) = false := by simp [q]
            rw [this]
            exact fin σ1 false y9 y8 w3 w4 w5
      | false =>
        have ekd : ∀ st, kd b n s st = 3 := fun st => by
          unfold kd
          rw [if_neg (by omega), if_neg (by rw [hl]; decide), if_neg (by rw [hd]; decide)]
        rw [if_neg (show ¬ (false = true) by decide)]
        have z8 : sI (uI (uI (uI (uI σ 9 (zI s)) 10 0) 11 0) 8 (zI (3 : Nat))) 8 = (3 : Int32) := rfl
        have z7 : ∀ v, sI (uI (uI (uI (uI (uI σ 9 (zI s)) 10 0) 11 0) 8 (zI (3 : Nat))) 11 v) 7 = zI s := fun v => h7
        have z70 : sI (uI (uI (uI (uI σ 9 (zI s)) 10 0) 11 0) 8 (zI (3 : Nat))) 7 = zI s := h7
        have z0 : sA (uI (uI (uI (uI σ 9 (zI s)) 10 0) 11 0) 8 (zI (3 : Nat))) 0 s = zI (b s) := tb s hlt
        rw [z8, if_pos rfl, z70, zI_in (by omega) (by omega) (by omega), gd_t, zI_cl (by omega) (by omega), Int.toNat_natCast, z0, lt_s', z7, zS, lt_s']
        have z8' : ∀ v w, sI (uI (uI (uI (uI (uI (uI σ 9 (zI s)) 10 0) 11 0) 8 (zI (3 : Nat))) 11 v) 7 w) 8 = (3 : Int32) := fun _ _ => rfl
        exact ⟨_, s189_n (by rw [z8']; decide) (by rw [z8']; decide), oS_uI (by decide) (oS_uI (by decide) (oS_uI (by decide) oA)), rfl, by rw [ekd]; rfl, ⟨hs, hsp⟩, fun q => by omega, fun _ q => absurd q (by rw [hl]; decide), fun _ q => absurd q (by rw [hd]; decide), fun _ _ _ => ⟨rfl, rfl⟩⟩
theorem x_step {a κ : Nat} {σ : St} (hT : tX' b n σ) (ha : a ≤ n) (h7 : sI σ 7 = zI a) (h8 : sI σ 8 = zI κ) (hκ : κ ≤ 4) : ∃ σ1, f_Reader_step σ = some σ1 ∧ oS [7, 8, 9, 10, 11] [] [] [] σ σ1 ∧ tk b n (skp b n a) (decide (κ = 1 ∨ κ = 2) && decide (skp b n a = a)) σ1 := by
  have hs := skp_b (b := b) ha
  have hn := hT.1
  have go : ∀ fl : Bool, ∃ σ1, f_Reader_step_27 FU (zI a) (if fl then 1 else 0) σ = some σ1 ∧ oS [7, 8, 9, 10, 11] [] [] [] σ σ1 ∧ tk b n (skp b n a) (fl && decide (skp b n a = a)) σ1 := by
    intro fl
    obtain ⟨σ1, w1, w2, w3⟩ := x_skip (x1 := zI a) (x2 := if fl then 1 else 0) hT (n - a) a FU σ (Nat.le_refl _) (FU_gt (by omega)) ha oS_r h7
    obtain ⟨σ2, u1, u2, u3⟩ := x_tok (a := a) (fl := fl) (tX_o hT w2 (by decide) (by decide)) hs.2 (fun h => skp_not (n - a) a (Nat.le_refl _) ha h) w3 ha rfl
    exact ⟨σ2, by rw [w1]; exact u1, oS_t (oS_w w2 (by decide) (by decide) (by decide) (by decide)) u2, u3⟩
  unfold f_Reader_step
  rw [h7, h8, lt_s']
  by_cases c1 : κ = 1
  · rw [if_pos (by rw [c1]; rfl)]
    have := go true
    rw [show decide (κ = 1 ∨ κ = 2) = true from by simp [c1]]
    exact this
  · have e1 : (1 : Int32) = zI (1 : Nat) := rfl
    have e2 : (2 : Int32) = zI (2 : Nat) := rfl
    rw [if_neg (by rw [e1, zI_eq (by omega) (by omega) (by omega) (by omega)]; omega)]
    by_cases c2 : κ = 2
    · rw [if_pos (by rw [c2]; rfl)]
      have := go true
      rw [show decide (κ = 1 ∨ κ = 2) = true from by simp [c2]]
      exact this
    · rw [if_neg (by rw [e2, zI_eq (by omega) (by omega) (by omega) (by omega)]; omega)]
      have := go false
      rw [show decide (κ = 1 ∨ κ = 2) = false from by simp [c1, c2]]
      exact this
end
