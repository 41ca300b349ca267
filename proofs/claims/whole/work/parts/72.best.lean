-- ===== best, honest =====
theorem fill_k_loop {v : Int64} {σ : St} : ∀ (m k q : Nat) (f : Nat → Int64), k + m = 192 → m < q → (∀ i, i < k → f i = v) → ∃ f', f_Arrays_fill_J_2_6 q v (zI k) (zI (192 : Nat)) (uB σ 0 f) = some (uB σ 0 f') ∧ ∀ i, i < 192 → f' i = v := by
  intro m
  induction m with
  | zero =>
    intro k q f h1 h2 h3
    obtain ⟨q, rfl⟩ : ∃ r, q = r + 1 := ⟨q - 1, by omega⟩
    refine ⟨f, ?_, fun i hi => h3 i (by omega)⟩
    show f_Arrays_fill_J_2_6b (f_Arrays_fill_J_2_6 q) v (zI k) (zI (192 : Nat)) (uB σ 0 f) = _
    unfold f_Arrays_fill_J_2_6b
    rw [if_pos (by rw [zI_le (by omega) (by omega) (by omega) (by omega)]; omega)]
  | succ m ih =>
    intro k q f h1 h2 h3
    obtain ⟨q, rfl⟩ : ∃ r, q = r + 1 := ⟨q - 1, by omega⟩
    have st : f_Arrays_fill_J_2_6 (q + 1) v (zI k) (zI (192 : Nat)) (uB σ 0 f) = f_Arrays_fill_J_2_6 q v (zI (k + 1 : Nat)) (zI (192 : Nat)) (uB σ 0 (vp_updL f k v)) := by
      show f_Arrays_fill_J_2_6b (f_Arrays_fill_J_2_6 q) v (zI k) (zI (192 : Nat)) (uB σ 0 f) = _
      unfold f_Arrays_fill_J_2_6b
      rw [if_neg (by rw [zI_le (by omega) (by omega) (by omega) (by omega)]; omega), zI_in (by omega) (by omega) (by omega), gd_t, zI_cl (by omega) (by omega), Int.toNat_natCast, zS, lt_s', lt_s', uB_uB, sB_eq]
    rw [st]
    refine ih (k + 1) q _ (by omega) (by omega) (fun i hi => ?_)
    rw [updL_e]
    by_cases c : i = k
    · rw [if_pos c]
    · rw [if_neg c]
      exact h3 i (by omega)
theorem fill_k {v : Int64} (σ : St) : ∃ f, f_Arrays_fill_J_2 v σ = some (uB σ 0 f) ∧ ∀ i, i < 192 → f i = v := by
  obtain ⟨f, h1, h2⟩ := fill_k_loop (v := v) (σ := σ) 192 0 FU (sB σ 0) (by omega) (FU_gt (by omega)) (fun i hi => by omega)
  rw [uB_same] at h1
  exact ⟨f, h1, h2⟩
theorem fill_b_loop {v : Int64} {σ : St} : ∀ (m k q : Nat) (f : Nat → Int64), k + m = 64 → m < q → (∀ i, i < k → f i = v) → ∃ f', f_Arrays_fill_J_6 q v (zI k) (zI (64 : Nat)) (uB σ 1 f) = some (uB σ 1 f') ∧ ∀ i, i < 64 → f' i = v := by
  intro m
  induction m with
  | zero =>
    intro k q f h1 h2 h3
    obtain ⟨q, rfl⟩ : ∃ r, q = r + 1 := ⟨q - 1, by omega⟩
    refine ⟨f, ?_, fun i hi => h3 i (by omega)⟩
    show f_Arrays_fill_J_6b (f_Arrays_fill_J_6 q) v (zI k) (zI (64 : Nat)) (uB σ 1 f) = _
    unfold f_Arrays_fill_J_6b
    rw [if_pos (by rw [zI_le (by omega) (by omega) (by omega) (by omega)]; omega)]
  | succ m ih =>
    intro k q f h1 h2 h3
    obtain ⟨q, rfl⟩ : ∃ r, q = r + 1 := ⟨q - 1, by omega⟩
    have st : f_Arrays_fill_J_6 (q + 1) v (zI k) (zI (64 : Nat)) (uB σ 1 f) = f_Arrays_fill_J_6 q v (zI (k + 1 : Nat)) (zI (64 : Nat)) (uB σ 1 (vp_updL f k v)) := by
      show f_Arrays_fill_J_6b (f_Arrays_fill_J_6 q) v (zI k) (zI (64 : Nat)) (uB σ 1 f) = _
      unfold f_Arrays_fill_J_6b
      rw [if_neg (by rw [zI_le (by omega) (by omega) (by omega) (by omega)]; omega), zI_in (by omega) (by omega) (by omega), gd_t, zI_cl (by omega) (by omega), Int.toNat_natCast, zS, lt_s', lt_s', uB_uB, sB_eq]
    rw [st]
    refine ih (k + 1) q _ (by omega) (by omega) (fun i hi => ?_)
    rw [updL_e]
    by_cases c : i = k
    · rw [if_pos c]
    · rw [if_neg c]
      exact h3 i (by omega)
theorem fill_b {v : Int64} (σ : St) : ∃ f, f_Arrays_fill_J v σ = some (uB σ 1 f) ∧ ∀ i, i < 64 → f i = v := by
  obtain ⟨f, h1, h2⟩ := fill_b_loop (v := v) (σ := σ) 64 0 FU (sB σ 1) (by omega) (FU_gt (by omega)) (fun i hi => by omega)
  rw [uB_same] at h1
  exact ⟨f, h1, h2⟩
theorem fill_r_loop {v : Int32} {σ : St} : ∀ (m k q : Nat) (f : Nat → Int32), k + m = 192 → m < q → (∀ i, i < k → f i = v) → ∃ f', f_Arrays_fill_I_5 q v (zI k) (zI (192 : Nat)) (uA σ 20 f) = some (uA σ 20 f') ∧ ∀ i, i < 192 → f' i = v := by
  intro m
  induction m with
  | zero =>
    intro k q f h1 h2 h3
    obtain ⟨q, rfl⟩ : ∃ r, q = r + 1 := ⟨q - 1, by omega⟩
    refine ⟨f, ?_, fun i hi => h3 i (by omega)⟩
    show f_Arrays_fill_I_5b (f_Arrays_fill_I_5 q) v (zI k) (zI (192 : Nat)) (uA σ 20 f) = _
    unfold f_Arrays_fill_I_5b
    rw [if_pos (by rw [zI_le (by omega) (by omega) (by omega) (by omega)]; omega)]
  | succ m ih =>
    intro k q f h1 h2 h3
    obtain ⟨q, rfl⟩ : ∃ r, q = r + 1 := ⟨q - 1, by omega⟩
    have st : f_Arrays_fill_I_5 (q + 1) v (zI k) (zI (192 : Nat)) (uA σ 20 f) = f_Arrays_fill_I_5 q v (zI (k + 1 : Nat)) (zI (192 : Nat)) (uA σ 20 (upd f k v)) := by
      show f_Arrays_fill_I_5b (f_Arrays_fill_I_5 q) v (zI k) (zI (192 : Nat)) (uA σ 20 f) = _
      unfold f_Arrays_fill_I_5b
      rw [if_neg (by rw [zI_le (by omega) (by omega) (by omega) (by omega)]; omega), zI_in (by omega) (by omega) (by omega), gd_t, zI_cl (by omega) (by omega), Int.toNat_natCast, zS, lt_s', lt_s', uA_uA, sA_eq]
    rw [st]
    refine ih (k + 1) q _ (by omega) (by omega) (fun i hi => ?_)
    rw [upd_e]
    by_cases c : i = k
    · rw [if_pos c]
    · rw [if_neg c]
      exact h3 i (by omega)
theorem fill_r {v : Int32} (σ : St) : ∃ f, f_Arrays_fill_I v σ = some (uA σ 20 f) ∧ ∀ i, i < 192 → f i = v := by
  obtain ⟨f, h1, h2⟩ := fill_r_loop (v := v) (σ := σ) 192 0 FU (sA σ 20) (by omega) (FU_gt (by omega)) (fun i hi => by omega)
  rw [uA_same] at h1
  exact ⟨f, h1, h2⟩
theorem ix_b {k near led : Nat} (h1 : k ≤ 3) (h2 : near ≤ k) (h3 : led < 12) : ix k near led < 192 := by unfold ix; omega
/-- a trier's part, and all together -/
noncomputable def qT (d : FD) (c : Nat → Nat) (fo be t : Nat) : Nat := (60 / (tV d t 1 + 1)) ^ sV d 0 * TR d c fo be t vK
noncomputable def QQ (d : FD) (c : Nat → Nat) (fo be : Nat) (n : Nat) : Nat := sm (qT d c fo be) n 0
def pP (d : FD) : Nat := 60 ^ (4 - sV d 0)
section
variable {d : FD} {c : Nat → Nat} {fo be t : Nat}
theorem d60 (hB1 : tV d t 1 ≤ 5) : (60 / (tV d t 1 + 1)) ^ sV d 0 * (tV d t 1 + 1) ^ sV d 0 = 60 ^ sV d 0 := by
  have hB : 60 / (tV d t 1 + 1) * (tV d t 1 + 1) = 60 := by
    rcases (show tV d t 1 = 0 ∨ tV d t 1 = 1 ∨ tV d t 1 = 2 ∨ tV d t 1 = 3 ∨ tV d t 1 = 4 ∨ tV d t 1 = 5 by omega) with h | h | h | h | h | h <;> rw [h]
  rw [← Nat.mul_pow, hB]
theorem TR_NB (hw : wfD d) : TR d c fo be t vK = NB d c fo be t (sV d 0) 0 (cb d 0 0) 0 := by
  have h := NB_TS (d := d) (c := c) (fo := fo) (be := be) (t := t) (sV d 0) 0 (sV d 1) 0 0 0
  rw [Nat.zero_mul, Nat.zero_add] at h
  have hs := hw.2.2.2.2.2.1.2.2.1
  have e : cb d 0 0 = sV d 1 := by
    unfold cb
    rw [Nat.zero_mul, Nat.sub_self, Nat.zero_mul]
    omega
  rw [e]
  exact h
end
section
variable {d : FD} {c : Nat → Nat}
theorem TR_b {fo be t : Nat} (s2 : sV d 0 ≤ 4) (s3 : sV d 1 ≤ 99) : TR d c fo be t vK ≤ 4 * (tV d t 1 + 1) ^ sV d 0 := TS_b (K := 4) (R := 4) (fun k cr rg lf h _ _ _ => h) (sV d 0) 0 (sV d 1) 0 0 0 (by omega) (by omega) (by omega) (by omega)
theorem qT_b {fo be t : Nat} (hw : wfD d) (ht : t < nT d) : qT d c fo be t ≤ 4 * 60 ^ sV d 0 := by
  have h1 := (hw.2.2.2.2.1 t ht).2.2.1
  have s := hw.2.2.2.2.2.1
  have h2 := TR_b (d := d) (c := c) (fo := fo) (be := be) (t := t) s.2.1 s.2.2.1
  unfold qT
  refine Nat.le_trans (Nat.mul_le_mul_left _ h2) ?_
  rw [Nat.mul_left_comm, d60 h1]
  exact Nat.le_refl _
theorem QQ_b {fo be : Nat} (hw : wfD d) : ∀ n, n ≤ nT d → QQ d c fo be n ≤ n * (4 * 60 ^ sV d 0) := by
  intro n
  induction n with
  | zero => intro _; exact Nat.zero_le _
  | succ n ih =>
    intro hn
    have a := ih (by omega)
    have b := qT_b (d := d) (c := c) (fo := fo) (be := be) (t := n) hw (by omega)
    unfold QQ at *
    rw [sm_last, Nat.zero_add, Nat.succ_mul]
    omega
theorem QQ_B {fo be : Nat} (hw : wfD d) : QQ d c fo be (nT d) * pP d ≤ 500000000 := by
  have h1 := QQ_b (d := d) (c := c) (fo := fo) (be := be) hw (nT d) (Nat.le_refl _)
  have s2 := hw.2.2.2.2.2.1.2.1
  have hn := hw.2.1
  have e : 60 ^ sV d 0 * pP d = 12960000 := by
    unfold pP
    rw [← Nat.pow_add]
    have : sV d 0 + (4 - sV d 0) = 4 := by omega
    rw [this]
  have h2 : QQ d c fo be (nT d) * pP d ≤ nT d * (4 * 60 ^ sV d 0) * pP d := Nat.mul_le_mul_right _ h1
  have e2 : nT d * (4 * 60 ^ sV d 0) * pP d = nT d * 4 * (60 ^ sV d 0 * pP d) := by
    rw [← Nat.mul_assoc, Nat.mul_assoc]
  rw [e2, e] at h2
  have h3 : nT d * 4 * 12960000 ≤ 8 * 4 * 12960000 := Nat.mul_le_mul_right _ (Nat.mul_le_mul_right _ hn)
  omega
theorem pP_pos : 0 < pP d := Nat.pow_pos (by omega)
/-- X's number for one trier -/
theorem x_value {fo be t : Nat} {σ : St} (hw : wfD d) (ht : t < nT d) (hfo : fo < 2 ^ nR d) (hp : c 5 ≤ 9) (hsl : c 4 ≤ 90) (hb : be ≤ 99) (hx : XD d σ) (hL : xL 40 17 d c t be σ) (hR : fo = 0 ∨ memR d c be t σ) : ∃ σ0 σ1, f_Arrays_fill_J_2 (-1) σ = some σ0 ∧ oS [] [] [] [0] σ σ0 ∧ f_Tree_blowsFrom 6 (zI fo) 0 0 0 0 12960000 σ0 = some (zJ (qT d c fo be t * pP d : Nat), σ1) ∧ oS [] [] [18, 19, 20] [0] σ0 σ1 ∧ (memR d c be t σ → memR d c be t σ1) := by
  obtain ⟨f, f1, f2⟩ := fill_k (v := -1) σ
  have o0 : oS [] [] [] [0] σ (uB σ 0 f) := oS_uB (by decide) oS_r
  have hB : memB d c fo be t (uB σ 0 f) := by
    intro k near led b1 b2 b3
    rw [sB_eq]
    exact .inl (f2 _ (ix_b b1 b2 b3))
  have hR0 : fo = 0 ∨ memR d c be t (uB σ 0 f) := hR
  obtain ⟨σ1, w1, w2, w3, w4⟩ := bf_all hw ht hfo hp hsl hb (sV d 0) 6 0 0 0 0 (uB σ 0 f) (by have := hw.2.2.2.2.2.1.2.1; omega) (by omega) (by omega) (by omega) (fun _ => rfl) (by omega) (XD_oS hx o0 (by decide) (by decide)) (xL_o2 hL o0 (by decide) (by decide)) hB hR0
  refine ⟨_, σ1, f1, o0, ?_, w2, w4⟩
  have ev : wU (tV d t 1 + 1) (sV d 0) (sV d 0) * NB d c fo be t (sV d 0) 0 (cb d 0 0) 0 = qT d c fo be t * pP d := by
    rw [← TR_NB hw]
    unfold wU qT pP
    rw [Nat.mul_right_comm]
  rw [ev] at w1
  exact w1
-- ===== best =====
/-- the sums by rules, with n triers done -/
def bS (d : FD) (c : Nat → Nat) (be n : Nat) (lo : Nat) (σ : St) : Prop := ∀ fo, fo < 2 ^ nR d → sB σ 1 fo = zJ ((if fo < lo then QQ d c fo be (n + 1) else QQ d c fo be n) * pP d : Nat)
theorem rules_in {t : Nat} (hw : wfD d) (ht : t < nT d) (hp : c 5 ≤ 9) (hsl : c 4 ≤ 90) (hb : c 3 ≤ 99) (K : Int32 → Int32 → St → Option St) : ∀ (n fo q : Nat) (σ : St), fo + n = 2 ^ nR d → n < q → XD d σ → xL 40 17 d c t (c 3) σ → memR d c (c 3) t σ → bS d c (c 3) t fo σ → ∃ σ1, f_Tree_weighRules_54 K q (zI (2 ^ nR d : Nat)) (zI t) (zI fo) σ = K (zI (2 ^ nR d : Nat)) (zI (t + 1 : Nat)) σ1 ∧ oS [] [] [18, 19, 20] [0, 1] σ σ1 ∧ bS d c (c 3) (t + 1) 0 σ1 := by
  have pb : 2 ^ nR d ≤ 64 := Nat.pow_le_pow_right (by omega) hw.2.2.1
  have hn8 := hw.2.1
  intro n
  induction n with
  | zero =>
    intro fo q σ h1 h2 hx hL hR hS
    obtain ⟨q, rfl⟩ : ∃ r, q = r + 1 := ⟨q - 1, by omega⟩
    refine ⟨σ, ?_, oS_r, fun fo' hfo' => ?_⟩
    · show f_Tree_weighRules_54b K (f_Tree_weighRules_54 K q) (zI (2 ^ nR d : Nat)) (zI t) (zI fo) σ = _
      unfold f_Tree_weighRules_54b
      generalize 2 ^ nR d = F at *
      rw [if_pos (by rw [zI_le (by omega) (by omega) (by omega) (by omega)]; omega), zS, lt_s']
    · rw [hS fo' hfo', if_pos (by omega), if_neg (by omega)]
  | succ n ih =>
    intro fo q σ h1 h2 hx hL hR hS
    obtain ⟨q, rfl⟩ : ∃ r, q = r + 1 := ⟨q - 1, by omega⟩
    obtain ⟨σ0, σ1, v1, v2, v3, v4, v5⟩ := x_value (fo := fo) hw ht (by omega) hp hsl hb hx hL (.inr hR)
    have e1 : sB σ0 1 fo = zJ (QQ d c fo (c 3) t * pP d : Nat) := by
      rw [v2.2.2.2 1 (by decide), hS fo (by omega), if_neg (by omega)]
    have eQ : QQ d c fo (c 3) t * pP d + qT d c fo (c 3) t * pP d = QQ d c fo (c 3) (t + 1) * pP d := by
      unfold QQ
      rw [sm_last, Nat.zero_add, Nat.add_mul]
    have oA : oS [] [] [18, 19, 20] [0, 1] σ σ1 := oS_t (oS_w v2 (by decide) (by decide) (by decide) (by decide)) (oS_w v4 (by decide) (by decide) (by decide) (by decide))
    have oB : oS [] [] [18, 19, 20] [0, 1] σ (uB σ1 1 (vp_updL (sB σ1 1) fo (zJ (QQ d c fo (c 3) (t + 1) * pP d : Nat)))) := oS_uB (by decide) oA
    obtain ⟨σ2, w1, w2, w3⟩ := ih (fo + 1) q (uB σ1 1 (vp_updL (sB σ1 1) fo (zJ (QQ d c fo (c 3) (t + 1) * pP d : Nat)))) (by omega) (by omega) (XD_oS hx oB (by decide) (by decide)) (xL_o2 hL oB (by decide) (by decide)) (v5 hR) (fun fo' hfo' => by
      rw [sB_eq, updL_e]
      by_cases e : fo' = fo
      · rw [if_pos e, if_pos (by omega), e]
      · rw [if_neg e, v4.2.2.2 1 (by decide), v2.2.2.2 1 (by decide), hS fo' hfo']
        by_cases q2 : fo' < fo
        · rw [if_pos q2, if_pos (by omega)]
        · rw [if_neg q2, if_neg (by omega)])
    refine ⟨σ2, ?_, oS_t oB w2, w3⟩
    rw [← w1]
    show f_Tree_weighRules_54b K (f_Tree_weighRules_54 K q) (zI (2 ^ nR d : Nat)) (zI t) (zI fo) σ = _
    unfold f_Tree_weighRules_54b
    generalize 2 ^ nR d = F at *
    rw [if_neg (by rw [zI_le (by omega) (by omega) (by omega) (by omega)]; omega), v1, bp_s, zI_in (by omega) (by omega) (by omega), gd_t, v3, bd_s, gd_t, zI_cl (by omega) (by omega), Int.toNat_natCast, e1, zJ_add, ← Int.natCast_add, eQ, zS, lt_s', lt_s']
/-- the first greatest of Q 0 .. Q n -/
noncomputable def bI (Q : Nat → Nat) : Nat → Nat
  | 0 => 0
  | n + 1 => if Q (bI Q n) < Q (n + 1) then n + 1 else bI Q n
theorem rules_out (hw : wfD d) (hp : c 5 ≤ 9) (hsl : c 4 ≤ 90) (hb : c 3 ≤ 99) : ∀ (n t q : Nat) (σ : St), t + n = nT d → n < q → XD d σ → sA σ 9 0 = zI (c 3) → sA σ 9 1 = zI (c 4) → sA σ 9 2 = zI (c 5) → bS d c (c 3) t 0 σ → ∃ σ1, f_Tree_weighRules_23 q (zI (2 ^ nR d : Nat)) (zI t) σ = f_Tree_weighRules_124 FU (zI (2 ^ nR d : Nat)) 1 (uJ (uI σ1 39 0) 4 (sB σ1 1 0)) ∧ oS [40, 41, 42, 43, 44, 45, 46, 47, 48, 49, 50, 51] [] [17, 18, 19, 20] [0, 1] σ σ1 ∧ bS d c (c 3) (nT d) 0 σ1 := by
  have hn8 := hw.2.1
  have pb : 2 ^ nR d ≤ 64 := Nat.pow_le_pow_right (by omega) hw.2.2.1
  intro n
  induction n with
  | zero =>
    intro t q σ h1 h2 hx x90 x91 x92 hS
    obtain ⟨q, rfl⟩ : ∃ r, q = r + 1 := ⟨q - 1, by omega⟩
    have et : t = nT d := by omega
    refine ⟨σ, ?_, oS_r, by rw [← et]; exact hS⟩
    show f_Tree_weighRules_23b (f_Tree_weighRules_23 q) (zI (2 ^ nR d : Nat)) (zI t) σ = _
    unfold f_Tree_weighRules_23b
    rw [hx.2.1, if_pos (by rw [zI_le (by omega) (by omega) (by omega) (by omega)]; omega)]
    rfl
  | succ n ih =>
    intro t q σ h1 h2 hx x90 x91 x92 hS
    obtain ⟨q, rfl⟩ : ∃ r, q = r + 1 := ⟨q - 1, by omega⟩
    obtain ⟨σ1, L1, L2, L3⟩ := xo_load_2 (c := c) hw hx x90 x91 x92 (show t < nT d by omega)
    obtain ⟨f, f1, f2⟩ := fill_r (v := -1) σ1
    have oA : oS [40, 41, 42, 43, 44, 45, 46, 47, 48, 49, 50, 51] [] [17, 18, 19, 20] [0, 1] σ (uA σ1 20 f) := oS_uA (by decide) (oS_w L3 (by decide) (by decide) (by decide) (by decide))
    have oB : oS [] [] [20] [] σ1 (uA σ1 20 f) := oS_uA (by decide) oS_r
    have hR : memR d c (c 3) t (uA σ1 20 f) := by
      intro k near led b1 b2 b3
      rw [sA_eq]
      exact .inl (f2 _ (ix_b b1 b2 b3))
    obtain ⟨σ2, w1, w2, w3⟩ := rules_in (t := t) hw (by omega) hp hsl hb (f_Tree_weighRules_23 q) (2 ^ nR d) 0 FU (uA σ1 20 f) (by omega) (FU_gt (by omega)) (XD_oS hx oA (by decide) (by decide)) (xL_o2 L2 oB (by decide) (by decide)) hR (fun fo hfo => by
      show sB σ1 1 fo = _
      rw [L3.2.2.2 1 (by decide)]
      exact hS fo hfo)
    have oC : oS [40, 41, 42, 43, 44, 45, 46, 47, 48, 49, 50, 51] [] [17, 18, 19, 20] [0, 1] σ σ2 := oS_t oA (oS_w w2 (by decide) (by decide) (by decide) (by decide))
    obtain ⟨σ3, u1, u2, u3⟩ := ih (t + 1) q σ2 (by omega) (by omega) (XD_oS hx oC (by decide) (by decide)) (by rw [oC.2.2.1 9 (by decide)]; exact x90) (by rw [oC.2.2.1 9 (by decide)]; exact x91) (by rw [oC.2.2.1 9 (by decide)]; exact x92) w3
    refine ⟨σ3, ?_, oS_t oC u2, u3⟩
    rw [← u1]
    show f_Tree_weighRules_23b (f_Tree_weighRules_23 q) (zI (2 ^ nR d : Nat)) (zI t) σ = _
    unfold f_Tree_weighRules_23b
    have w1' : f_Tree_weighRules_54 (f_Tree_weighRules_23 q) FU (zI (2 ^ nR d : Nat)) (zI t) 0 (uA σ1 20 f) = _ := w1
    rw [hx.2.1, if_neg (by rw [zI_le (by omega) (by omega) (by omega) (by omega)]; omega), L1, bp_s, f1, bp_s, w1']
theorem rules_pick {Q : Nat → Nat} {F P : Nat} (hF : F ≤ 64) (hP : 0 < P) (hQ : ∀ i, i < F → Q i * P ≤ 500000000) : ∀ (n i q : Nat) (σ : St), i + 1 + n = F → n < q → (∀ j, j < F → sB σ 1 j = zJ (Q j * P : Nat)) → sI σ 39 = zI (bI Q i) → sJ σ 4 = zJ (Q (bI Q i) * P : Nat) → bI Q i ≤ i → ∃ σ1, f_Tree_weighRules_124 q (zI F) (zI (i + 1 : Nat)) σ = some σ1 ∧ oS [39] [4] [] [] σ σ1 ∧ sI σ1 39 = zI (bI Q (F - 1)) ∧ sJ σ1 4 = zJ (Q (bI Q (F - 1)) * P : Nat) := by
  intro n
  induction n with
  | zero =>
    intro i q σ h1 h2 hB h39 h4 hi
    obtain ⟨q, rfl⟩ : ∃ r, q = r + 1 := ⟨q - 1, by omega⟩
    have ei : F - 1 = i := by omega
    refine ⟨σ, ?_, oS_r, by rw [ei]; exact h39, by rw [ei]; exact h4⟩
    show f_Tree_weighRules_124b (f_Tree_weighRules_124 q) (zI F) (zI (i + 1 : Nat)) σ = _
    unfold f_Tree_weighRules_124b
    rw [if_pos (by rw [zI_le (by omega) (by omega) (by omega) (by omega)]; omega)]
  | succ n ih =>
    intro i q σ h1 h2 hB h39 h4 hi
    obtain ⟨q, rfl⟩ : ∃ r, q = r + 1 := ⟨q - 1, by omega⟩
    have q1 := hQ (bI Q i) (by omega)
    have q2 := hQ (i + 1) (by omega)
    show ∃ σ1, f_Tree_weighRules_124b (f_Tree_weighRules_124 q) (zI F) (zI (i + 1 : Nat)) σ = _ ∧ _
    unfold f_Tree_weighRules_124b
    simp only [lg_cmp_le]
    rw [if_neg (by rw [zI_le (by omega) (by omega) (by omega) (by omega)]; omega), zI_in (by omega) (by omega) (by omega), gd_t, zI_cl (by omega) (by omega), Int.toNat_natCast, hB (i + 1) (by omega), h4, zS]
    have key : (Q (i + 1) * P ≤ Q (bI Q i) * P) ↔ ¬ Q (bI Q i) < Q (i + 1) := by
      rw [Nat.mul_le_mul_right_iff hP]
      omega
    by_cases g : Q (bI Q i) < Q (i + 1)
    · have eb : bI Q (i + 1) = i + 1 := if_pos g
      rw [if_neg (by rw [zJ_le (by omega) (by omega) (by omega) (by omega)]; intro h; exact (key.mp (by omega)) g), lt_s', gd_t]
      have sb : sB (uI σ 39 (zI (i + 1 : Nat))) 1 (i + 1) = zJ (Q (i + 1) * P : Nat) := hB (i + 1) (by omega)
      rw [sb, lt_s', lt_s']
      obtain ⟨σ1, w1, w2, w3⟩ := ih (i + 1) q (uJ (uI σ 39 (zI (i + 1 : Nat))) 4 (zJ (Q (i + 1) * P : Nat))) (by omega) (by omega) hB (by rw [eb]; rfl) (by rw [eb]; rfl) (by omega)
      exact ⟨σ1, w1, oS_t (oS_uJ (by decide) (oS_uI (by decide) oS_r)) w2, w3⟩
    · have eb : bI Q (i + 1) = bI Q i := if_neg g
      have := key.mpr g
      rw [if_pos (by rw [zJ_le (by omega) (by omega) (by omega) (by omega)]; omega), lt_s']
      exact ih (i + 1) q σ (by omega) (by omega) hB (by rw [eb]; exact h39) (by rw [eb]; exact h4) (by omega)
theorem x_weighRules {σ : St} (hw : wfD d) (hp : c 5 ≤ 9) (hsl : c 4 ≤ 90) (hb : c 3 ≤ 99) (hx : XD d σ) (x90 : sA σ 9 0 = zI (c 3)) (x91 : sA σ 9 1 = zI (c 4)) (x92 : sA σ 9 2 = zI (c 5)) : ∃ σ1, f_Tree_weighRules σ = some σ1 ∧ oS [39, 40, 41, 42, 43, 44, 45, 46, 47, 48, 49, 50, 51] [4] [17, 18, 19, 20] [0, 1] σ σ1 ∧ sI σ1 39 = zI (bI (fun fo => QQ d c fo (c 3) (nT d)) (2 ^ nR d - 1)) ∧ sJ σ1 4 = zJ (QQ d c (bI (fun fo => QQ d c fo (c 3) (nT d)) (2 ^ nR d - 1)) (c 3) (nT d) * pP d : Nat) := by
  have hn8 := hw.2.1
  have hr := hw.2.2.1
  have pb : 2 ^ nR d ≤ 64 := Nat.pow_le_pow_right (by omega) hr
  have ppos : 0 < 2 ^ nR d := Nat.pow_pos (by omega)
  unfold f_Tree_weighRules
  have e6 : iMin (sI σ 55) 6 = zI (nR d) := by
    have : (6 : Int32) = zI 6 := rfl
    rw [hx.2.2.1, this, iMin_z (by omega) (by omega) (by omega) (by omega)]
    congr 1
    omega
  obtain ⟨f, f1, f2⟩ := fill_b (v := 0) σ
  rw [e6, pow_z (by omega), lt_s', f1, bp_s]
  have o0 : oS [39, 40, 41, 42, 43, 44, 45, 46, 47, 48, 49, 50, 51] [4] [17, 18, 19, 20] [0, 1] σ (uB σ 1 f) := oS_uB (by decide) oS_r
  have hS0 : bS d c (c 3) 0 0 (uB σ 1 f) := by
    intro fo hfo
    rw [sB_eq, f2 fo (by omega), if_neg (by omega)]
    show (0 : Int64) = zJ (QQ d c fo (c 3) 0 * pP d : Nat)
    have : QQ d c fo (c 3) 0 = 0 := rfl
    rw [this, Nat.zero_mul]
    rfl
  obtain ⟨σ1, w1, w2, w3⟩ := rules_out hw hp hsl hb (nT d) 0 FU (uB σ 1 f) (by omega) (FU_gt (by omega)) (XD_oS hx o0 (by decide) (by decide)) x90 x91 x92 hS0
  have w1' : f_Tree_weighRules_23 FU (zI (2 ^ nR d : Nat)) 0 (uB σ 1 f) = _ := w1
  rw [w1']
  have hB : ∀ j, j < 2 ^ nR d → sB σ1 1 j = zJ (QQ d c j (c 3) (nT d) * pP d : Nat) := fun j hj => by
    have := w3 j hj
    rw [if_neg (by omega)] at this
    exact this
  obtain ⟨σ2, u1, u2, u3, u4⟩ := rules_pick (Q := fun fo => QQ d c fo (c 3) (nT d)) (F := 2 ^ nR d) (P := pP d) pb pP_pos (fun i _ => QQ_B hw) (2 ^ nR d - 1) 0 FU (uJ (uI σ1 39 0) 4 (sB σ1 1 0)) (by omega) (FU_gt (by omega)) hB rfl (hB 0 ppos) (Nat.le_refl _)
  have oB : oS [39, 40, 41, 42, 43, 44, 45, 46, 47, 48, 49, 50, 51] [4] [17, 18, 19, 20] [0, 1] σ1 (uJ (uI σ1 39 0) 4 (sB σ1 1 0)) := oS_uJ (by decide) (oS_uI (by decide) oS_r)
  exact ⟨σ2, u1, oS_t o0 (oS_t (oS_w w2 (by decide) (by decide) (by decide) (by decide)) (oS_t oB (oS_w u2 (by decide) (by decide) (by decide) (by decide)))), u3, u4⟩
-- ===== M: what all leave =====
theorem m_whole {σ : St} (hw : wfD d) (hd : MD d σ) : f_M_whole σ = some (zJ (60 ^ sV d 0 : Nat)) := by
  have s2 := hw.2.2.2.2.2.1.2.1
  have : ∀ (m i q : Nat), i + m = sV d 0 → m < q → f_M_whole_4 q (zJ (60 ^ i : Nat)) (zI i) σ = some (zJ (60 ^ sV d 0 : Nat)) := by
    intro m
    induction m with
    | zero =>
      intro i q h1 h2
      obtain ⟨q, rfl⟩ : ∃ r, q = r + 1 := ⟨q - 1, by omega⟩
      have ei : i = sV d 0 := by omega
      show f_M_whole_4b (f_M_whole_4 q) _ (zI i) σ = _
      unfold f_M_whole_4b
      rw [m_told2 hd, bp_s, if_pos (by rw [zI_le (by omega) (by omega) (by omega) (by omega)]; omega), ei]
    | succ m ih =>
      intro i q h1 h2
      obtain ⟨q, rfl⟩ : ∃ r, q = r + 1 := ⟨q - 1, by omega⟩
      show f_M_whole_4b (f_M_whole_4 q) _ (zI i) σ = _
      unfold f_M_whole_4b
      have e60 : (60 : Int64) = zJ (60 : Nat) := rfl
      rw [m_told2 hd, bp_s, if_neg (by rw [zI_le (by omega) (by omega) (by omega) (by omega)]; omega), e60, zJ_mul, ← Int.natCast_mul, ← Nat.pow_succ, zS, lt_s', lt_s']
      exact ih (i + 1) q (by omega) (by omega)
  exact this (sV d 0) 0 FU (by omega) (FU_gt (by omega))
theorem m_leftAll {fo be : Nat} (hw : wfD d) (hfo : fo < 64) (hp : c 5 ≤ 9) (hsl : c 4 ≤ 90) (hb : be ≤ 99) : ∀ (n t q : Nat) (σ : St), t + n = nT d → n < q → MD d σ → sA σ 11 4 = zI (c 4) → sA σ 11 5 = zI (c 5) → ∃ σ1, f_M_leftAll_5 q (zI fo) (zI be) (zJ (QQ d c fo be t * c 5 : Nat)) (zI t) σ = some (zJ (QQ d c fo be (nT d) * c 5 : Nat), σ1) ∧ oS [14, 15, 16, 17, 18, 19, 20, 21, 22, 23, 24, 25] [0, 1, 2, 3, 4] [10] [1] σ σ1 := by
  have hn8 := hw.2.1
  have s := hw.2.2.2.2.2.1
  have s2 := s.2.1
  intro n
  induction n with
  | zero =>
    intro t q σ h1 h2 hd e4 e5
    obtain ⟨q, rfl⟩ : ∃ r, q = r + 1 := ⟨q - 1, by omega⟩
    have et : t = nT d := by omega
    refine ⟨σ, ?_, oS_r⟩
    show f_M_leftAll_5b (f_M_leftAll_5 q) _ _ _ (zI t) σ = _
    unfold f_M_leftAll_5b
    rw [m_trierMany hd, bp_s, if_pos (by rw [zI_le (by omega) (by omega) (by omega) (by omega)]; omega), et]
  | succ n ih =>
    intro t q σ h1 h2 hd e4 e5
    obtain ⟨q, rfl⟩ : ∃ r, q = r + 1 := ⟨q - 1, by omega⟩
    have ht : t < nT d := by omega
    have h5 := (hw.2.2.2.2.1 t ht).2.2.1
    obtain ⟨F, G, τ, M1, M2, M3, M4, -⟩ := m_grows (c := c) (fo := fo) (be := be) hw ht hfo hp hsl hb hd e4 e5
    have hdτ : MD d τ := MD_oS hd M2 (by decide) (by decide)
    have hpw := pw_b (B := tV d t 1 + 1) (N := sV d 0) (by omega) s2 (by omega)
    have hpos : 0 < (tV d t 1 + 1) ^ sV d 0 := Nat.pow_pos (by omega)
    have h60 := p60 (m := sV d 0) s2
    have ed : 60 ^ sV d 0 / (tV d t 1 + 1) ^ sV d 0 = (60 / (tV d t 1 + 1)) ^ sV d 0 := by
      rw [← d60 h5, Nat.mul_div_cancel _ hpos]
    have ev : QQ d c fo be t * c 5 + TR d c fo be t vK * c 5 * (60 / (tV d t 1 + 1)) ^ sV d 0 = QQ d c fo be (t + 1) * c 5 := by
      unfold QQ
      rw [sm_last, Nat.zero_add, Nat.add_mul]
      congr 1
      unfold qT
      rw [Nat.mul_comm, Nat.mul_assoc]
    obtain ⟨σ2, w1, w2⟩ := ih (t + 1) q τ (by omega) (by omega) hdτ (by rw [M2.2.2.1 11 (by decide)]; exact e4) (by rw [M2.2.2.1 11 (by decide)]; exact e5)
    refine ⟨σ2, ?_, oS_t M2 w2⟩
    rw [← w1]
    show f_M_leftAll_5b (f_M_leftAll_5 q) _ _ _ (zI t) σ = _
    unfold f_M_leftAll_5b
    rw [m_trierMany hd, bp_s, if_neg (by rw [zI_le (by omega) (by omega) (by omega) (by omega)]; omega), M1, bp_s, m_whole hw hdτ, bp_s, M3, M4.2.1]
    generalize (tV d t 1 + 1) ^ sV d 0 = R at *
    generalize 60 ^ sV d 0 = H at *
    rw [nzJ_z (by omega) (by omega) (by omega), gd_t, zJ_div (by omega) (by omega) (by omega) (by omega), ← Int.natCast_ediv, ed, zJ_mul, ← Int.natCast_mul, zJ_add, ← Int.natCast_add, ev, zS, lt_s', lt_s']
theorem m_left {fo be : Nat} {σ : St} (hw : wfD d) (hfo : fo < 64) (hp : c 5 ≤ 9) (hsl : c 4 ≤ 90) (hb : be ≤ 99) (hd : MD d σ) (e4 : sA σ 11 4 = zI (c 4)) (e5 : sA σ 11 5 = zI (c 5)) : ∃ σ1, f_M_leftAll (zI fo) (zI be) σ = some (zJ (QQ d c fo be (nT d) * c 5 : Nat), σ1) ∧ oS [14, 15, 16, 17, 18, 19, 20, 21, 22, 23, 24, 25] [0, 1, 2, 3, 4] [10] [1] σ σ1 := by
  obtain ⟨σ1, w1, w2⟩ := m_leftAll (c := c) (fo := fo) (be := be) hw hfo hp hsl hb (nT d) 0 FU σ (by omega) (FU_gt (by have := hw.2.1; omega)) hd e4 e5
  have e0 : QQ d c fo be 0 * c 5 = 0 := by
    have : QQ d c fo be 0 = 0 := rfl
    rw [this, Nat.zero_mul]
  rw [e0] at w1
  exact ⟨σ1, w1, w2⟩
/-- what the winner leaves, on both sides -/
theorem win_both {Q : Nat} {σx σm : St} (hw : wfD d) (hQ : Q * pP d ≤ 500000000) (hp : c 5 ≤ 9) (hd : MD d σm) (h4 : sJ σx 4 = zJ (Q * pP d : Nat)) : ∃ r : Int32, f_Tree_winnerLeaves (zI (c 5)) σx = some r ∧ (bp (f_M_whole σm) fun r_4 => gd (nzJ r_4) (some ((((1000 * zJ (Q * c 5 : Nat)) / r_4)).toInt32, σm))) = some (r, σm) := by
  have s2 := hw.2.2.2.2.2.1.2.1
  have h60 := p60 (m := sV d 0) s2
  have hpos : 0 < 60 ^ sV d 0 := Nat.pow_pos (by omega)
  have e : 60 ^ sV d 0 * pP d = 12960000 := by
    unfold pP
    rw [← Nat.pow_add]
    have : sV d 0 + (4 - sV d 0) = 4 := by omega
    rw [this]
  have hPp := pP_pos (d := d)
  have hb1 : Q * pP d * c 5 ≤ 500000000 * 9 := Nat.mul_le_mul hQ hp
  have hb2 : Q ≤ 500000000 := Nat.le_trans (Nat.le_mul_of_pos_right Q hPp) hQ
  have hb3 : Q * c 5 ≤ 500000000 * 9 := Nat.mul_le_mul hb2 hp
  have ev : Q * pP d * c 5 * 1000 / 12960000 = 1000 * (Q * c 5) / 60 ^ sV d 0 := by
    have e3 : Q * pP d * c 5 * 1000 = 1000 * (Q * c 5) * pP d := by
      rw [Nat.mul_right_comm Q (pP d) (c 5), Nat.mul_right_comm, Nat.mul_comm (Q * c 5) 1000]
    rw [e3, ← e, Nat.mul_div_mul_right _ _ hPp]
  unfold f_Tree_winnerLeaves f_Tree_thousandths
  have e1 : (1000 : Int64) = zJ (1000 : Nat) := rfl
  have e2 : (12960000 : Int64) = zJ (12960000 : Nat) := rfl
  rw [h4, zJ_w (by omega) (by omega), m_whole hw hd, bp_s, bp_s, e1, e2]
  generalize 60 ^ sV d 0 = H at *
  rw [zJ_mul, zJ_mul, zJ_mul, ← Int.natCast_mul, ← Int.natCast_mul, ← Int.natCast_mul, nzJ_z (by omega) (by omega) (by omega), gd_t, zJ_div (by omega) (by omega) (by omega) (by omega), zJ_div (by omega) (by omega) (by omega) (by omega), ← Int.natCast_ediv, ← Int.natCast_ediv, ev, zJ_n]
  exact ⟨_, rfl, rfl⟩
theorem bI_le {Q : Nat → Nat} : ∀ n, bI Q n ≤ n := by
  intro n
  induction n with
  | zero => exact Nat.le_refl _
  | succ n ih =>
    unfold bI
    split <;> omega
theorem best_loop {x1 : Int32} (hw : wfD d) (hp : c 5 ≤ 9) (hp0 : 1 ≤ c 5) (hsl : c 4 ≤ 90) (hb : c 3 ≤ 99) : ∀ (n i q : Nat) (σ : St), i + 1 + n = 2 ^ nR d → n < q → MD d σ → sA σ 11 3 = zI (c 3) → sA σ 11 4 = zI (c 4) → sA σ 11 5 = zI (c 5) → ∃ σ1, f_M_best_21 q x1 (zI (bI (fun fo => QQ d c fo (c 3) (nT d)) i)) (zJ (QQ d c (bI (fun fo => QQ d c fo (c 3) (nT d)) i) (c 3) (nT d) * c 5 : Nat)) (zI (i + 1 : Nat)) σ = (if x1 = 0 then some (zI (bI (fun fo => QQ d c fo (c 3) (nT d)) (2 ^ nR d - 1)), σ1) else bp (f_M_whole σ1) fun r_4 => gd (nzJ r_4) (some ((((1000 * zJ (QQ d c (bI (fun fo => QQ d c fo (c 3) (nT d)) (2 ^ nR d - 1)) (c 3) (nT d) * c 5 : Nat)) / r_4)).toInt32, σ1))) ∧ oS [14, 15, 16, 17, 18, 19, 20, 21, 22, 23, 24, 25] [0, 1, 2, 3, 4] [10] [1] σ σ1 := by
  have hr := hw.2.2.1
  have pb : 2 ^ nR d ≤ 64 := Nat.pow_le_pow_right (by omega) hr
  intro n
  induction n with
  | zero =>
    intro i q σ h1 h2 hd e3 e4 e5
    obtain ⟨q, rfl⟩ : ∃ r, q = r + 1 := ⟨q - 1, by omega⟩
    have ei : 2 ^ nR d - 1 = i := by omega
    refine ⟨σ, ?_, oS_r⟩
    show f_M_best_21b (f_M_best_21 q) x1 _ _ (zI (i + 1 : Nat)) σ = _
    unfold f_M_best_21b
    rw [m_ruleMany hd, bp_s, pow_z (by omega), ei]
    generalize 2 ^ nR d = F at *
    rw [if_pos (by rw [zI_le (by omega) (by omega) (by omega) (by omega)]; omega)]
  | succ n ih =>
    intro i q σ h1 h2 hd e3 e4 e5
    obtain ⟨q, rfl⟩ : ∃ r, q = r + 1 := ⟨q - 1, by omega⟩
    obtain ⟨τ, l1, l2⟩ := m_left (fo := i + 1) (be := c 3) hw (by omega) hp hsl hb hd e4 e5
    have hdτ : MD d τ := MD_oS hd l2 (by decide) (by decide)
    have q1 := QQ_B (d := d) (c := c) (fo := i + 1) (be := c 3) hw
    have q2 := QQ_B (d := d) (c := c) (fo := bI (fun fo => QQ d c fo (c 3) (nT d)) i) (be := c 3) hw
    have hPp := pP_pos (d := d)
    have b1 : QQ d c (i + 1) (c 3) (nT d) ≤ 500000000 := Nat.le_trans (Nat.le_mul_of_pos_right _ hPp) q1
    have b2 : QQ d c (bI (fun fo => QQ d c fo (c 3) (nT d)) i) (c 3) (nT d) ≤ 500000000 := Nat.le_trans (Nat.le_mul_of_pos_right _ hPp) q2
    have m1 : QQ d c (i + 1) (c 3) (nT d) * c 5 ≤ 500000000 * 9 := Nat.mul_le_mul b1 hp
    have m2 : QQ d c (bI (fun fo => QQ d c fo (c 3) (nT d)) i) (c 3) (nT d) * c 5 ≤ 500000000 * 9 := Nat.mul_le_mul b2 hp
    have key : (QQ d c (bI (fun fo => QQ d c fo (c 3) (nT d)) i) (c 3) (nT d) * c 5 < QQ d c (i + 1) (c 3) (nT d) * c 5) ↔ QQ d c (bI (fun fo => QQ d c fo (c 3) (nT d)) i) (c 3) (nT d) < QQ d c (i + 1) (c 3) (nT d) := Nat.mul_lt_mul_right hp0
    obtain ⟨σ2, w1, w2⟩ := ih (i + 1) q τ (by omega) (by omega) hdτ (by rw [l2.2.2.1 11 (by decide)]; exact e3) (by rw [l2.2.2.1 11 (by decide)]; exact e4) (by rw [l2.2.2.1 11 (by decide)]; exact e5)
    refine ⟨σ2, ?_, oS_t l2 w2⟩
    rw [← w1]
    show f_M_best_21b (f_M_best_21 q) x1 _ _ (zI (i + 1 : Nat)) σ = _
    unfold f_M_best_21b
    simp only [lg_cmp_gt]
    rw [m_ruleMany hd, bp_s, pow_z (by omega), cl3, e3, l1, bd_s, zS]
    generalize 2 ^ nR d = F at *
    rw [if_neg (by rw [zI_le (by omega) (by omega) (by omega) (by omega)]; omega)]
    by_cases g : QQ d c (bI (fun fo => QQ d c fo (c 3) (nT d)) i) (c 3) (nT d) < QQ d c (i + 1) (c 3) (nT d)
    · have eb : bI (fun fo => QQ d c fo (c 3) (nT d)) (i + 1) = i + 1 := if_pos g
      have := key.mpr g
      rw [if_pos (by rw [zJ_lt (by omega) (by omega) (by omega) (by omega)]; omega), lt_s', eb]
    · have eb : bI (fun fo => QQ d c fo (c 3) (nT d)) (i + 1) = bI (fun fo => QQ d c fo (c 3) (nT d)) i := if_neg g
      rw [if_neg (by rw [zJ_lt (by omega) (by omega) (by omega) (by omega)]; intro h; exact g (key.mp (by omega))), lt_s', eb]
end
theorem sim_best : Sim_best Rel := by
  intro a1 σx σm h
  obtain ⟨y, h3, h4, rfl⟩ := zI_of a1
  have h' := h
  obtain ⟨hQ, d, hw, hx, hm, hS, a, w, hs, ks, hh, hX, hM⟩ := h
  have hc := hh.2.1 a (Nat.le_refl a)
  obtain ⟨c0, cc1, c2, c3, c4, c5, c6, c7, c8⟩ := hc
  obtain ⟨x17, x18, x19, x90, x91, x92, x24⟩ := hX.2.1
  have m3 : sA σm 11 3 = zI (hs a 3) := hM.2.2.2.1.1 3 (by omega)
  have m4 : sA σm 11 4 = zI (hs a 4) := hM.2.2.2.1.1 4 (by omega)
  have m5 : sA σm 11 5 = zI (hs a 5) := hM.2.2.2.1.1 5 (by omega)
  unfold f_BH_best f_M_best
  have i1 : f_M_isIn (zI y).toInt64 0 1 σm = some (if 0 ≤ y ∧ y ≤ 1 then zI 1 else zI 0) := by simp (disch := omega) only [zI_lit, zJ_lit, zI_neg, zJ_neg, zI_add, zI_sub, zI_mul, zJ_add, zJ_sub, zJ_mul, zI_lt, zI_le, zI_eq, zJ_lt, zJ_le, zJ_eq, zJ_w, zJ_n, in_z, zI_cl, zI_in, nz_z, nzJ_z, iMin_z, iMax_z, lg_cmp_lt, lg_cmp_le, lg_cmp_gt, lg_cmp_ge, lg_cmp_eq, lt_q, gd_q, bp_q, bd_q, Int.toNat_natCast, Int.toNat_zero, Int.toNat_one, Int.reduceToNat, ite_true, ite_false, bz, isB_i, isB0, isB1]
  rw [i1, bp_s]
  have e0 : (zI y = (0 : Int32)) ↔ y = 0 := by
    have : (0 : Int32) = zI 0 := rfl
    rw [this, zI_eq (by omega) (by omega) (by omega) (by omega)]
  have e1 : (zI y = (1 : Int32)) ↔ y = 1 := by
    have : (1 : Int32) = zI 1 := rfl
    rw [this, zI_eq (by omega) (by omega) (by omega) (by omega)]
  by_cases g : 0 ≤ y ∧ y ≤ 1
  · have hXf : (if zI y = (0 : Int32) then f_BH_best_11 (zI y) σx else if zI y = (1 : Int32) then f_BH_best_11 (zI y) σx else some (-1, σx)) = f_BH_best_11 (zI y) σx := by
      by_cases q : y = 0
      · rw [if_pos (e0.mpr q)]
      · rw [if_neg (fun e => q (e0.mp e)), if_pos (e1.mpr (by omega))]
    rw [hXf, if_neg (fun e => bz0.mp e g)]
    have hr := hw.2.2.1
    have pb : 2 ^ nR d ≤ 64 := Nat.pow_le_pow_right (by omega) hr
    have ppos : 0 < 2 ^ nR d := Nat.pow_pos (by omega)
    obtain ⟨σ1, W1, W2, W3, W4⟩ := x_weighRules (c := hs a) hw c7 c5 c4 hx x90 x91 x92
    have RX := Rel_eX h' (eX_oS W2 (by decide) (by decide))
    -- M: the first set of rules
    obtain ⟨τ, l1, l2⟩ := m_left (c := hs a) (fo := 0) (be := hs a 3) hw (by omega) c7 c5 c4 hm m4 m5
    have hdτ : MD d τ := MD_oS hm l2 (by decide) (by decide)
    obtain ⟨τ2, b1, b2⟩ := best_loop (x1 := zI y) (c := hs a) hw c7 c6 c5 c4 (2 ^ nR d - 1) 0 99999 τ (by omega) (by omega) hdτ (by rw [l2.2.2.1 11 (by decide)]; exact m3) (by rw [l2.2.2.1 11 (by decide)]; exact m4) (by rw [l2.2.2.1 11 (by decide)]; exact m5)
    have hdτ2 : MD d τ2 := MD_oS hdτ b2 (by decide) (by decide)
    have RM := Rel_eM RX (eM_oS (oS_t l2 b2) (by decide) (by decide) (by decide) (by decide))
    have q0 := QQ_B (d := d) (c := hs a) (fo := 0) (be := hs a 3) hw
    have hPp := pP_pos (d := d)
    have bq : QQ d (hs a) 0 (hs a 3) (nT d) ≤ 500000000 := Nat.le_trans (Nat.le_mul_of_pos_right _ hPp) q0
    have mq : QQ d (hs a) 0 (hs a 3) (nT d) * hs a 5 ≤ 500000000 * 9 := Nat.mul_le_mul bq c7
    have start : f_M_best_21 FU (zI y) 0 (-1) 0 σm = f_M_best_21 99999 (zI y) (zI (bI (fun fo => QQ d (hs a) fo (hs a 3) (nT d)) 0)) (zJ (QQ d (hs a) (bI (fun fo => QQ d (hs a) fo (hs a 3) (nT d)) 0) (hs a 3) (nT d) * hs a 5 : Nat)) (zI (0 + 1 : Nat)) τ := by
      show f_M_best_21b (f_M_best_21 99999) (zI y) 0 (-1) 0 σm = _
      unfold f_M_best_21b
      simp only [lg_cmp_gt]
      have l1' : f_M_leftAll 0 (zI (hs a 3)) σm = _ := l1
      have ez : (0 : Int32) = zI (0 : Nat) := rfl
      have em : (-1 : Int64) = zJ (-1) := rfl
      rw [m_ruleMany hm, bp_s, pow_z (by omega), cl3, m3, l1', bd_s]
      generalize 2 ^ nR d = F at *
      rw [if_neg (by rw [ez, zI_le (by omega) (by omega) (by omega) (by omega)]; omega), if_pos (by rw [em, zJ_lt (by omega) (by omega) (by omega) (by omega)]; omega)]
      rfl
    rw [start, b1]
    unfold f_BH_best_11
    have y92 : sA σ1 9 2 = zI (hs a 5) := by rw [W2.2.2.1 9 (by decide)]; exact x92
    rw [W1, bp_s, W3, cl2, y92]
    by_cases q : y = 0
    · rw [if_pos (e0.mpr q), if_pos (e0.mpr q)]
      exact ⟨_, _, _, rfl, rfl, RM⟩
    · rw [if_neg (fun e => q (e0.mp e)), if_neg (fun e => q (e0.mp e))]
      obtain ⟨r, r1, r2⟩ := win_both (c := hs a) (σx := σ1) (σm := τ2) hw (QQ_B hw) c7 hdτ2 W4
      rw [r1, bp_s]
      exact ⟨_, _, _, rfl, r2, RM⟩
  · rw [if_pos (bz0.mpr g), if_neg (fun e => by have := e0.mp e; omega), if_neg (fun e => by have := e1.mp e; omega)]
    exact ⟨_, _, _, rfl, rfl, h'⟩
