-- ===== what waits is taken off =====
def eO (σ σ' : St) : Prop := oS [10, 11] [] [6, 7] [] σ σ' ∧ ∀ k, sA σ' 6 (1600 + k) = sA σ 6 (1600 + k)
theorem eO_t {σ σ' σ'' : St} (h : eO σ σ') (h2 : eO σ' σ'') : eO σ σ'' := ⟨oS_t h.1 h2.1, fun k => (h2.2 k).trans (h.2 k)⟩
theorem eO_d {σ σ' : St} (o : oS [10, 11] [] [6] [] σ σ') (h : ∀ k, sA σ' 6 (1600 + k) = sA σ 6 (1600 + k)) : eO σ σ' := ⟨oS_w o (by decide) (by decide) (by decide) (by decide), h⟩
theorem eO_p {σ σ' : St} (o : oS [11] [] [7] [] σ σ') : eO σ σ' := ⟨oS_w o (by decide) (by decide) (by decide) (by decide), fun k => by rw [o.2.2.1 6 (by decide)]⟩
theorem eO_F {σ σ' : St} (h : eO σ σ') : eF σ σ' := ⟨oS_w h.1 (by decide) (by decide) (by decide) (by decide), h.2⟩
theorem b1_0 {p : Prop} [Decidable p] : ((if p then (1 : Int32) else 0) = 0) ↔ ¬ p := by
  by_cases h : p
  · rw [if_pos h]
    exact ⟨fun q => absurd q (by decide), fun q => absurd h q⟩
  · rw [if_neg h]
    exact ⟨fun _ => h, fun _ => rfl⟩
theorem m_pop2 {W : List Nat} {x : Nat} (h3 : W.head? ≠ some 3) (h4 : W.head? ≠ some 4) (hall : ∀ v, v ∈ W → v < 1000) : ∀ (T L : List Nat) (q : Nat) (σ : St), T.length < q → (∀ v, v ∈ T → v = 3 ∨ v = 4) → (T ++ W).length < 1700 → L.length + T.length ≤ 1600 → wtM (T ++ W) σ → cM L σ → ∃ σ1, f_M_goesOn_158 q (zI x) σ = some (1, σ1) ∧ wtM (x :: W) σ1 ∧ cM (L ++ T) σ1 ∧ eO σ σ1 := by
  intro T
  induction T with
  | nil =>
    intro L q σ hq hT hl hl2 hw hc
    obtain ⟨q, rfl⟩ : ∃ r, q = r + 1 := ⟨q - 1, by omega⟩
    have hw' : wtM W σ := hw
    have hlW : W.length < 1700 := hl
    obtain ⟨p1, p2⟩ := psh_w (v := x) hw'
    refine ⟨_, ?_, p1, by rw [List.append_nil]; exact cM_o hc p2 (by decide) (by decide), eO_p p2⟩
    show f_M_goesOn_158b (f_M_goesOn_158 q) (zI x) σ = _
    unfold f_M_goesOn_158b
    have i3 := m_isOn (x := 3) hw' (by omega) (by omega) hall
    have i4 := m_isOn (x := 4) hw' (by omega) (by omega) hall
    have e3 : (3 : Int32) = zI (3 : Nat) := rfl
    have e4 : (4 : Int32) = zI (4 : Nat) := rfl
    rw [e3, i3, bp_s, if_pos (b1_0.mpr h3), e4, i4, bp_s, if_pos (b1_0.mpr h4)]
    exact m_push hw' hlW (fun σ_4 => some ((1 : Int32), σ_4))
  | cons u T ih =>
    intro L q σ hq hT hl hl2 hw hc
    have hl1 : (u :: T).length = T.length + 1 := rfl
    obtain ⟨q, rfl⟩ : ∃ r, q = r + 1 := ⟨q - 1, by omega⟩
    have hu := hT u (by simp)
    have hl3 : (u :: T ++ W).length = (T ++ W).length + 1 := rfl
    have hw' : wtM (u :: (T ++ W)) σ := hw
    have hall' : ∀ v, v ∈ u :: (T ++ W) → v < 1000 := by
      intro v hv
      rcases List.mem_cons.mp hv with e | hv
      · omega
      · rcases List.mem_append.mp hv with hv | hv
        · have := hT v (by simp [hv]); omega
        · exact hall v hv
    obtain ⟨σ1, a1, a2, a3, a4, a5⟩ := m_drops hw' hc (by omega) (by omega)
    obtain ⟨σ2, c1, c2, c3, c4⟩ := ih (L ++ [u]) q σ1 (by omega) (fun v hv => hT v (by simp [hv])) (by omega) (by rw [List.length_append]; show L.length + 1 + T.length ≤ 1600; omega) a2 a3
    refine ⟨σ2, ?_, c2, ?_, eO_t (eO_d a4 a5) c4⟩
    · rw [← c1]
      show f_M_goesOn_158b (f_M_goesOn_158 q) (zI x) σ = _
      unfold f_M_goesOn_158b f_M_goesOn_174
      have i3 := m_isOn (x := 3) hw' (by rw [List.length_cons]; omega) (by omega) hall'
      have i4 := m_isOn (x := 4) hw' (by rw [List.length_cons]; omega) (by omega) hall'
      have e3 : (3 : Int32) = zI (3 : Nat) := rfl
      have e4 : (4 : Int32) = zI (4 : Nat) := rfl
      rw [e3, i3, bp_s, a1, bp_s]
      rcases hu with rfl | rfl
      · rw [if_neg (fun h => b1_0.mp h (show (3 :: (T ++ W)).head? = some 3 from rfl))]
      · rw [if_pos (b1_0.mpr (by simp)), e4, i4, bp_s, if_neg (fun h => b1_0.mp h (show (4 :: (T ++ W)).head? = some 4 from rfl))]
    · have e : L ++ u :: T = L ++ [u] ++ T := by simp
      rw [e]
      exact c3
theorem m_pop4 {W : List Nat} {x : Nat} (h4 : ∀ v, W.head? = some v → ¬ (1 ≤ v ∧ v ≤ 4)) (hall : ∀ v, v ∈ W → v < 1000) : ∀ (T L : List Nat) (q : Nat) (σ : St), T.length < q → (∀ v, v ∈ T → 1 ≤ v ∧ v ≤ 4) → (T ++ W).length < 1700 → L.length + T.length ≤ 1600 → wtM (T ++ W) σ → cM L σ → ∃ σ1, f_M_goesOn_243 q (zI x) σ = some (1, σ1) ∧ wtM (x :: W) σ1 ∧ cM (L ++ T) σ1 ∧ eO σ σ1 := by
  have e1 : (1 : Int32) = zI (1 : Nat) := rfl
  have e2 : (2 : Int32) = zI (2 : Nat) := rfl
  have e3 : (3 : Int32) = zI (3 : Nat) := rfl
  have e4 : (4 : Int32) = zI (4 : Nat) := rfl
  intro T
  induction T with
  | nil =>
    intro L q σ hq hT hl hl2 hw hc
    obtain ⟨q, rfl⟩ : ∃ r, q = r + 1 := ⟨q - 1, by omega⟩
    have hw' : wtM W σ := hw
    have hlW : W.length < 1700 := hl
    obtain ⟨p1, p2⟩ := psh_w (v := x) hw'
    refine ⟨_, ?_, p1, by rw [List.append_nil]; exact cM_o hc p2 (by decide) (by decide), eO_p p2⟩
    show f_M_goesOn_243b (f_M_goesOn_243 q) (zI x) σ = _
    unfold f_M_goesOn_243b
    have i1 := m_isOn (x := 1) hw' (by omega) (by omega) hall
    have i2 := m_isOn (x := 2) hw' (by omega) (by omega) hall
    have i3 := m_isOn (x := 3) hw' (by omega) (by omega) hall
    have i4 := m_isOn (x := 4) hw' (by omega) (by omega) hall
    have n1 : ∀ k : Nat, 1 ≤ k ∧ k ≤ 4 → ¬ W.head? = some k := fun k hk h => h4 k h hk
    have J1 : f_M_isOn 1 σ = some (if W.head? = some 1 then 1 else 0) := i1
    have J2 : f_M_isOn 2 σ = some (if W.head? = some 2 then 1 else 0) := i2
    have J3 : f_M_isOn 3 σ = some (if W.head? = some 3 then 1 else 0) := i3
    have J4 : f_M_isOn 4 σ = some (if W.head? = some 4 then 1 else 0) := i4
    rw [J3, bp_s, if_pos (b1_0.mpr (n1 3 (by omega))), J4, bp_s, if_pos (b1_0.mpr (n1 4 (by omega))), J1, bp_s, if_pos (b1_0.mpr (n1 1 (by omega))), J2, bp_s, if_pos (b1_0.mpr (n1 2 (by omega)))]
    exact m_push hw' hlW (fun σ_4 => some ((1 : Int32), σ_4))
  | cons u T ih =>
    intro L q σ hq hT hl hl2 hw hc
    have hl1 : (u :: T).length = T.length + 1 := rfl
    obtain ⟨q, rfl⟩ : ∃ r, q = r + 1 := ⟨q - 1, by omega⟩
    have hu := hT u (by simp)
    have hl3 : (u :: T ++ W).length = (T ++ W).length + 1 := rfl
    have hw' : wtM (u :: (T ++ W)) σ := hw
    have hall' : ∀ v, v ∈ u :: (T ++ W) → v < 1000 := by
      intro v hv
      rcases List.mem_cons.mp hv with e | hv
      · omega
      · rcases List.mem_append.mp hv with hv | hv
        · have := hT v (by simp [hv]); omega
        · exact hall v hv
    obtain ⟨σ1, a1, a2, a3, a4, a5⟩ := m_drops hw' hc (by omega) (by omega)
    obtain ⟨σ2, c1, c2, c3, c4⟩ := ih (L ++ [u]) q σ1 (by omega) (fun v hv => hT v (by simp [hv])) (by omega) (by rw [List.length_append]; show L.length + 1 + T.length ≤ 1600; omega) a2 a3
    refine ⟨σ2, ?_, c2, ?_, eO_t (eO_d a4 a5) c4⟩
    · rw [← c1]
      show f_M_goesOn_243b (f_M_goesOn_243 q) (zI x) σ = _
      unfold f_M_goesOn_243b f_M_goesOn_275
      have hb : (u :: (T ++ W)).length ≤ 1700 := by rw [List.length_cons]; omega
      have J : ∀ k : Nat, k < 1000 → f_M_isOn (zI k) σ = some (if u = k then 1 else 0) := by
        intro k hk
        rw [m_isOn (x := k) hw' hb hk hall']
        by_cases q : u = k
        · rw [if_pos q, if_pos (by rw [q]; rfl)]
        · rw [if_neg q, if_neg (by simpa using q)]
      have J1 : f_M_isOn 1 σ = some (if u = 1 then 1 else 0) := J 1 (by omega)
      have J2 : f_M_isOn 2 σ = some (if u = 2 then 1 else 0) := J 2 (by omega)
      have J3 : f_M_isOn 3 σ = some (if u = 3 then 1 else 0) := J 3 (by omega)
      have J4 : f_M_isOn 4 σ = some (if u = 4 then 1 else 0) := J 4 (by omega)
      rw [J3, bp_s, a1, bp_s]
      by_cases q3 : u = 3
      · rw [if_neg (fun h => b1_0.mp h q3)]
      · rw [if_pos (b1_0.mpr q3), J4, bp_s]
        by_cases q4 : u = 4
        · rw [if_neg (fun h => b1_0.mp h q4)]
        · rw [if_pos (b1_0.mpr q4), J1, bp_s]
          by_cases q1 : u = 1
          · rw [if_neg (fun h => b1_0.mp h q1)]
          · rw [if_pos (b1_0.mpr q1), J2, bp_s, if_neg (fun h => b1_0.mp h (by omega))]
    · have e : L ++ u :: T = L ++ [u] ++ T := by simp
      rw [e]
      exact c3
/-- the end of the sums -/
theorem m_pop0 {W : List Nat} {x1 : Int32} {bs : Nat} (hb : W.length = bs) : ∀ (T L : List Nat) (q : Nat) (σ : St), T.length < q → (T ++ W).length < 1700 → L.length + T.length ≤ 1600 → wtM (T ++ W) σ → cM L σ → sI σ 13 = zI bs → sI σ 4 = 0 → ∃ σ1, f_M_sumsTold_53 q x1 σ = some (uI σ1 13 x1) ∧ wtM W σ1 ∧ cM (L ++ T) σ1 ∧ eO σ σ1 := by
  intro T
  induction T with
  | nil =>
    intro L q σ hq hl hl2 hw hc h13 h4
    obtain ⟨q, rfl⟩ : ∃ r, q = r + 1 := ⟨q - 1, by omega⟩
    have hw' : wtM W σ := hw
    have hlW : W.length < 1700 := hl
    refine ⟨σ, ?_, hw', by rw [List.append_nil]; exact hc, oS_r, fun _ => rfl⟩
    show f_M_sumsTold_53b (f_M_sumsTold_53 q) x1 σ = _
    unfold f_M_sumsTold_53b f_M_sumsTold_78
    rw [if_pos h4, hw'.1, h13, hb, if_pos (by rw [zI_le (by omega) (by omega) (by omega) (by omega)]; omega)]
    rfl
  | cons u T ih =>
    intro L q σ hq hl hl2 hw hc h13 h4
    have hl1 : (u :: T).length = T.length + 1 := rfl
    obtain ⟨q, rfl⟩ : ∃ r, q = r + 1 := ⟨q - 1, by omega⟩
    have hl3 : (u :: T ++ W).length = (T ++ W).length + 1 := rfl
    have hl4 : (T ++ W).length = T.length + W.length := List.length_append
    have hw' : wtM (u :: (T ++ W)) σ := hw
    obtain ⟨σ1, a1, a2, a3, a4, a5⟩ := m_drops hw' hc (by omega) (by omega)
    obtain ⟨σ2, c1, c2, c3, c4⟩ := ih (L ++ [u]) q σ1 (by omega) (by omega) (by rw [List.length_append]; show L.length + 1 + T.length ≤ 1600; omega) a2 a3 (by rw [a4.1 13 (by decide)]; exact h13) (by rw [a4.1 4 (by decide)]; exact h4)
    refine ⟨σ2, ?_, c2, ?_, eO_t (eO_d a4 a5) c4⟩
    · rw [← c1]
      show f_M_sumsTold_53b (f_M_sumsTold_53 q) x1 σ = _
      unfold f_M_sumsTold_53b
      rw [if_pos h4, hw.1, h13, if_neg (by rw [zI_le (by omega) (by omega) (by omega) (by omega)]; omega), a1, bp_s]
    · have e : L ++ u :: T = L ++ [u] ++ T := by simp
      rw [e]
      exact c3
theorem m_code' {L : List Nat} {x : Int32} {σ : St} (h : cM L σ) (hl : L.length < 1600) : ∃ σ1, f_M_code x σ = some σ1 ∧ oS [10] [] [6] [] σ σ1 ∧ (∀ k, sA σ1 6 (1600 + k) = sA σ 6 (1600 + k)) ∧ sI σ1 10 = zI (L.length + 1 : Nat) := by
  have e0 : (0 + zI (L.length : Int) : Int32) = zI (L.length : Int) := by
    rw [zI_lit, zI_add]
    congr 1
    omega
  refine ⟨uI (uA σ 6 (upd (sA σ 6) L.length x)) 10 (zI (L.length + 1 : Nat)), ?_, oS_uI (by decide) (oS_uA (by decide) oS_r), fun k => ?_, rfl⟩
  · unfold f_M_code
    have y : ∀ f, sI (uA σ 6 f) 10 = zI L.length := fun f => h.1
    rw [h.1, e0, zI_in (by omega) (by omega) (by omega), gd_t, zI_cl (by omega) (by omega), Int.toNat_natCast, lt_s', y, zS, lt_s']
  · show upd (sA σ 6) L.length x (1600 + k) = _
    rw [upd_e, if_neg (by omega)]
theorem x_emit' {L : List Nat} {x : Int32} {σ : St} (h : cX L σ) (hl : L.length < 1600) : ∃ σ1, f_Fair_emit x σ = some σ1 ∧ oS [12] [] [7] [] σ σ1 := by
  have e16 : (1600 : Int32) = zI (1600 : Nat) := rfl
  refine ⟨uI (uA σ 7 (upd (sA σ 7) L.length x)) 12 (zI (L.length + 1 : Nat)), ?_, oS_uI (by decide) (oS_uA (by decide) oS_r)⟩
  unfold f_Fair_emit
  have y : ∀ f, sI (uA σ 7 f) 12 = zI L.length := fun f => h.1
  rw [h.1, e16, if_neg (by rw [zI_le (by omega) (by omega) (by omega) (by omega)]; omega), zI_in (by omega) (by omega) (by omega), gd_t, zI_cl (by omega) (by omega), Int.toNat_natCast, lt_s', y, zS, lt_s']
-- ===== kinds of code lists =====
def cTL : List Nat → List Bool → Option (List Bool)
  | [], s => some s
  | m :: r, s => (cT m s).bind (cTL r)
theorem cTL_a : ∀ (A B : List Nat) (s : List Bool), cTL (A ++ B) s = (cTL A s).bind (cTL B)
  | [], _, _ => rfl
  | m :: A, B, s => by
    show (cT m s).bind (cTL (A ++ B)) = ((cT m s).bind (cTL A)).bind (cTL B)
    cases cT m s with
    | none => rfl
    | some t => exact cTL_a A B t
/-- these codes put one number more -/
def tyN (k : Nat) (C : List Nat) : Prop := ∀ t : List Bool, t.length + k ≤ 64 → cTL C t = some (false :: t)
theorem tyN_m {j k : Nat} {C : List Nat} (h : tyN j C) (hk : j ≤ k) : tyN k C := fun t ht => h t (by omega)
theorem tyN_v {v : Nat} (h : v ≤ 9999) : tyN 1 [1000 + v] := by
  intro t ht
  show (cT (1000 + v) t).bind (cTL []) = _
  have : cT (1000 + v) t = some (false :: t) := by
    unfold cT
    rw [if_pos (by omega), if_pos (by omega)]
  rw [this]
  rfl
theorem tyN_f {v : Nat} (h : 7 ≤ v ∧ v ≤ 12) : tyN 1 [v] := by
  intro t ht
  show (cT v t).bind (cTL []) = _
  have : cT v t = some (false :: t) := by
    unfold cT
    rw [if_neg (by omega), if_neg (by omega), if_neg (by omega), if_neg (by omega), if_neg (by omega), if_pos h, if_pos (by omega)]
  rw [this]
  rfl
theorem tyN_o {j k v : Nat} {C D : List Nat} (hC : tyN k C) (hD : tyN j D) (hj : j + 1 ≤ k) (h : 1 ≤ v ∧ v ≤ 6) : tyN k (C ++ D ++ [v]) := by
  intro t ht
  rw [cTL_a, cTL_a, hC t ht]
  show ((cTL D (false :: t)).bind (cTL [v])) = _
  rw [hD (false :: t) (by show t.length + 1 + j ≤ 64; omega)]
  show (cT v (false :: false :: t)).bind (cTL []) = _
  have : cT v (false :: false :: t) = some (false :: t) := by
    unfold cT
    rw [if_neg (by omega), if_neg (by omega), if_neg (by omega), if_neg (by omega), if_neg (by omega), if_neg (by omega), if_pos h]
  rw [this]
  rfl
