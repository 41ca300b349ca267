-- ===== tests: what waits =====
def eT (σ σ' : St) : Prop := oS [10, 11, 12] [] [6, 7] [] σ σ' ∧ ∀ k, sA σ' 6 (1600 + k) = sA σ 6 (1600 + k)
theorem eT_t {σ σ' σ'' : St} (h : eT σ σ') (h2 : eT σ' σ'') : eT σ σ'' := ⟨oS_t h.1 h2.1, fun k => (h2.2 k).trans (h.2 k)⟩
theorem eT_o {σ σ' : St} (h : eO σ σ') : eT σ σ' := ⟨oS_w h.1 (by decide) (by decide) (by decide) (by decide), h.2⟩
theorem eK_T {σ σ' : St} (h : eT σ σ') : eK σ σ' := ⟨⟨oS_w h.1 (by decide) (by decide) (by decide) (by decide), h.2⟩, h.1.1 5 (by decide)⟩
/-- only tests' codes wait -/
def aW (W : List Nat) : Prop := ∀ v, v ∈ W → 16 ≤ v ∧ v ≤ 25
theorem mOn {W : List Nat} {x u : Nat} {σ : St} (h : wtM (u :: W) σ) (hw : W.length < 1700) (hx : x < 1000) (ha : aW (u :: W)) : f_M_isOn (zI x) σ = some (if u = x then 1 else 0) := by
  rw [m_isOn h (by rw [List.length_cons]; omega) hx (fun v hv => by have := ha v hv; omega)]
  by_cases q : u = x
  · rw [if_pos q, if_pos (by rw [q]; rfl)]
  · rw [if_neg q, if_neg (by simpa using q)]
theorem mOff {W : List Nat} {x : Nat} {σ : St} (h : wtM W σ) (hw : W.length < 1700) (hx : x < 1000) (ha : aW W) (hne : W.head? ≠ some x) : f_M_isOn (zI x) σ = some 0 := by
  rw [m_isOn h (by omega) hx (fun v hv => by have := ha v hv; omega), if_neg hne]
theorem aW_t {u : Nat} {W : List Nat} (h : aW (u :: W)) : aW W := fun v hv => h v (by simp [hv])
theorem aW_a {P W : List Nat} (h : aW (P ++ W)) : aW W := fun v hv => h v (by simp [hv])
theorem m_nots {W : List Nat} (hh : W.head? ≠ some 18) : ∀ (k : Nat) (L : List Nat) (q dp : Nat) (σ : St), k < q → k ≤ dp → dp ≤ 6 → aW (List.replicate k 18 ++ W) → k + W.length < 1700 → L.length + k ≤ 1600 → wtM (List.replicate k 18 ++ W) σ → cM L σ → sI σ 12 = zI dp → sI σ 4 = 0 → ∃ σ1, f_M_dropsNots_0 q σ = some σ1 ∧ wtM W σ1 ∧ cM (L ++ List.replicate k 18) σ1 ∧ sI σ1 12 = zI (dp - k : Nat) ∧ eT σ σ1 := by
  intro k
  induction k with
  | zero =>
    intro L q dp σ hq hk hd ha hl hl2 hw hc h12 h4
    obtain ⟨q, rfl⟩ : ∃ r, q = r + 1 := ⟨q - 1, by omega⟩
    have hw' : wtM W σ := hw
    have ha' : aW W := ha
    refine ⟨σ, ?_, hw', by rw [List.replicate_zero, List.append_nil]; exact hc, h12, oS_r, fun _ => rfl⟩
    show f_M_dropsNots_0b (f_M_dropsNots_0 q) σ = _
    unfold f_M_dropsNots_0b
    have e : f_M_isOn 18 σ = some 0 := mOff (x := 18) hw' (by omega) (by omega) ha' hh
    rw [if_pos h4, e, bp_s, if_pos rfl]
  | succ k ih =>
    intro L q dp σ hq hk hd ha hl hl2 hw hc h12 h4
    obtain ⟨q, rfl⟩ : ∃ r, q = r + 1 := ⟨q - 1, by omega⟩
    obtain ⟨dp, rfl⟩ : ∃ r, dp = r + 1 := ⟨dp - 1, by omega⟩
    have er : List.replicate (k + 1) 18 ++ W = 18 :: (List.replicate k 18 ++ W) := rfl
    rw [er] at hw ha
    have hl3 : (List.replicate k 18 ++ W).length = k + W.length := by rw [List.length_append, List.length_replicate]
    have o0 : oS [12] [] [] [] σ (uI σ 12 (zI dp)) := oS_uI (by decide) oS_r
    obtain ⟨σ1, a1, a2, a3, a4, a5⟩ := m_drops (wtM_o hw o0 (by decide) (by decide)) (cM_o hc o0 (by decide) (by decide)) (by omega) (by omega)
    obtain ⟨σ2, c1, c2, c3, c4, c5⟩ := ih (L ++ [18]) q dp σ1 (by omega) (by omega) (by omega) (aW_t ha) (by omega) (by rw [List.length_append]; show L.length + 1 + k ≤ 1600; omega) a2 a3 (by rw [a4.1 12 (by decide)]; rfl) (by rw [a4.1 4 (by decide)]; exact h4)
    refine ⟨σ2, ?_, c2, ?_, by rw [c4]; congr 2; omega, eT_t ⟨oS_w o0 (by decide) (by decide) (by decide) (by decide), fun _ => rfl⟩ (eT_t (eT_o (eO_d a4 a5)) c5)⟩
    · rw [← c1]
      show f_M_dropsNots_0b (f_M_dropsNots_0 q) σ = _
      unfold f_M_dropsNots_0b
      have e : f_M_isOn 18 σ = some (if 18 = 18 then 1 else 0) := mOn (x := 18) hw (by omega) (by omega) ha
      rw [if_pos rfl] at e
      rw [if_pos h4, e, bp_s, if_neg (by decide), h12, zP, lt_s', a1, bp_s]
    · have e : L ++ List.replicate (k + 1) 18 = L ++ [18] ++ List.replicate k 18 := by
        rw [List.replicate_succ]
        simp
      rw [e]
      exact c3
/-- a square among what waits? -/
theorem m_square {σ : St} {W : List Nat} (hw : wtM W σ) (hl : W.length < 1700) (ha : aW W) : ∀ (m : Nat) (A B : List Nat) (q : Nat), A.length ≤ m → m < q → W = A ++ B → (25 ∉ B) → f_M_hasSquare_2 q (zI B.length) σ = some (if 25 ∈ W then 1 else 0) := by
  intro m
  induction m with
  | zero =>
    intro A B q h1 h2 h3 h4
    obtain ⟨q, rfl⟩ : ∃ r, q = r + 1 := ⟨q - 1, by omega⟩
    have eA : A = [] := List.eq_nil_of_length_eq_zero (by omega)
    subst eA
    have eW : W = B := h3
    subst eW
    show f_M_hasSquare_2b (f_M_hasSquare_2 q) (zI W.length) σ = _
    unfold f_M_hasSquare_2b
    rw [hw.1, if_pos (by rw [zI_le (by omega) (by omega) (by omega) (by omega)]; omega), if_neg h4]
  | succ m ih =>
    intro A B q h1 h2 h3 h4
    obtain ⟨q, rfl⟩ : ∃ r, q = r + 1 := ⟨q - 1, by omega⟩
    rcases List.eq_nil_or_concat A with rfl | ⟨A', u, rfl⟩
    · have eW : W = B := h3
      subst eW
      show f_M_hasSquare_2b (f_M_hasSquare_2 q) (zI W.length) σ = _
      unfold f_M_hasSquare_2b
      rw [hw.1, if_pos (by rw [zI_le (by omega) (by omega) (by omega) (by omega)]; omega), if_neg h4]
    · have eW : W = A' ++ (u :: B) := by rw [h3]; simp
      have hlen : W.length = A'.length + (B.length + 1) := by rw [eW, List.length_append]; rfl
      have hs : stkN (sA σ 7) (u :: B) := stkN_app (P := A') (by rw [← eW]; exact hw.2)
      have hu := ha u (by rw [eW]; simp)
      have e25 : (25 : Int32) = zI (25 : Nat) := rfl
      have hA : A'.length ≤ m := by
        rw [List.concat_eq_append, List.length_append] at h1
        have : [u].length = 1 := rfl
        omega
      show f_M_hasSquare_2b (f_M_hasSquare_2 q) (zI B.length) σ = _
      unfold f_M_hasSquare_2b
      rw [hw.1, if_neg (by rw [zI_le (by omega) (by omega) (by omega) (by omega)]; omega), zI_in (by omega) (by omega) (by omega), gd_t, zI_cl (by omega) (by omega), Int.toNat_natCast, hs.1]
      by_cases c : u = 25
      · rw [if_pos (by rw [c]; rfl), if_pos (by rw [eW, c]; simp)]
      · rw [if_neg (by rw [e25, zI_eq (by omega) (by omega) (by omega) (by omega)]; omega), zS, lt_s']
        exact ih A' (u :: B) q hA (by omega) eW (fun h => by rcases List.mem_cons.mp h with e | e; exact c e.symm; exact h4 e)
theorem m_sq {σ : St} {W : List Nat} (hw : wtM W σ) (hl : W.length < 1700) (ha : aW W) : f_M_hasSquare σ = some (if 25 ∈ W then 1 else 0) := m_square hw hl ha W.length W [] FU (Nat.le_refl _) (FU_gt (by omega)) (by simp) (by simp)
theorem m_pop16 {W : List Nat} (h3 : W.head? ≠ some 16) : ∀ (T L : List Nat) (q : Nat) (σ : St), T.length < q → (∀ v, v ∈ T → v = 16) → aW (T ++ W) → (T ++ W).length < 1700 → L.length + T.length ≤ 1600 → wtM (T ++ W) σ → cM L σ → ∃ σ1, f_M_goesOnTest_87 q σ = some (1, σ1) ∧ wtM (16 :: W) σ1 ∧ cM (L ++ T) σ1 ∧ eO σ σ1 := by
  intro T
  induction T with
  | nil =>
    intro L q σ hq hT ha hl hl2 hw hc
    obtain ⟨q, rfl⟩ : ∃ r, q = r + 1 := ⟨q - 1, by omega⟩
    have hw' : wtM W σ := hw
    have hlW : W.length < 1700 := hl
    obtain ⟨p1, p2⟩ := psh_w (v := 16) hw'
    refine ⟨_, ?_, p1, by rw [List.append_nil]; exact cM_o hc p2 (by decide) (by decide), eO_p p2⟩
    show f_M_goesOnTest_87b (f_M_goesOnTest_87 q) σ = _
    unfold f_M_goesOnTest_87b
    have i3 : f_M_isOn 16 σ = some 0 := mOff (x := 16) hw' hlW (by omega) ha h3
    rw [i3, bp_s, if_pos rfl]
    exact m_push (v := 16) hw' hlW (fun σ_4 => some ((1 : Int32), σ_4))
  | cons u T ih =>
    intro L q σ hq hT ha hl hl2 hw hc
    have hl1 : (u :: T).length = T.length + 1 := rfl
    obtain ⟨q, rfl⟩ : ∃ r, q = r + 1 := ⟨q - 1, by omega⟩
    have hu := hT u (by simp)
    have hl3 : (u :: T ++ W).length = (T ++ W).length + 1 := rfl
    have hw' : wtM (u :: (T ++ W)) σ := hw
    obtain ⟨σ1, a1, a2, a3, a4, a5⟩ := m_drops hw' hc (by omega) (by omega)
    obtain ⟨σ2, c1, c2, c3, c4⟩ := ih (L ++ [u]) q σ1 (by omega) (fun v hv => hT v (by simp [hv])) (aW_t ha) (by omega) (by rw [List.length_append]; show L.length + 1 + T.length ≤ 1600; omega) a2 a3
    refine ⟨σ2, ?_, c2, ?_, eO_t (eO_d a4 a5) c4⟩
    · rw [← c1]
      show f_M_goesOnTest_87b (f_M_goesOnTest_87 q) σ = _
      unfold f_M_goesOnTest_87b
      have i3 : f_M_isOn 16 σ = some (if u = 16 then 1 else 0) := mOn (x := 16) hw' (by omega) (by omega) ha
      rw [if_pos hu] at i3
      rw [i3, bp_s, if_neg (by decide), a1, bp_s]
    · have e : L ++ u :: T = L ++ [u] ++ T := by simp
      rw [e]
      exact c3
theorem m_pop17 {W : List Nat} (h3 : W.head? ≠ some 16) (h4 : W.head? ≠ some 17) : ∀ (T L : List Nat) (q : Nat) (σ : St), T.length < q → (∀ v, v ∈ T → v = 16 ∨ v = 17) → aW (T ++ W) → (T ++ W).length < 1700 → L.length + T.length ≤ 1600 → wtM (T ++ W) σ → cM L σ → ∃ σ1, f_M_goesOnTest_137 q σ = some (1, σ1) ∧ wtM (17 :: W) σ1 ∧ cM (L ++ T) σ1 ∧ eO σ σ1 := by
  intro T
  induction T with
  | nil =>
    intro L q σ hq hT ha hl hl2 hw hc
    obtain ⟨q, rfl⟩ : ∃ r, q = r + 1 := ⟨q - 1, by omega⟩
    have hw' : wtM W σ := hw
    have hlW : W.length < 1700 := hl
    obtain ⟨p1, p2⟩ := psh_w (v := 17) hw'
    refine ⟨_, ?_, p1, by rw [List.append_nil]; exact cM_o hc p2 (by decide) (by decide), eO_p p2⟩
    show f_M_goesOnTest_137b (f_M_goesOnTest_137 q) σ = _
    unfold f_M_goesOnTest_137b
    have i3 : f_M_isOn 16 σ = some 0 := mOff (x := 16) hw' hlW (by omega) ha h3
    have i4 : f_M_isOn 17 σ = some 0 := mOff (x := 17) hw' hlW (by omega) ha h4
    rw [i3, bp_s, if_pos rfl, i4, bp_s, if_pos rfl]
    exact m_push (v := 17) hw' hlW (fun σ_4 => some ((1 : Int32), σ_4))
  | cons u T ih =>
    intro L q σ hq hT ha hl hl2 hw hc
    have hl1 : (u :: T).length = T.length + 1 := rfl
    obtain ⟨q, rfl⟩ : ∃ r, q = r + 1 := ⟨q - 1, by omega⟩
    have hu := hT u (by simp)
    have hl3 : (u :: T ++ W).length = (T ++ W).length + 1 := rfl
    have hw' : wtM (u :: (T ++ W)) σ := hw
    obtain ⟨σ1, a1, a2, a3, a4, a5⟩ := m_drops hw' hc (by omega) (by omega)
    obtain ⟨σ2, c1, c2, c3, c4⟩ := ih (L ++ [u]) q σ1 (by omega) (fun v hv => hT v (by simp [hv])) (aW_t ha) (by omega) (by rw [List.length_append]; show L.length + 1 + T.length ≤ 1600; omega) a2 a3
    refine ⟨σ2, ?_, c2, ?_, eO_t (eO_d a4 a5) c4⟩
    · rw [← c1]
      show f_M_goesOnTest_137b (f_M_goesOnTest_137 q) σ = _
      unfold f_M_goesOnTest_137b f_M_goesOnTest_155
      have i3 : f_M_isOn 16 σ = some (if u = 16 then 1 else 0) := mOn (x := 16) hw' (by omega) (by omega) ha
      have i4 : f_M_isOn 17 σ = some (if u = 17 then 1 else 0) := mOn (x := 17) hw' (by omega) (by omega) ha
      rw [i3, bp_s, a1, bp_s]
      by_cases q3 : u = 16
      · rw [if_neg (fun h => b1_0.mp h q3)]
      · rw [if_pos (b1_0.mpr q3), i4, bp_s, if_neg (fun h => b1_0.mp h (by omega))]
    · have e : L ++ u :: T = L ++ [u] ++ T := by simp
      rw [e]
      exact c3
/-- down to the square -/
theorem m_pop25 {W : List Nat} (k0 : St → Option (Int32 × St)) : ∀ (T L : List Nat) (q : Nat) (σ : St), T.length < q → (∀ v, v ∈ T → v = 16 ∨ v = 17) → aW (T ++ 25 :: W) → (T ++ 25 :: W).length < 1700 → L.length + T.length ≤ 1600 → wtM (T ++ 25 :: W) σ → cM L σ → ∃ σ1, f_M_goesOnTest_33 k0 q σ = (lt (uI σ1 11 ((sI σ1 11) - 1)) fun σ_3 => lt (uI σ_3 12 ((sI σ_3 12) - 1)) fun σ_4 => bp (f_M_dropsNots σ_4) fun σ_6 => k0 σ_6) ∧ wtM (25 :: W) σ1 ∧ cM (L ++ T) σ1 ∧ eO σ σ1 := by
  intro T
  induction T with
  | nil =>
    intro L q σ hq hT ha hl hl2 hw hc
    obtain ⟨q, rfl⟩ : ∃ r, q = r + 1 := ⟨q - 1, by omega⟩
    have hw' : wtM (25 :: W) σ := hw
    have ha' : aW (25 :: W) := ha
    have hlW : (25 :: W).length < 1700 := hl
    rw [List.length_cons] at hlW
    refine ⟨σ, ?_, hw', by rw [List.append_nil]; exact hc, oS_r, fun _ => rfl⟩
    show f_M_goesOnTest_33b k0 (f_M_goesOnTest_33 k0 q) σ = _
    unfold f_M_goesOnTest_33b
    have i3 : f_M_isOn 25 σ = some (if 25 = 25 then 1 else 0) := mOn (x := 25) hw' (by omega) (by omega) ha'
    rw [if_pos rfl] at i3
    rw [i3, bp_s, if_neg (by decide)]
  | cons u T ih =>
    intro L q σ hq hT ha hl hl2 hw hc
    have hl1 : (u :: T).length = T.length + 1 := rfl
    obtain ⟨q, rfl⟩ : ∃ r, q = r + 1 := ⟨q - 1, by omega⟩
    have hu := hT u (by simp)
    have hl3 : (u :: T ++ 25 :: W).length = (T ++ 25 :: W).length + 1 := rfl
    have hw' : wtM (u :: (T ++ 25 :: W)) σ := hw
    obtain ⟨σ1, a1, a2, a3, a4, a5⟩ := m_drops hw' hc (by omega) (by omega)
    obtain ⟨σ2, c1, c2, c3, c4⟩ := ih (L ++ [u]) q σ1 (by omega) (fun v hv => hT v (by simp [hv])) (aW_t ha) (by omega) (by rw [List.length_append]; show L.length + 1 + T.length ≤ 1600; omega) a2 a3
    refine ⟨σ2, ?_, c2, ?_, eO_t (eO_d a4 a5) c4⟩
    · rw [← c1]
      show f_M_goesOnTest_33b k0 (f_M_goesOnTest_33 k0 q) σ = _
      unfold f_M_goesOnTest_33b
      have i3 : f_M_isOn 25 σ = some (if u = 25 then 1 else 0) := mOn (x := 25) hw' (by omega) (by omega) ha
      rw [if_neg (by omega)] at i3
      rw [i3, bp_s, if_pos rfl, a1, bp_s]
    · have e : L ++ u :: T = L ++ [u] ++ T := by simp
      rw [e]
      exact c3
theorem m_popAll : ∀ (T L : List Nat) (q : Nat) (σ : St), T.length < q → T.length < 1700 → L.length + T.length ≤ 1600 → wtM T σ → cM L σ → sI σ 4 = 0 → ∃ σ1, f_M_test_110 q σ = some σ1 ∧ wtM [] σ1 ∧ cM (L ++ T) σ1 ∧ eO σ σ1 := by
  intro T
  induction T with
  | nil =>
    intro L q σ hq hl hl2 hw hc h4
    obtain ⟨q, rfl⟩ : ∃ r, q = r + 1 := ⟨q - 1, by omega⟩
    refine ⟨σ, ?_, hw, by rw [List.append_nil]; exact hc, oS_r, fun _ => rfl⟩
    show f_M_test_110b (f_M_test_110 q) σ = _
    unfold f_M_test_110b
    rw [if_pos h4, hw.1, if_pos (by decide)]
  | cons u T ih =>
    intro L q σ hq hl hl2 hw hc h4
    have hl1 : (u :: T).length = T.length + 1 := rfl
    obtain ⟨q, rfl⟩ : ∃ r, q = r + 1 := ⟨q - 1, by omega⟩
    obtain ⟨σ1, a1, a2, a3, a4, a5⟩ := m_drops hw hc (by omega) (by omega)
    obtain ⟨σ2, c1, c2, c3, c4⟩ := ih (L ++ [u]) q σ1 (by omega) (by omega) (by rw [List.length_append]; show L.length + 1 + T.length ≤ 1600; omega) a2 a3 (by rw [a4.1 4 (by decide)]; exact h4)
    refine ⟨σ2, ?_, c2, ?_, eO_t (eO_d a4 a5) c4⟩
    · rw [← c1]
      show f_M_test_110b (f_M_test_110 q) σ = _
      unfold f_M_test_110b
      have e0 : (0 : Int32) = zI (0 : Nat) := rfl
      rw [if_pos h4, hw.1, if_neg (by rw [e0, zI_le (by omega) (by omega) (by omega) (by omega)]; omega), a1, bp_s]
    · have e : L ++ u :: T = L ++ [u] ++ T := by simp
      rw [e]
      exact c3
def tyB (k : Nat) (C : List Nat) : Prop := ∀ t : List Bool, t.length + k ≤ 64 → cTL C t = some (true :: t)
theorem tyB_m {j k : Nat} {C : List Nat} (h : tyB j C) (hk : j ≤ k) : tyB k C := fun t ht => h t (by omega)
theorem tyB_a : tyB 1 [19] := by
  intro t ht
  show (cT 19 t).bind (cTL []) = _
  have : cT 19 t = some (true :: t) := by
    unfold cT
    rw [if_neg (by decide), if_pos rfl, if_pos (by omega)]
  rw [this]
  rfl
theorem tyB_n {k : Nat} {C : List Nat} (h : tyB k C) : tyB k (C ++ [18]) := by
  intro t ht
  rw [cTL_a, h t ht]
  rfl
theorem tyB_o {j k v : Nat} {C D : List Nat} (hC : tyB k C) (hD : tyB j D) (hj : j + 1 ≤ k) (h : v = 16 ∨ v = 17) : tyB k (C ++ D ++ [v]) := by
  intro t ht
  rw [cTL_a, cTL_a, hC t ht]
  show ((cTL D (true :: t)).bind (cTL [v])) = _
  rw [hD (true :: t) (by show t.length + 1 + j ≤ 64; omega)]
  rcases h with rfl | rfl <;> rfl
theorem tyB_c {j k v : Nat} {C D : List Nat} (hC : tyN j C) (hD : tyN j D) (hj : j + 1 ≤ k) (h : v = 13 ∨ v = 14 ∨ v = 15) : tyB k (C ++ D ++ [v]) := by
  intro t ht
  rw [cTL_a, cTL_a, hC t (by omega)]
  show ((cTL D (false :: t)).bind (cTL [v])) = _
  rw [hD (false :: t) (by show t.length + 1 + j ≤ 64; omega)]
  rcases h with rfl | rfl | rfl <;> rfl
