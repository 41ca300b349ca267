-- ===== and, or, not, squares =====
section
variable {b : Nat → Nat} {n ee : Nat}
def oBoth (b : Nat → Nat) (n ee bs dp : Nat) (L W : List Nat) (s : Nat) (r : Option (Int32 × St)) (m : Option St) (σx σm : St) : Prop := (∃ (C Lm T : List Nat) (q' g' : Nat) (σx' σm' : St) (s' : Nat) (st' : Bool), r = some (1, σx') ∧ m = TE q' g' σm' ∧ ER b n ee bs dp (L ++ C) Lm (T ++ W) s' st' σx' σm' ∧ L ++ C = Lm ++ T ∧ (∀ v, v ∈ T → v = 16) ∧ ¬ (kd b n s' st' = 1 ∧ wAt b n s' 22) ∧ tyB (5 + 3 * (6 - dp)) C ∧ xK σx σx' ∧ eK σm σm' ∧ s < s' ∧ n + 2 ≤ s' + q' ∧ n + 2 ≤ s' + g') ∨ oF2 r m σx σm
def oTest (b : Nat → Nat) (n ee bs dp : Nat) (L W : List Nat) (s : Nat) (r : Option (Int32 × St)) (m : Option St) (σx σm : St) : Prop := (∃ (C Lm P : List Nat) (q' g' : Nat) (σx' σm' : St) (s' : Nat) (st' : Bool), r = some (1, σx') ∧ m = TE q' g' σm' ∧ ER b n ee bs dp (L ++ C) Lm (P ++ W) s' st' σx' σm' ∧ L ++ C = Lm ++ P ∧ (∀ v, v ∈ P → v = 16 ∨ v = 17) ∧ ¬ (kd b n s' st' = 1 ∧ wAt b n s' 22) ∧ ¬ (kd b n s' st' = 1 ∧ wAt b n s' 21) ∧ tyB (6 + 3 * (6 - dp)) C ∧ xK σx σx' ∧ eK σm σm' ∧ s < s' ∧ n + 2 ≤ s' + q' ∧ n + 2 ≤ s' + g') ∨ oF2 r m σx σm
def BothOK (b : Nat → Nat) (n ee : Nat) (kT : Int32 → St → Option (Int32 × St)) (dp : Nat) : Prop := ∀ (q bs : Nat) (L W : List Nat) (s : Nat) (st : Bool) (σx σm : St), W.head? ≠ some 16 → W.head? ≠ some 18 → aW W → ER b n ee bs dp L L W s st σx σm → n + 2 ≤ s + q → oBoth b n ee bs dp L W s (f_Parser_readBoth kT (zI dp) σx) (f_M_test_2 q 1 σm) σx σm
def TestOK (b : Nat → Nat) (n ee : Nat) (kT : Int32 → St → Option (Int32 × St)) (dp : Nat) : Prop := ∀ (q bs : Nat) (L W : List Nat) (s : Nat) (st : Bool) (σx σm : St), W.head? ≠ some 16 → W.head? ≠ some 17 → W.head? ≠ some 18 → aW W → ER b n ee bs dp L L W s st σx σm → n + 2 ≤ s + q → oTest b n ee bs dp L W s (f_Parser_readTest kT (zI dp) σx) (f_M_test_2 q 1 σm) σx σm
theorem aW_p {P W : List Nat} (hP : ∀ v, v ∈ P → v = 16 ∨ v = 17) (h : aW W) : aW (P ++ W) := by
  intro v hv
  rcases List.mem_append.mp hv with hv | hv
  · have := hP v hv
    omega
  · exact h v hv
theorem aW_c {u : Nat} {W : List Nat} (hu : 16 ≤ u ∧ u ≤ 25) (h : aW W) : aW (u :: W) := by
  intro v hv
  rcases List.mem_cons.mp hv with e | e
  · omega
  · exact h v e
/-- a fact with no not before it -/
theorem fact0 {kT : Int32 → St → Option (Int32 × St)} {dp : Nat} (hF : FactOK b n ee kT dp) {q bs s : Nat} {L W : List Nat} {st : Bool} {σx σm : St} (hh : W.head? ≠ some 18) (ha : aW W) (h : ER b n ee bs dp L L W s st σx σm) (hq : n + 2 ≤ s + q) : (∃ (C : List Nat) (q' g' : Nat) (σx' σm' : St) (s' : Nat) (st' : Bool), kT (zI dp) σx = some (1, σx') ∧ f_M_test_2 q 1 σm = TE q' g' σm' ∧ ER b n ee bs dp (L ++ C) (L ++ C) W s' st' σx' σm' ∧ tyB (4 + 3 * (6 - dp)) C ∧ xK σx σx' ∧ eK σm σm' ∧ s < s' ∧ n + 2 ≤ s' + q' ∧ n + 2 ≤ s' + g') ∨ oF2 (kT (zI dp) σx) (f_M_test_2 q 1 σm) σx σm := by
  rcases hF q bs 0 L W s st σx σm hh ha (by omega) h hq with ⟨C, q', g', σx', σm', s', st', r1, r2, r3, r4⟩ | hR
  · rw [List.replicate_zero, List.append_nil, Nat.sub_zero] at r3
    exact .inl ⟨C, q', g', σx', σm', s', st', r1, r2, r3, r4⟩
  · exact .inr hR
theorem bo_loop {kT : Int32 → St → Option (Int32 × St)} {dp : Nat} (hF : FactOK b n ee kT dp) {bs s0 : Nat} {L W : List Nat} {σx0 σm0 : St} (h16 : W.head? ≠ some 16) (h18 : W.head? ≠ some 18) (ha : aW W) : ∀ (m k qX q g : Nat) (C Lm T : List Nat) (s : Nat) (st : Bool) (σx σm : St), n - s ≤ m → m < qX → k ≤ s → s0 < s → ER b n ee bs dp (L ++ C) Lm (T ++ W) s st σx σm → L ++ C = Lm ++ T → (∀ v, v ∈ T → v = 16) → tyB (5 + 3 * (6 - dp)) C → n + 2 ≤ s + q → n + 2 ≤ s + g → xK σx0 σx → eK σm0 σm → oBoth b n ee bs dp L W s0 (f_Parser_readBoth_12 kT qX (zI dp) (zI k) σx) (TE q g σm) σx0 σm0 := by
  intro m
  induction m with
  | zero =>
    intro k qX q g C Lm T s st σx σm h1 h2 hk hs0 hR hL hT hC hq hg fx fm
    obtain ⟨hs, hn⟩ := ER_s hR
    obtain ⟨qX, rfl⟩ : ∃ r, qX = r + 1 := ⟨qX - 1, by omega⟩
    have hno : ¬ (kd b n s st = 1 ∧ wAt b n s 22) := fun h => by have := (kd_1.mp h.1).1; omega
    have e : f_Parser_readBoth_12 kT (qX + 1) (zI dp) (zI k) σx = some (1, σx) := by
      show f_Parser_readBoth_12b kT (f_Parser_readBoth_12 kT qX) (zI dp) (zI k) σx = _
      unfold f_Parser_readBoth_12b
      have n1 : f_Reader_isWord 22 σx = some 0 := x_noWord (j := 22) hR.1 (by omega) hno
      rw [n1, bp_s, if_pos rfl, ite_self]
    exact .inl ⟨C, Lm, T, q, g, σx, σm, s, st, e, rfl, hR, hL, hT, hno, hC, fx, fm, hs0, hq, hg⟩
  | succ m ih =>
    intro k qX q g C Lm T s st σx σm h1 h2 hk hs0 hR hL hT hC hq hg fx fm
    obtain ⟨hs, hn⟩ := ER_s hR
    obtain ⟨qX, rfl⟩ : ∃ r, qX = r + 1 := ⟨qX - 1, by omega⟩
    by_cases c : kd b n s st = 1 ∧ wAt b n s 22
    · have hsn := (kd_1.mp c.1).1
      have e16 : (1600 : Int32) = zI (1600 : Nat) := rfl
      obtain ⟨σx1, σm1, s1, st1, z1, z2, z3, z4, z5, z6, z7⟩ := mt_and (q := q) hR (aW_p (fun v hv => .inl (hT v hv)) ha) hT h16 c hg
      rw [← hL] at z4
      have z1' : f_Reader_isWord 22 σx = some 1 := z1
      have hX : f_Parser_readBoth_12 kT (qX + 1) (zI dp) (zI k) σx = bd (kT (zI dp) σx1) fun r_6 σ_7 => if r_6 = 0 then some (0, σ_7) else bp (f_Fair_emit (zI (xC 16 : Nat)) σ_7) fun σ_9 => f_Parser_readBoth_12 kT qX (zI dp) (zI (k + 1 : Nat)) σ_9 := by
        show f_Parser_readBoth_12b kT (f_Parser_readBoth_12 kT qX) (zI dp) (zI k) σx = _
        unfold f_Parser_readBoth_12b
        rw [e16, if_neg (by rw [zI_le (by omega) (by omega) (by omega) (by omega)]; omega), z1', bp_s, if_neg (by decide), z2, bp_s, zS]
        rfl
      rw [hX, z3]
      rcases fact0 hF (W := 16 :: W) (by simp) (aW_c (by omega) ha) z4 (by omega : n + 2 ≤ s1 + q) with ⟨D, q2, g2, σx2, σm2, s2, st2, r1, r2, r3, r4, r5, r6, r7, r8, r9⟩ | hFF
      · obtain ⟨hs2, _⟩ := ER_s r3
        obtain ⟨d1, d2, d3, d4, d5, d6, d7, d8⟩ := r3
        have hd7 : (L ++ C ++ D).length + (W.length + 1) + 1 + ee < s2 := d7
        obtain ⟨σx3, w1, w2, w3⟩ := x_emit (c := 16) d2 (by omega)
        rw [r1, bd_s, if_neg (by decide), w1, bp_s, r2]
        have eC : L ++ (C ++ D ++ [16]) = L ++ C ++ D ++ [16] := by simp
        refine ih (k + 1) qX q2 g2 (C ++ D ++ [16]) (L ++ C ++ D) [16] s2 st2 σx3 σm2 (by omega) (by omega) (by omega) (by omega) ⟨SY_o d1 w3 (oS_r (I := []) (J := []) (A := []) (B := [])) (by decide) (by decide) (by decide) (by decide), by rw [eC]; exact w2, d3, d4, d5, d6, d7, d8⟩ eC (fun v hv => by rcases List.mem_singleton.mp hv with rfl; rfl) (tyB_o hC r4 (by omega) (by omega)) (by omega) (by omega) (xK_t fx (xK_t z5 (xK_t r5 (xK_e w3)))) (eK_t fm (eK_t z6 r6))
      · refine .inr (oF2_t (xK_t fx z5) (eK_t fm z6) (oF2_m hFF (fun σ e => ?_) rfl))
        rw [e, bd_s, if_pos rfl]
    · have e : f_Parser_readBoth_12 kT (qX + 1) (zI dp) (zI k) σx = some (1, σx) := by
        show f_Parser_readBoth_12b kT (f_Parser_readBoth_12 kT qX) (zI dp) (zI k) σx = _
        unfold f_Parser_readBoth_12b
        have n1 : f_Reader_isWord 22 σx = some 0 := x_noWord (j := 22) hR.1 (by omega) c
        rw [n1, bp_s, if_pos rfl, ite_self]
      exact .inl ⟨C, Lm, T, q, g, σx, σm, s, st, e, rfl, hR, hL, hT, c, hC, fx, fm, hs0, hq, hg⟩
theorem t_both {kT : Int32 → St → Option (Int32 × St)} {dp : Nat} (hF : FactOK b n ee kT dp) : BothOK b n ee kT dp := by
  intro q bs L W s st σx σm h16 h18 ha h hq
  unfold f_Parser_readBoth
  rcases fact0 hF h18 ha h hq with ⟨D, q2, g2, σx2, σm2, s2, st2, r1, r2, r3, r4, r5, r6, r7, r8, r9⟩ | hFF
  · obtain ⟨hs2, hn⟩ := ER_s r3
    rw [r1, bd_s, if_neg (by decide), r2]
    exact bo_loop hF h16 h18 ha (n - s2) 0 FU q2 g2 D (L ++ D) [] s2 st2 σx2 σm2 (by omega) (FU_gt (by omega)) (by omega) r7 r3 (by rw [List.append_nil]) (fun v hv => absurd hv (by simp)) (tyB_m r4 (by omega)) r8 r9 r5 r6
  · refine .inr (oF2_m hFF (fun σ e => ?_) rfl)
    rw [e, bd_s, if_pos rfl]
theorem te_loop {kT : Int32 → St → Option (Int32 × St)} {dp : Nat} (hF : BothOK b n ee kT dp) {bs s0 : Nat} {L W : List Nat} {σx0 σm0 : St} (h16 : W.head? ≠ some 16) (h17 : W.head? ≠ some 17) (ha : aW W) : ∀ (m k qX q g : Nat) (C Lm T : List Nat) (s : Nat) (st : Bool) (σx σm : St), n - s ≤ m → m < qX → k ≤ s → s0 < s → ER b n ee bs dp (L ++ C) Lm (T ++ W) s st σx σm → L ++ C = Lm ++ T → (∀ v, v ∈ T → v = 16 ∨ v = 17) → ¬ (kd b n s st = 1 ∧ wAt b n s 22) → tyB (6 + 3 * (6 - dp)) C → n + 2 ≤ s + q → n + 2 ≤ s + g → xK σx0 σx → eK σm0 σm → oTest b n ee bs dp L W s0 (f_Parser_readTest_12 kT qX (zI dp) (zI k) σx) (TE q g σm) σx0 σm0 := by
  intro m
  induction m with
  | zero =>
    intro k qX q g C Lm T s st σx σm h1 h2 hk hs0 hR hL hT hn22 hC hq hg fx fm
    obtain ⟨hs, hn⟩ := ER_s hR
    obtain ⟨qX, rfl⟩ : ∃ r, qX = r + 1 := ⟨qX - 1, by omega⟩
    have hno : ¬ (kd b n s st = 1 ∧ wAt b n s 21) := fun h => by have := (kd_1.mp h.1).1; omega
    have e : f_Parser_readTest_12 kT (qX + 1) (zI dp) (zI k) σx = some (1, σx) := by
      show f_Parser_readTest_12b kT (f_Parser_readTest_12 kT qX) (zI dp) (zI k) σx = _
      unfold f_Parser_readTest_12b
      have n1 : f_Reader_isWord 21 σx = some 0 := x_noWord (j := 21) hR.1 (by omega) hno
      rw [n1, bp_s, if_pos rfl, ite_self]
    exact .inl ⟨C, Lm, T, q, g, σx, σm, s, st, e, rfl, hR, hL, hT, hn22, hno, hC, fx, fm, hs0, hq, hg⟩
  | succ m ih =>
    intro k qX q g C Lm T s st σx σm h1 h2 hk hs0 hR hL hT hn22 hC hq hg fx fm
    obtain ⟨hs, hn⟩ := ER_s hR
    obtain ⟨qX, rfl⟩ : ∃ r, qX = r + 1 := ⟨qX - 1, by omega⟩
    by_cases c : kd b n s st = 1 ∧ wAt b n s 21
    · have hsn := (kd_1.mp c.1).1
      have e16 : (1600 : Int32) = zI (1600 : Nat) := rfl
      obtain ⟨σx1, σm1, s1, st1, z1, z2, z3, z4, z5, z6, z7⟩ := mt_or (q := q) hR (aW_p hT ha) hT h16 h17 c hg
      rw [← hL] at z4
      have z1' : f_Reader_isWord 21 σx = some 1 := z1
      have hX : f_Parser_readTest_12 kT (qX + 1) (zI dp) (zI k) σx = bd (f_Parser_readBoth kT (zI dp) σx1) fun r_6 σ_7 => if r_6 = 0 then some (0, σ_7) else bp (f_Fair_emit (zI (xC 17 : Nat)) σ_7) fun σ_9 => f_Parser_readTest_12 kT qX (zI dp) (zI (k + 1 : Nat)) σ_9 := by
        show f_Parser_readTest_12b kT (f_Parser_readTest_12 kT qX) (zI dp) (zI k) σx = _
        unfold f_Parser_readTest_12b
        rw [e16, if_neg (by rw [zI_le (by omega) (by omega) (by omega) (by omega)]; omega), z1', bp_s, if_neg (by decide), z2, bp_s, zS]
        rfl
      rw [hX, z3]
      rcases hF q bs (L ++ C) (17 :: W) s1 st1 σx1 σm1 (by simp) (by simp) (aW_c (by omega) ha) z4 (by omega) with ⟨D, Lm2, T2, q2, g2, σx2, σm2, s2, st2, r1, r2, r3, r3a, r3b, r3c, r4, r5, r6, r7, r8, r9⟩ | hFF
      · obtain ⟨hs2, _⟩ := ER_s r3
        obtain ⟨d1, d2, d3, d4, d5, d6, d7, d8⟩ := r3
        have hlen1 : (L ++ C ++ D).length = Lm2.length + T2.length := by rw [r3a, List.length_append]
        have hlen2 : (T2 ++ 17 :: W).length = T2.length + (W.length + 1) := by rw [List.length_append]; rfl
        obtain ⟨σx3, w1, w2, w3⟩ := x_emit (c := 17) d2 (by omega)
        rw [r1, bd_s, if_neg (by decide), w1, bp_s, r2]
        have eC : L ++ (C ++ D ++ [17]) = L ++ C ++ D ++ [17] := by simp
        have eT : T2 ++ [17] ++ W = T2 ++ 17 :: W := by simp
        refine ih (k + 1) qX q2 g2 (C ++ D ++ [17]) Lm2 (T2 ++ [17]) s2 st2 σx3 σm2 (by omega) (by omega) (by omega) (by omega) ⟨SY_o d1 w3 (oS_r (I := []) (J := []) (A := []) (B := [])) (by decide) (by decide) (by decide) (by decide), by rw [eC]; exact w2, d3, by rw [eT]; exact d4, d5, d6, by rw [eT]; exact d7, by rw [eT]; exact d8⟩ (by rw [eC, r3a, List.append_assoc]) (fun v hv => ?_) r3c (tyB_o hC r4 (by omega) (by omega)) (by omega) (by omega) (xK_t fx (xK_t z5 (xK_t r5 (xK_e w3)))) (eK_t fm (eK_t z6 r6))
        rcases List.mem_append.mp hv with hv | hv
        · exact .inl (r3b v hv)
        · rcases List.mem_singleton.mp hv with rfl
          exact .inr rfl
      · refine .inr (oF2_t (xK_t fx z5) (eK_t fm z6) (oF2_m hFF (fun σ e => ?_) rfl))
        rw [e, bd_s, if_pos rfl]
    · have e : f_Parser_readTest_12 kT (qX + 1) (zI dp) (zI k) σx = some (1, σx) := by
        show f_Parser_readTest_12b kT (f_Parser_readTest_12 kT qX) (zI dp) (zI k) σx = _
        unfold f_Parser_readTest_12b
        have n1 : f_Reader_isWord 21 σx = some 0 := x_noWord (j := 21) hR.1 (by omega) c
        rw [n1, bp_s, if_pos rfl, ite_self]
      exact .inl ⟨C, Lm, T, q, g, σx, σm, s, st, e, rfl, hR, hL, hT, hn22, c, hC, fx, fm, hs0, hq, hg⟩
theorem t_test {kT : Int32 → St → Option (Int32 × St)} {dp : Nat} (hF : FactOK b n ee kT dp) : TestOK b n ee kT dp := by
  intro q bs L W s st σx σm h16 h17 h18 ha h hq
  unfold f_Parser_readTest
  rcases t_both hF q bs L W s st σx σm h16 h18 ha h hq with ⟨D, Lm2, T2, q2, g2, σx2, σm2, s2, st2, r1, r2, r3, r3a, r3b, r3c, r4, r5, r6, r7, r8, r9⟩ | hFF
  · obtain ⟨hs2, hn⟩ := ER_s r3
    rw [r1, bd_s, if_neg (by decide), r2]
    exact te_loop (t_both hF) h16 h17 ha (n - s2) 0 FU q2 g2 D Lm2 T2 s2 st2 σx2 σm2 (by omega) (FU_gt (by omega)) (by omega) r7 r3 r3a (fun v hv => .inl (r3b v hv)) r3c (tyB_m r4 (by omega)) r8 r9 r5 r6
  · refine .inr (oF2_m hFF (fun σ e => ?_) rfl)
    rw [e, bd_s, if_pos rfl]
theorem rep_e (k : Nat) (A : List Nat) : A ++ List.replicate (k + 1) 18 = A ++ [18] ++ List.replicate k 18 := by
  rw [List.replicate_succ]
  simp
theorem t_factB {kT : Int32 → St → Option (Int32 × St)} {dp : Nat} (hd : dp ≤ 6) (hF : dp < 6 → FactOK b n ee kT (dp + 1)) : FactOK b n ee (f_Parser_readFactB kT) dp := by
  intro q bs k L W s st σx σm hh ha hk h hq
  obtain ⟨hs, hn⟩ := ER_s h
  have a1 := h.1
  have hFU : ∀ s', n + 2 ≤ s' + FU := by
    intro s'
    have : FU = 100000 := rfl
    omega
  have e6 : (6 : Int32) = zI (6 : Nat) := rfl
  unfold f_Parser_readFactB
  by_cases c23 : kd b n s st = 1 ∧ wAt b n s 23
  · have i23 : f_Reader_isWord 23 σx = some 1 := (x_isWord (j := 23) a1.1.1 a1.2.2.1 a1.2.2.2.2.2 (by omega)).1 c23
    rw [i23, bp_s, if_neg (by decide)]
    by_cases cd : dp = 6
    · obtain ⟨σm', m1, m2, m3⟩ := mt_notDeep h c23 cd hq
      rw [x_deep cd a1.2.2.1.1, bd_s, if_pos rfl]
      exact .inr ⟨4, s, _, σm', rfl, m1, m2, oS_uI (by decide) (oS_uI (by decide) oS_r), m3⟩
    · obtain ⟨q', σx1, σm1, s1, st1, z1, z2, z3, z4, z5, z6, z7, z8⟩ := mt_not h c23 (by omega) hq
      rw [x_opener (by omega) z2, bd_s, if_neg (by decide), zS, z3]
      rcases hF (by omega) q' bs (k + 1) L W s1 st1 σx1 σm1 hh ha (by omega) z4 z8 with ⟨C, q2, g2, σx2, σm2, s2, st2, r1, r2, r3, r4, r5, r6, r7, r8, r9⟩ | hFF
      · obtain ⟨hs2, _⟩ := ER_s r3
        obtain ⟨d1, d2, d3, d4, d5, d6, d7, d8⟩ := r3
        have hl : (L ++ C ++ List.replicate (k + 1) 18).length = (L ++ C).length + (k + 1) := by rw [List.length_append, List.length_replicate]
        obtain ⟨σx3, w1, w2, w3⟩ := x_emit (c := 18) d2 (by omega)
        have w1' : f_Fair_emit 10010 σx2 = some σx3 := w1
        rw [r1, bd_s, if_neg (by decide), w1', bp_s, r2]
        have eC : L ++ (C ++ [18]) = L ++ C ++ [18] := by simp
        have eM : L ++ (C ++ [18]) ++ List.replicate k 18 = L ++ C ++ List.replicate (k + 1) 18 := by rw [rep_e, eC]
        have eD : dp + 1 - (k + 1) = dp - k := by omega
        rw [eD] at d6
        exact .inl ⟨C ++ [18], q2, g2, σx3, σm2, s2, st2, rfl, rfl, ⟨SY_o d1 w3 (oS_r (I := []) (J := []) (A := []) (B := [])) (by decide) (by decide) (by decide) (by decide), by rw [eC]; exact w2, by rw [eM]; exact d3, d4, d5, d6, by rw [eM]; exact d7, d8⟩, tyB_m (tyB_n r4) (by omega), xK_t z5 (xK_t r5 (xK_e w3)), eK_t z6 r6, by omega, r8, r9⟩
      · refine .inr (oF2_t z5 z6 (oF2_m hFF (fun σ e => ?_) rfl))
        rw [e, bd_s, if_pos rfl]
  · have i23 : f_Reader_isWord 23 σx = some 0 := x_noWord (j := 23) a1 (by omega) c23
    rw [i23, bp_s, if_pos rfl]
    by_cases c91 : s < n ∧ b s = 91
    · have i91 : f_Reader_isSign 91 σx = some 1 := (x_isSign a1.1 a1.2.2.1 (sg_e (c := 91) (by omega))).1 c91
      rw [i91, bp_s, if_neg (by decide)]
      by_cases cd : dp = 6
      · obtain ⟨σm', m1, m2, m3⟩ := mt_sqDeep h c91 cd hq
        rw [x_deep cd a1.2.2.1.1, bd_s, if_pos rfl]
        exact .inr ⟨4, s, _, σm', rfl, m1, m2, oS_uI (by decide) (oS_uI (by decide) oS_r), m3⟩
      · obtain ⟨q', σx1, σm1, s1, st1, z1, z2, z3, z4, z5, z6, z7, z8⟩ := mt_sq h c91 (by omega) hq
        rw [x_opener (by omega) z2, bd_s, if_neg (by decide), zS, z3]
        have ha25 : aW (25 :: (List.replicate k 18 ++ W)) := aW_c (by omega) (aW_r ha)
        rcases t_test (hF (by omega)) q' bs L (25 :: (List.replicate k 18 ++ W)) s1 st1 σx1 σm1 (by simp) (by simp) (by simp) ha25 z4 z8 with ⟨C, Lm, P, q2, g2, σx2, σm2, s2, st2, r1, r2, r3, r3a, r3b, r3c, r3d, r4, r5, r6, r7, r8, r9⟩ | hFF
        · rw [r1, bd_s, if_neg (by decide), r2]
          by_cases c93 : s2 < n ∧ b s2 = 93
          · obtain ⟨g3, σx3, σm3, s3, st3, y1, y2, y3, y4, y5, y6, y7, y8⟩ := mt_close (q := q2) r3 (aW_p r3b ha25) r3b hh hk hd c93 r9
            have pp : f_Parser_passSign 93 σx2 = some (1, σx3) := x_pass (c := 93) y1 y2
            rw [pp, bd_s, if_neg (by decide)]
            rw [← r3a] at y4
            exact .inl ⟨C, q2, g3, σx3, σm3, s3, st3, rfl, y3, y4, tyB_m r4 (by omega), xK_t z5 (xK_t r5 y5), eK_t z6 (eK_t r6 y6), by omega, by omega, y8⟩
          · obtain ⟨y1, y2, σm3, y3, y4, y5, y6⟩ := mt_bad r3 (aW_p r3b ha25) r3c r3d (by simp) c93 r8 r9
            have pp : f_Parser_passSign 93 σx2 = some (0, _) := x_passNo (c := 93) y1 y2
            rw [pp, bd_s, if_pos rfl]
            exact .inr ⟨1, s2, _, σm3, rfl, y3, y4.1, xF_t (xK_F (xK_t z5 r5)) y5, eF_t (eK_t z6 r6).1 y6⟩
        · refine .inr (oF2_t z5 z6 (oF2_m hFF (fun σ e => ?_) rfl))
          rw [e, bd_s, if_pos rfl]
    · have i91 : f_Reader_isSign 91 σx = some 0 := x_noSign (c := 91) a1 (sg_e (by omega)) c91
      rw [i91, bp_s, if_pos rfl]
      by_cases c24 : kd b n s st = 1 ∧ wAt b n s 24
      · have i24 : f_Reader_isWord 24 σx = some 1 := (x_isWord (j := 24) a1.1.1 a1.2.2.1 a1.2.2.2.2.2 (by omega)).1 c24
        rw [i24, bp_s, if_neg (by decide)]
        obtain ⟨q, rfl⟩ : ∃ r, q = r + 1 := ⟨q - 1, by omega⟩
        rw [mt_fact a1 c91 c23]
        obtain ⟨σx', σm', s', st', w1, w2, w3, w4, w5, w6, w7, w8, w9⟩ := t_word' a1 (show 24 < 27 by omega) c24
        have hl := h.2.2.2.2.2.2.1
        have hR := ER_w h w6 w7 w8 (by omega)
        obtain ⟨σx4, σm4, v1, v2, v3, v4, v5⟩ := ER_code (c := 19) hR (by omega)
        obtain ⟨σm5, g1, g2, g3⟩ := fin_fact (q := q) v3 hh ha hk hd
        have v1' : f_Fair_emit 1 σx' = some σx4 := v1
        have v2' : f_M_code 19 σm' = some σm4 := v2
        unfold f_M_fact
        rw [w2, bp_s, v1', bp_s, w5, bd_s, if_neg (by decide), v2', bp_s, bp_s, g1]
        exact .inl ⟨[19], q, FU, σx4, σm5, s', st', rfl, rfl, g2, tyB_m tyB_a (by omega), xK_t (xK_s w7) v4, eK_t (eK_1 w8) (eK_t v5 g3), w9, by omega, hFU _⟩
      · have i24 : f_Reader_isWord 24 σx = some 0 := x_noWord (j := 24) a1 (by omega) c24
        rw [i24, bp_s, if_pos rfl]
        have hc := t_cmp hd hh ha hk h c91 c23 c24 hq
        rw [← cmp_e] at hc
        exact hc
theorem t_fact : ∀ (m d dp : Nat), dp + m = 6 → m < d → FactOK b n ee (f_Parser_readFact d) dp := by
  intro m
  induction m with
  | zero =>
    intro d dp h1 h2
    obtain ⟨d, rfl⟩ : ∃ r, d = r + 1 := ⟨d - 1, by omega⟩
    exact t_factB (by omega) (fun h => by omega)
  | succ m ih =>
    intro d dp h1 h2
    obtain ⟨d, rfl⟩ : ∃ r, d = r + 1 := ⟨d - 1, by omega⟩
    exact t_factB (by omega) (fun h => ih d (dp + 1) (by omega) (by omega))
/-- a whole test, on both sides -/
theorem t_tests {bs s : Nat} {L : List Nat} {st : Bool} {σx σm : St} (h : ER b n ee bs 0 L L [] s st σx σm) : (∃ (C : List Nat) (σx' σm' : St) (s' : Nat) (st' : Bool), f_Parser_readTest (f_Parser_readFact 8) (zI (0 : Nat)) σx = some (1, σx') ∧ f_M_test σm = some σm' ∧ ER b n ee bs 0 (L ++ C) (L ++ C) [] s' st' σx' σm' ∧ cTL C [] = some [true] ∧ xK σx σx' ∧ eK σm σm' ∧ s < s') ∨ oF2 (f_Parser_readTest (f_Parser_readFact 8) (zI (0 : Nat)) σx) (f_M_test σm) σx σm := by
  obtain ⟨hs, hn⟩ := ER_s h
  have hFU : FU = 100000 := rfl
  unfold f_M_test
  rcases t_test (t_fact 6 8 0 (by omega) (by omega)) FU bs L [] s st σx σm (by simp) (by simp) (by simp) (fun v hv => absurd hv (by simp)) h (by omega) with ⟨C, Lm, P, q2, g2, σx2, σm2, s2, st2, r1, r2, r3, r3a, r3b, r3c, r3d, r4, r5, r6, r7, r8, r9⟩ | hFF
  · rw [List.append_nil] at r3
    obtain ⟨σm3, y1, y2, y3⟩ := mt_end (q := q2) (g := g2) r3 (fun v hv => by have := r3b v hv; omega) r3c r3d (fun h => by have := r3b 25 h; omega) r8 r9
    rw [← r3a] at y2
    exact .inl ⟨C, σx2, σm3, s2, st2, r1, by rw [r2, y1], y2, r4 [] (by show 0 + _ ≤ 64; omega), r5, eK_t r6 y3, r7⟩
  · exact .inr hFF
end
