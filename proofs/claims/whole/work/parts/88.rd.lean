-- ===== products and sums, in a row =====
section
variable {b : Nat → Nat} {n ee : Nat}
theorem x_st (c : Nat) : (c = 42 → xC 3 = 10018) ∧ (c = 47 → xC 4 = 10019) := ⟨fun _ => rfl, fun _ => rfl⟩
theorem pr_loop {kS : Int32 → St → Option (Int32 × St)} {dp : Nat} (hP : PartOK b n ee kS dp) {x1 : Int32} {bs s0 : Nat} {L W : List Nat} {σx0 σm0 : St} (hbs : bs ≤ W.length) (h3 : W.head? ≠ some 3) (h4 : W.head? ≠ some 4) : ∀ (m k qX q g : Nat) (C Lm T : List Nat) (s : Nat) (st : Bool) (σx σm : St), n - s ≤ m → m < qX → k ≤ s → s0 < s → ER b n ee bs dp (L ++ C) Lm (T ++ W) s st σx σm → L ++ C = Lm ++ T → (∀ v, v ∈ T → v = 3 ∨ v = 4) → tyN (2 + 3 * (6 - dp)) C → n + 2 ≤ s + q → n + 2 ≤ s + g → xK σx0 σx → eK σm0 σm → oProd b n ee bs dp L W s0 (f_Parser_readProduct_12 kS qX (zI dp) (zI k) σx) x1 (ME x1 q g σm) σx0 σm0 := by
  intro m
  induction m with
  | zero =>
    intro k qX q g C Lm T s st σx σm h1 h2 hk hs0 hR hL hT hC hq hg fx fm
    obtain ⟨hs, hn⟩ := ER_s hR
    obtain ⟨qX, rfl⟩ : ∃ r, qX = r + 1 := ⟨qX - 1, by omega⟩
    have e : f_Parser_readProduct_12 kS (qX + 1) (zI dp) (zI k) σx = some (1, σx) := by
      show f_Parser_readProduct_12b kS (f_Parser_readProduct_12 kS qX) (zI dp) (zI k) σx = _
      unfold f_Parser_readProduct_12b
      have n1 : f_Reader_isSign 42 σx = some 0 := x_noSign (c := 42) hR.1 (sg_e (by omega)) (by omega)
      have n2 : f_Reader_isSign 47 σx = some 0 := x_noSign (c := 47) hR.1 (sg_e (by omega)) (by omega)
      rw [n1, bp_s, if_pos rfl, n2, bp_s, if_pos rfl, ite_self]
    exact .inl ⟨C, Lm, T, q, g, σx, σm, s, st, e, rfl, hR, hL, hT, by omega, hC, fx, fm, hs0, hq, hg⟩
  | succ m ih =>
    intro k qX q g C Lm T s st σx σm h1 h2 hk hs0 hR hL hT hC hq hg fx fm
    obtain ⟨hs, hn⟩ := ER_s hR
    obtain ⟨qX, rfl⟩ : ∃ r, qX = r + 1 := ⟨qX - 1, by omega⟩
    by_cases c : s < n ∧ (b s = 42 ∨ b s = 47)
    · have e16 : (1600 : Int32) = zI (1600 : Nat) := rfl
      -- the step for one of the two signs
      have step : ∀ cc kk : Nat, (cc = 42 ∧ kk = 3) ∨ (cc = 47 ∧ kk = 4) → b s = cc → f_Parser_readProduct_12 kS (qX + 1) (zI dp) (zI k) σx = f_Parser_readProduct_64 kS (f_Parser_readProduct_12 kS qX) (zI dp) (zI k) (zI (xC kk)) σx := by
        intro cc kk hck hb
        show f_Parser_readProduct_12b kS (f_Parser_readProduct_12 kS qX) (zI dp) (zI k) σx = _
        unfold f_Parser_readProduct_12b f_Parser_readProduct_43
        rw [e16, if_neg (by rw [zI_le (by omega) (by omega) (by omega) (by omega)]; omega)]
        rcases hck with ⟨rfl, rfl⟩ | ⟨rfl, rfl⟩
        · have n1 : f_Reader_isSign 42 σx = some 1 := (x_isSign hR.1.1 hR.1.2.2.1 (sg_e (c := 42) (by omega))).1 ⟨c.1, hb⟩
          rw [n1, bp_s, if_neg (by decide), bp_s, if_neg (by decide)]
          rfl
        · have n1 : f_Reader_isSign 42 σx = some 0 := x_noSign (c := 42) hR.1 (sg_e (by omega)) (by omega)
          have n2 : f_Reader_isSign 47 σx = some 1 := (x_isSign hR.1.1 hR.1.2.2.1 (sg_e (c := 47) (by omega))).1 ⟨c.1, hb⟩
          rw [n1, bp_s, if_pos rfl, n2, bp_s, if_neg (by decide), bp_s, if_pos rfl]
          rfl
      have go : ∀ cc kk : Nat, (cc = 42 ∧ kk = 3) ∨ (cc = 47 ∧ kk = 4) → b s = cc → oProd b n ee bs dp L W s0 (f_Parser_readProduct_12 kS (qX + 1) (zI dp) (zI k) σx) x1 (ME x1 q g σm) σx0 σm0 := by
        intro cc kk hck hb
        rw [step cc kk hck hb]
        obtain ⟨q', σx1, σm1, s1, st1, z1, z2, z3, z4, z5, z6, z7, z8⟩ := mv_mul (x1 := x1) hck hR hT h3 h4 ⟨c.1, hb⟩ hq hg
        unfold f_Parser_readProduct_64
        rw [z2, bp_s, z3]
        rw [← hL] at z4
        have hFU : n + 2 ≤ s1 + FU := by
          have : FU = 100000 := rfl
          omega
        have hkk : kk = 3 ∨ kk = 4 := by omega
        rcases hP x1 q' FU bs (L ++ C) (kk :: W) s1 st1 σx1 σm1 (by rw [List.length_cons]; omega) z4 z8 hFU with ⟨D, q2, g2, σx2, σm2, s2, st2, r1, r2, r3, r4, r5, r6, r7, r8, r9⟩ | hF
        · obtain ⟨hs2, _⟩ := ER_s r3
          obtain ⟨d1, d2, d3, d4, d5, d6, d7, d8⟩ := r3
          have hd7 : (L ++ C ++ D).length + (W.length + 1) + 1 + ee < s2 := d7
          obtain ⟨σx3, w1, w2, w3⟩ := x_emit (c := kk) d2 (by omega)
          rw [r1, bd_s, if_neg (by decide), w1, bp_s, zS, lt_s', r2]
          have eC : L ++ (C ++ D ++ [kk]) = L ++ C ++ D ++ [kk] := by simp
          refine ih (k + 1) qX q2 g2 (C ++ D ++ [kk]) (L ++ C ++ D) [kk] s2 st2 σx3 σm2 (by omega) (by omega) (by omega) (by omega) ⟨SY_o d1 w3 (oS_r (I := []) (J := []) (A := []) (B := [])) (by decide) (by decide) (by decide) (by decide), by rw [eC]; exact w2, d3, d4, d5, d6, d7, d8⟩ eC (fun v hv => by rcases List.mem_singleton.mp hv with rfl; exact hkk) (tyN_o hC r4 (by omega) (by omega)) (by omega) (by omega) (xK_t fx (xK_t z5 (xK_t r5 (xK_e w3)))) (eK_t fm (eK_t z6 r6))
        · refine .inr (oFail_t (xK_t fx z5) (eK_t fm z6) (oFail_m hF (fun σ e => ?_) rfl))
          rw [e, bd_s, if_pos rfl]
      rcases c.2 with hb | hb
      · exact go 42 3 (.inl ⟨rfl, rfl⟩) hb
      · exact go 47 4 (.inr ⟨rfl, rfl⟩) hb
    · have e : f_Parser_readProduct_12 kS (qX + 1) (zI dp) (zI k) σx = some (1, σx) := by
        show f_Parser_readProduct_12b kS (f_Parser_readProduct_12 kS qX) (zI dp) (zI k) σx = _
        unfold f_Parser_readProduct_12b
        have n1 : f_Reader_isSign 42 σx = some 0 := x_noSign (c := 42) hR.1 (sg_e (by omega)) (by omega)
        have n2 : f_Reader_isSign 47 σx = some 0 := x_noSign (c := 47) hR.1 (sg_e (by omega)) (by omega)
        rw [n1, bp_s, if_pos rfl, n2, bp_s, if_pos rfl, ite_self]
      exact .inl ⟨C, Lm, T, q, g, σx, σm, s, st, e, rfl, hR, hL, hT, c, hC, fx, fm, hs0, hq, hg⟩
theorem t_product {kS : Int32 → St → Option (Int32 × St)} {dp : Nat} (hP : PartOK b n ee kS dp) : ProdOK b n ee kS dp := by
  intro x1 q f bs L W s st σx σm hbs h3 h4 h hq hf
  unfold f_Parser_readProduct
  rcases hP x1 q f bs L W s st σx σm hbs h hq hf with ⟨D, q2, g2, σx2, σm2, s2, st2, r1, r2, r3, r4, r5, r6, r7, r8, r9⟩ | hF
  · obtain ⟨hs2, hn⟩ := ER_s r3
    rw [r1, bd_s, if_neg (by decide), r2]
    exact pr_loop hP hbs h3 h4 (n - s2) 0 FU q2 g2 D (L ++ D) [] s2 st2 σx2 σm2 (by omega) (FU_gt (by omega)) (by omega) r7 r3 (by rw [List.append_nil]) (fun v hv => absurd hv (by simp)) (tyN_m r4 (by omega)) r8 r9 r5 r6
  · refine .inr (oFail_m hF (fun σ e => ?_) rfl)
    rw [e, bd_s, if_pos rfl]
theorem su_loop {kS : Int32 → St → Option (Int32 × St)} {dp : Nat} (hP : ProdOK b n ee kS dp) {x1 : Int32} {bs s0 : Nat} {L W : List Nat} {σx0 σm0 : St} (hW : cW bs W) : ∀ (m k qX q g : Nat) (C Lm T : List Nat) (s : Nat) (st : Bool) (σx σm : St), n - s ≤ m → m < qX → k ≤ s → s0 < s → ER b n ee bs dp (L ++ C) Lm (T ++ W) s st σx σm → L ++ C = Lm ++ T → (∀ v, v ∈ T → 1 ≤ v ∧ v ≤ 4) → ¬ (s < n ∧ (b s = 42 ∨ b s = 47)) → tyN (3 + 3 * (6 - dp)) C → n + 2 ≤ s + q → n + 2 ≤ s + g → xK σx0 σx → eK σm0 σm → oSum b n ee bs dp L W s0 (f_Parser_readSum_12 kS qX (zI dp) (zI k) σx) x1 (ME x1 q g σm) σx0 σm0 := by
  have hbs := cW_b hW
  have h4 := cW_h hW
  intro m
  induction m with
  | zero =>
    intro k qX q g C Lm T s st σx σm h1 h2 hk hs0 hR hL hT hno hC hq hg fx fm
    obtain ⟨hs, hn⟩ := ER_s hR
    obtain ⟨qX, rfl⟩ : ∃ r, qX = r + 1 := ⟨qX - 1, by omega⟩
    have e : f_Parser_readSum_12 kS (qX + 1) (zI dp) (zI k) σx = some (1, σx) := by
      show f_Parser_readSum_12b kS (f_Parser_readSum_12 kS qX) (zI dp) (zI k) σx = _
      unfold f_Parser_readSum_12b
      have n1 : f_Reader_isSign 43 σx = some 0 := x_noSign (c := 43) hR.1 (sg_e (by omega)) (by omega)
      have n2 : f_Reader_isSign 45 σx = some 0 := x_noSign (c := 45) hR.1 (sg_e (by omega)) (by omega)
      rw [n1, bp_s, if_pos rfl, n2, bp_s, if_pos rfl, ite_self]
    exact .inl ⟨C, Lm, T, q, g, σx, σm, s, st, e, rfl, hR, hL, hT, by unfold noOp; omega, hC, fx, fm, hs0, hq, hg⟩
  | succ m ih =>
    intro k qX q g C Lm T s st σx σm h1 h2 hk hs0 hR hL hT hno hC hq hg fx fm
    obtain ⟨hs, hn⟩ := ER_s hR
    obtain ⟨qX, rfl⟩ : ∃ r, qX = r + 1 := ⟨qX - 1, by omega⟩
    by_cases c : s < n ∧ (b s = 43 ∨ b s = 45)
    · have e16 : (1600 : Int32) = zI (1600 : Nat) := rfl
      have step : ∀ cc kk : Nat, (cc = 43 ∧ kk = 1) ∨ (cc = 45 ∧ kk = 2) → b s = cc → f_Parser_readSum_12 kS (qX + 1) (zI dp) (zI k) σx = f_Parser_readSum_64 kS (f_Parser_readSum_12 kS qX) (zI dp) (zI k) (zI (xC kk)) σx := by
        intro cc kk hck hb
        show f_Parser_readSum_12b kS (f_Parser_readSum_12 kS qX) (zI dp) (zI k) σx = _
        unfold f_Parser_readSum_12b f_Parser_readSum_43
        rw [e16, if_neg (by rw [zI_le (by omega) (by omega) (by omega) (by omega)]; omega)]
        rcases hck with ⟨rfl, rfl⟩ | ⟨rfl, rfl⟩
        · have n1 : f_Reader_isSign 43 σx = some 1 := (x_isSign hR.1.1 hR.1.2.2.1 (sg_e (c := 43) (by omega))).1 ⟨c.1, hb⟩
          rw [n1, bp_s, if_neg (by decide), bp_s, if_neg (by decide)]
          rfl
        · have n1 : f_Reader_isSign 43 σx = some 0 := x_noSign (c := 43) hR.1 (sg_e (by omega)) (by omega)
          have n2 : f_Reader_isSign 45 σx = some 1 := (x_isSign hR.1.1 hR.1.2.2.1 (sg_e (c := 45) (by omega))).1 ⟨c.1, hb⟩
          rw [n1, bp_s, if_pos rfl, n2, bp_s, if_neg (by decide), bp_s, if_pos rfl]
          rfl
      have go : ∀ cc kk : Nat, (cc = 43 ∧ kk = 1) ∨ (cc = 45 ∧ kk = 2) → b s = cc → oSum b n ee bs dp L W s0 (f_Parser_readSum_12 kS (qX + 1) (zI dp) (zI k) σx) x1 (ME x1 q g σm) σx0 σm0 := by
        intro cc kk hck hb
        rw [step cc kk hck hb]
        obtain ⟨q', σx1, σm1, s1, st1, z1, z2, z3, z4, z5, z6, z7, z8⟩ := mv_add (x1 := x1) hck hR hT h4 ⟨c.1, hb⟩ hq hg
        unfold f_Parser_readSum_64
        rw [z2, bp_s, z3]
        rw [← hL] at z4
        have hFU : n + 2 ≤ s1 + FU := by
          have : FU = 100000 := rfl
          omega
        have hkk : kk = 1 ∨ kk = 2 := by omega
        have hk3 : (kk :: W).head? ≠ some 3 := by rcases hkk with rfl | rfl <;> simp
        have hk4 : (kk :: W).head? ≠ some 4 := by rcases hkk with rfl | rfl <;> simp
        rcases hP x1 q' FU bs (L ++ C) (kk :: W) s1 st1 σx1 σm1 (by rw [List.length_cons]; omega) hk3 hk4 z4 z8 hFU with ⟨D, Lm2, T2, q2, g2, σx2, σm2, s2, st2, r1, r2, r3, r3a, r3b, r3c, r4, r5, r6, r7, r8, r9⟩ | hF
        · obtain ⟨hs2, _⟩ := ER_s r3
          obtain ⟨d1, d2, d3, d4, d5, d6, d7, d8⟩ := r3
          have hlen1 : (L ++ C ++ D).length = Lm2.length + T2.length := by rw [r3a, List.length_append]
          have hlen2 : (T2 ++ kk :: W).length = T2.length + (W.length + 1) := by rw [List.length_append]; rfl
          obtain ⟨σx3, w1, w2, w3⟩ := x_emit (c := kk) d2 (by omega)
          rw [r1, bd_s, if_neg (by decide), w1, bp_s, zS, lt_s', r2]
          have eC : L ++ (C ++ D ++ [kk]) = L ++ C ++ D ++ [kk] := by simp
          have eT : T2 ++ [kk] ++ W = T2 ++ kk :: W := by simp
          refine ih (k + 1) qX q2 g2 (C ++ D ++ [kk]) Lm2 (T2 ++ [kk]) s2 st2 σx3 σm2 (by omega) (by omega) (by omega) (by omega) ⟨SY_o d1 w3 (oS_r (I := []) (J := []) (A := []) (B := [])) (by decide) (by decide) (by decide) (by decide), by rw [eC]; exact w2, d3, by rw [eT]; exact d4, d5, d6, by rw [eT]; exact d7, by rw [eT]; exact d8⟩ (by rw [eC, r3a, List.append_assoc]) (fun v hv => ?_) r3c (tyN_o hC r4 (by omega) (by omega)) (by omega) (by omega) (xK_t fx (xK_t z5 (xK_t r5 (xK_e w3)))) (eK_t fm (eK_t z6 r6))
          rcases List.mem_append.mp hv with hv | hv
          · have := r3b v hv
            omega
          · rcases List.mem_singleton.mp hv with rfl
            omega
        · refine .inr (oFail_t (xK_t fx z5) (eK_t fm z6) (oFail_m hF (fun σ e => ?_) rfl))
          rw [e, bd_s, if_pos rfl]
      rcases c.2 with hb | hb
      · exact go 43 1 (.inl ⟨rfl, rfl⟩) hb
      · exact go 45 2 (.inr ⟨rfl, rfl⟩) hb
    · have e : f_Parser_readSum_12 kS (qX + 1) (zI dp) (zI k) σx = some (1, σx) := by
        show f_Parser_readSum_12b kS (f_Parser_readSum_12 kS qX) (zI dp) (zI k) σx = _
        unfold f_Parser_readSum_12b
        have n1 : f_Reader_isSign 43 σx = some 0 := x_noSign (c := 43) hR.1 (sg_e (by omega)) (by omega)
        have n2 : f_Reader_isSign 45 σx = some 0 := x_noSign (c := 45) hR.1 (sg_e (by omega)) (by omega)
        rw [n1, bp_s, if_pos rfl, n2, bp_s, if_pos rfl, ite_self]
      exact .inl ⟨C, Lm, T, q, g, σx, σm, s, st, e, rfl, hR, hL, hT, by unfold noOp; omega, hC, fx, fm, hs0, hq, hg⟩
theorem t_sumB {kS : Int32 → St → Option (Int32 × St)} {dp : Nat} (hP : ProdOK b n ee kS dp) : SumOK b n ee (f_Parser_readSumB kS) dp := by
  intro x1 q f bs L W s st σx σm hW h hq hf
  have h4 := cW_h hW
  unfold f_Parser_readSumB
  rcases hP x1 q f bs L W s st σx σm (cW_b hW) (fun e => h4 3 e (by omega)) (fun e => h4 4 e (by omega)) h hq hf with ⟨D, Lm2, T2, q2, g2, σx2, σm2, s2, st2, r1, r2, r3, r3a, r3b, r3c, r4, r5, r6, r7, r8, r9⟩ | hF
  · obtain ⟨hs2, hn⟩ := ER_s r3
    rw [r1, bd_s, if_neg (by decide), r2]
    exact su_loop hP hW (n - s2) 0 FU q2 g2 D Lm2 T2 s2 st2 σx2 σm2 (by omega) (FU_gt (by omega)) (by omega) r7 r3 r3a (fun v hv => by have := r3b v hv; omega) r3c (tyN_m r4 (by omega)) r8 r9 r5 r6
  · refine .inr (oFail_m hF (fun σ e => ?_) rfl)
    rw [e, bd_s, if_pos rfl]
theorem t_sum : ∀ (m d dp : Nat), dp + m = 6 → m < d → SumOK b n ee (f_Parser_readSum d) dp := by
  intro m
  induction m with
  | zero =>
    intro d dp h1 h2
    obtain ⟨d, rfl⟩ : ∃ r, d = r + 1 := ⟨d - 1, by omega⟩
    exact t_sumB (t_product (t_part (by omega) (fun h => by omega)))
  | succ m ih =>
    intro d dp h1 h2
    obtain ⟨d, rfl⟩ : ∃ r, d = r + 1 := ⟨d - 1, by omega⟩
    exact t_sumB (t_product (t_part (by omega) (fun h => ih d (dp + 1) (by omega) (by omega))))
/-- a whole sum, on both sides -/
theorem t_sums {bs dp s : Nat} {L W : List Nat} {st : Bool} {σx σm : St} (hd : dp ≤ 6) (h : ER b n ee bs dp L L W s st σx σm) (hh : ∀ v, W.head? = some v → ¬ (1 ≤ v ∧ v ≤ 4)) : (∃ (C : List Nat) (σx' σm' : St) (s' : Nat) (st' : Bool), f_Parser_readSum 8 (zI dp) σx = some (1, σx') ∧ f_M_sumsTold σm = some σm' ∧ ER b n ee bs dp (L ++ C) (L ++ C) W s' st' σx' σm' ∧ tyN (3 + 3 * (6 - dp)) C ∧ xK σx σx' ∧ eK σm σm' ∧ s < s') ∨ oFail (f_Parser_readSum 8 (zI dp) σx) (f_M_sumsTold σm) σx σm := by
  obtain ⟨hs, hn⟩ := ER_s h
  obtain ⟨a1, a2, a3, a4, a5, a6, a7, a8⟩ := h
  have hFU : FU = 100000 := rfl
  have o0 : oS [13] [] [] [] σm (uI σm 13 (zI W.length)) := oS_uI (by decide) oS_r
  have E : f_M_sumsTold σm = MP (zI bs) 99999 FU (uI σm 13 (zI W.length)) := by
    unfold f_M_sumsTold
    rw [a5, lt_s', a4.1, lt_s']
    exact K_P (q := 99999) a1.2.2.2.2.1
  have k0 : eK σm (uI σm 13 (zI W.length)) := ⟨eF_i o0 (by decide), rfl⟩
  have R : ER b n ee W.length dp L L W s st σx (uI σm 13 (zI W.length)) := ⟨SY_o a1 (oS_r (I := []) (J := []) (A := []) (B := [])) o0 (by decide) (by decide) (by decide) (by decide), a2, cM_o a3 o0 (by decide) (by decide), wtM_o a4 o0 (by decide) (by decide), rfl, a6, a7, a8⟩
  rw [E]
  rcases t_sum (6 - dp) 8 dp (by omega) (by omega) (zI bs) 99999 FU W.length L W s st σx _ (.inl ⟨rfl, hh⟩) R (by omega) (by omega) with ⟨C, Lm, P, q', g', σx', σm', s', st', r1, r2, r3, r4, r5, r6, r7, r8, r9, r10, r11, r12⟩ | hF
  · obtain ⟨hs', _⟩ := ER_s r3
    obtain ⟨w, w2⟩ := g_118 r3 r6 (.inl ⟨rfl, hh⟩) r5
    have hlm : lastMk W.length W = -1 := by
      unfold lastMk
      rw [if_pos (Nat.le_refl _)]
    rw [hlm] at w w2
    obtain ⟨d1, d2, d3, d4, d5, d6, d7, d8⟩ := r3
    obtain ⟨g', rfl⟩ : ∃ r, g' = r + 1 := ⟨g' - 1, by omega⟩
    obtain ⟨q', rfl⟩ : ∃ r, q' = r + 1 := ⟨q' - 1, by omega⟩
    have e118 : f_M_goesOn_0 (g' + 1) σm' = some (0, uI σm' 1 (zI s')) := by
      have w3 : f_M_goesOn_118 (uI σm' 1 (zI s')) = some (0, uI σm' 1 (zI s')) := by
        rw [w2, if_neg (by decide), if_neg (by decide), if_pos rfl]
      by_cases c41 : s' < n ∧ b s' = 41
      · show f_M_goesOn_0b (f_M_goesOn_0 g') σm' = _
        unfold f_M_goesOn_0b
        rw [if_pos d1.2.2.2.2.1, (SY_look d1).1, bd_s, ch_eq c41, if_pos (by rfl), w, bp_s, bp_s, bp_s, if_neg (by decide), if_neg (by decide), if_neg (by decide), w3]
      · rw [g_0 d1 c41, w3]
    have hlen : (P ++ W).length = P.length + W.length := List.length_append
    have o1 : oS [1, 3] [] [] [] σm' (uI σm' 1 (zI s')) := oS_uI (by decide) oS_r
    obtain ⟨σ3, p1, p2, p3, p4⟩ := m_pop0 (x1 := zI bs) (bs := W.length) (W := W) rfl P Lm FU (uI σm' 1 (zI s')) (FU_gt (by omega)) (by omega) (by omega) (wtM_o d4 o1 (by decide) (by decide)) (cM_o d3 o1 (by decide) (by decide)) d5 d1.2.2.2.2.1
    have o3 : oS [13] [] [] [] σ3 (uI σ3 13 (zI bs)) := oS_uI (by decide) oS_r
    have hlen2 : (Lm ++ P).length = Lm.length + P.length := List.length_append
    refine .inl ⟨C, σx', uI σ3 13 (zI bs), s', st', r1, ?_, ⟨SY_o (SY_o (SY_look d1).2 (oS_r (I := []) (J := []) (A := []) (B := [])) p4.1 (by decide) (by decide) (by decide) (by decide)) (oS_r (I := []) (J := []) (A := []) (B := [])) o3 (by decide) (by decide) (by decide) (by decide), d2, by rw [r4]; exact cM_o p3 o3 (by decide) (by decide), wtM_o p2 o3 (by decide) (by decide), rfl, ?_, by rw [r4]; omega, fun v hv => d8 v (List.mem_append.mpr (.inr hv))⟩, r7, r8, eK_t k0 (eK_t r9 (eK_t (eK_1 o1) (eK_t (eK_o p4) ⟨eF_i o3 (by decide), rfl⟩))), r10⟩
    · rw [r2]
      unfold ME
      rw [e118, bd_s, if_pos rfl]
      show f_M_sumsTold_15b (f_M_sumsTold_15 q') (zI bs) 0 _ = _
      unfold f_M_sumsTold_15b
      rw [if_pos rfl, p1]
    · show sI σ3 12 = _
      rw [p4.1.1 12 (by decide)]
      exact d6
  · exact .inr (oFail_t (oS_r : xK σx σx) k0 hF)
end
