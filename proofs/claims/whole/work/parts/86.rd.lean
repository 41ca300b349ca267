-- ===== a part that is a fact or a number =====
section
variable {b : Nat → Nat} {n ee : Nat}
theorem p_head {s f : Nat} {st : Bool} {σx σm : St} (a1 : SY b n s st σx σm) (h40 : ¬ (s < n ∧ b s = 40)) (h25 : ¬ (kd b n s st = 1 ∧ wAt b n s 25)) (h26 : ¬ (kd b n s st = 1 ∧ wAt b n s 26)) : f_M_onePart_2 (f + 1 + 1) 1 σm = f_M_onePart_146 (uI σm 1 (zI s)) := by
  show f_M_onePart_2b (f_M_onePart_2 (f + 1)) 1 σm = _
  have e40 : (40 : Int32) = zI (40 : Nat) := rfl
  have e0 : f_M_onePart_2 (f + 1) 0 (uI σm 1 (zI s)) = f_M_onePart_146 (uI σm 1 (zI s)) := by
    show f_M_onePart_2b (f_M_onePart_2 f) 0 _ = _
    unfold f_M_onePart_2b
    rw [if_pos rfl]
  unfold f_M_onePart_2b
  rw [if_neg (by decide), if_pos a1.2.2.2.2.1, (SY_look a1).1, bd_s, e40, if_neg (ch_ne a1.1.2.2.2 (by omega) h40), (no_take a1 (by omega) h25).2, bd_s, if_pos rfl, (no_take a1 (by omega) h26).2, bd_s, if_pos rfl, e0]
theorem p_146 {s : Nat} {st : Bool} {σx σm : St} (a1 : SY b n s st σx σm) (hno : ∀ i, i < 6 → ¬ (kd b n s st = 1 ∧ wAt b n s (fw i))) : f_M_onePart_146 (uI σm 1 (zI s)) = f_M_onePart_251 (-1) (uI σm 1 (zI s)) := by
  have b4 : sI (uI σm 1 (zI s)) 4 = 0 := a1.2.2.2.2.1
  have N : ∀ i, i < 6 → f_M_takes (fw i) (uI σm 1 (zI s)) = some (0, uI σm 1 (zI s)) := fun i hi => (no_take a1 (fw_x ⟨i, hi⟩).2.1 (hno i hi)).1
  have N0 : f_M_takes 15 (uI σm 1 (zI s)) = _ := N 0 (by omega)
  have N1 : f_M_takes 18 (uI σm 1 (zI s)) = _ := N 1 (by omega)
  have N2 : f_M_takes 19 (uI σm 1 (zI s)) = _ := N 2 (by omega)
  have N3 : f_M_takes 8 (uI σm 1 (zI s)) = _ := N 3 (by omega)
  have N4 : f_M_takes 20 (uI σm 1 (zI s)) = _ := N 4 (by omega)
  have N5 : f_M_takes 6 (uI σm 1 (zI s)) = _ := N 5 (by omega)
  unfold f_M_onePart_146
  rw [if_pos b4, N0, bd_s, if_pos rfl, N1, bd_s, if_pos rfl, N2, bd_s, if_pos rfl, N3, bd_s, if_pos rfl, N4, bd_s, if_pos rfl, N5, bd_s, if_pos rfl]
theorem p_fact {s j : Nat} {st : Bool} {σx σm σ' : St} (a1 : SY b n s st σx σm) (hj : j < 6) (hw : kd b n s st = 1 ∧ wAt b n s (fw j)) (ht : f_M_takes (fw j) (uI σm 1 (zI s)) = some (1, σ')) : f_M_onePart_146 (uI σm 1 (zI s)) = f_M_onePart_274 (zI (7 + j : Nat)) σ' := by
  have b4 : sI (uI σm 1 (zI s)) 4 = 0 := a1.2.2.2.2.1
  have N : ∀ i, i < 6 → i ≠ j → f_M_takes (fw i) (uI σm 1 (zI s)) = some (0, uI σm 1 (zI s)) := fun i hi hne => (no_take a1 (fw_x ⟨i, hi⟩).2.1 (fun q => hne (Fin.mk.inj (fw_i ⟨i, hi⟩ ⟨j, hj⟩ (wAt_u (fw_x ⟨j, hj⟩).2.1 (fw_x ⟨i, hi⟩).2.1 hw q.2).symm)))).1
  have M0 : 0 ≠ j → f_M_takes 15 (uI σm 1 (zI s)) = _ := N 0 (by omega)
  have M1 : 1 ≠ j → f_M_takes 18 (uI σm 1 (zI s)) = _ := N 1 (by omega)
  have M2 : 2 ≠ j → f_M_takes 19 (uI σm 1 (zI s)) = _ := N 2 (by omega)
  have M3 : 3 ≠ j → f_M_takes 8 (uI σm 1 (zI s)) = _ := N 3 (by omega)
  have M4 : 4 ≠ j → f_M_takes 20 (uI σm 1 (zI s)) = _ := N 4 (by omega)
  have E : ∀ c : Nat, c ≤ 12 → 7 ≤ c → f_M_onePart_251 (zI c) σ' = f_M_onePart_274 (zI c) σ' := by
    intro c h1 h2
    unfold f_M_onePart_251
    have : (-1 : Int32) = zI (-1 : Int) := rfl
    rw [if_neg (by rw [this, zI_eq (by omega) (by omega) (by omega) (by omega)]; omega)]
  unfold f_M_onePart_146
  rw [if_pos b4, ← E (7 + j) (by omega) (by omega)]
  have hc : j = 0 ∨ j = 1 ∨ j = 2 ∨ j = 3 ∨ j = 4 ∨ j = 5 := by omega
  rcases hc with rfl | rfl | rfl | rfl | rfl | rfl
  · have ht' : f_M_takes 15 (uI σm 1 (zI s)) = some (1, σ') := ht
    have e : (zI ((7 + 0 : Nat) : Int)) = (7 : Int32) := by decide
    rw [ht', bd_s, if_neg (by decide), e]
  · have ht' : f_M_takes 18 (uI σm 1 (zI s)) = some (1, σ') := ht
    have e : (zI ((7 + 1 : Nat) : Int)) = (8 : Int32) := by decide
    rw [M0 (by decide), bd_s, if_pos rfl, ht', bd_s, if_neg (by decide), e]
  · have ht' : f_M_takes 19 (uI σm 1 (zI s)) = some (1, σ') := ht
    have e : (zI ((7 + 2 : Nat) : Int)) = (9 : Int32) := by decide
    rw [M0 (by decide), bd_s, if_pos rfl, M1 (by decide), bd_s, if_pos rfl, ht', bd_s, if_neg (by decide), e]
  · have ht' : f_M_takes 8 (uI σm 1 (zI s)) = some (1, σ') := ht
    have e : (zI ((7 + 3 : Nat) : Int)) = (10 : Int32) := by decide
    rw [M0 (by decide), bd_s, if_pos rfl, M1 (by decide), bd_s, if_pos rfl, M2 (by decide), bd_s, if_pos rfl, ht', bd_s, if_neg (by decide), e]
  · have ht' : f_M_takes 20 (uI σm 1 (zI s)) = some (1, σ') := ht
    have e : (zI ((7 + 4 : Nat) : Int)) = (11 : Int32) := by decide
    rw [M0 (by decide), bd_s, if_pos rfl, M1 (by decide), bd_s, if_pos rfl, M2 (by decide), bd_s, if_pos rfl, M3 (by decide), bd_s, if_pos rfl, ht', bd_s, if_neg (by decide), e]
  · have ht' : f_M_takes 6 (uI σm 1 (zI s)) = some (1, σ') := ht
    have e : (zI ((7 + 5 : Nat) : Int)) = (12 : Int32) := by decide
    rw [M0 (by decide), bd_s, if_pos rfl, M1 (by decide), bd_s, if_pos rfl, M2 (by decide), bd_s, if_pos rfl, M3 (by decide), bd_s, if_pos rfl, M4 (by decide), bd_s, if_pos rfl, ht', bd_s, if_neg (by decide), e]
/-- X's row of facts -/
theorem x_facts {s : Nat} {st : Bool} {σx σm : St} (kS : Int32 → St → Option (Int32 × St)) (a1 : SY b n s st σx σm) : ∀ (m i q : Nat), i + m = 6 → m < q → (∃ j, i ≤ j ∧ j < 6 ∧ (kd b n s st = 1 ∧ wAt b n s (fw j)) ∧ f_Parser_readPart_128 kS q (zI i) σx = bp (f_Reader_step σx) fun σ_10 => bp (f_Fair_emit (zI (xC (7 + j))) σ_10) fun σ_12 => some (1, σ_12)) ∨ ((∀ j, i ≤ j → j < 6 → ¬ (kd b n s st = 1 ∧ wAt b n s (fw j))) ∧ f_Parser_readPart_128 kS q (zI i) σx = some (0, uI (uI σx 4 1) 5 (zI s))) := by
  have e6 : (6 : Int32) = zI (6 : Nat) := rfl
  intro m
  induction m with
  | zero =>
    intro i q h1 h2
    obtain ⟨q, rfl⟩ : ∃ r, q = r + 1 := ⟨q - 1, by omega⟩
    refine .inr ⟨fun j h3 h4 => by omega, ?_⟩
    show f_Parser_readPart_128b kS (f_Parser_readPart_128 kS q) (zI i) σx = _
    unfold f_Parser_readPart_128b
    rw [e6, if_pos (by rw [zI_le (by omega) (by omega) (by omega) (by omega)]; omega), x_wrong a1.2.2.1, bd_s]
    rfl
  | succ m ih =>
    intro i q h1 h2
    obtain ⟨q, rfl⟩ : ∃ r, q = r + 1 := ⟨q - 1, by omega⟩
    have hf := fw_x ⟨i, by omega⟩
    have hfv : stV 6 (zI (i : Int)) = zI (fw i : Nat) := hf.1
    have ec : (10000 + zI (i : Int) : Int32) = zI (xC (7 + i)) := by
      have : xC (7 + i) = 10000 + i := by
        unfold xC
        rw [if_neg (by omega), if_neg (by omega), if_neg (by omega), if_neg (by omega), if_neg (by omega), if_neg (by omega), if_pos (by omega)]
        omega
      rw [this, zI_lit, zI_add]
      rfl
    have hd : f_Parser_readPart_128 kS (q + 1) (zI i) σx = bp (f_Reader_isWord (zI (fw i : Nat)) σx) fun r_7 => if r_7 = 0 then f_Parser_readPart_128 kS q (zI (i + 1 : Nat)) σx else bp (f_Reader_step σx) fun σ_10 => bp (f_Fair_emit (zI (xC (7 + i))) σ_10) fun σ_12 => some (1, σ_12) := by
      show f_Parser_readPart_128b kS (f_Parser_readPart_128 kS q) (zI i) σx = _
      unfold f_Parser_readPart_128b
      rw [e6, if_neg (by rw [zI_le (by omega) (by omega) (by omega) (by omega)]; omega), zI_in (by omega) (by omega) (by omega), gd_t, hfv, zS, ec]
      rfl
    rw [hd]
    by_cases c : kd b n s st = 1 ∧ wAt b n s (fw i)
    · refine .inl ⟨i, by omega, by omega, c, ?_⟩
      rw [(x_isWord a1.1.1 a1.2.2.1 a1.2.2.2.2.2 hf.2.1).1 c, bp_s, if_neg (by decide)]
    · rw [x_noWord a1 hf.2.1 c, bp_s, if_pos rfl]
      rcases ih (i + 1) q (by omega) (by omega) with ⟨j, j1, j2, j3, j4⟩ | ⟨j1, j2⟩
      · exact .inl ⟨j, by omega, j2, j3, j4⟩
      · refine .inr ⟨fun j h3 h4 => ?_, j2⟩
        by_cases e : j = i
        · subst e; exact c
        · exact j1 j (by omega) h4
theorem xC_v (v : Nat) : xC (1000 + v) = v := by
  unfold xC
  rw [if_pos (by omega)]
  omega
/-- what comes of a part -/
def oPart (b : Nat → Nat) (n ee bs dp k : Nat) (L W : List Nat) (s : Nat) (r : Option (Int32 × St)) (x1 : Int32) (m : Option St) (σx σm : St) : Prop := (∃ (C : List Nat) (q' g' : Nat) (σx' σm' : St) (s' : Nat) (st' : Bool), r = some (1, σx') ∧ m = ME x1 q' g' σm' ∧ ER b n ee bs dp (L ++ C) (L ++ C) W s' st' σx' σm' ∧ tyN k C ∧ xK σx σx' ∧ eK σm σm' ∧ s < s' ∧ n + 2 ≤ s' + q' ∧ n + 2 ≤ s' + g') ∨ oFail r m σx σm
/-- neither an opening nor min nor max -/
theorem t_small {bs dp s q f : Nat} {x1 : Int32} {L W : List Nat} {st : Bool} {σx σm : St} (kS : Int32 → St → Option (Int32 × St)) (h : ER b n ee bs dp L L W s st σx σm) (h40 : ¬ (s < n ∧ b s = 40)) (h25 : ¬ (kd b n s st = 1 ∧ wAt b n s 25)) (h26 : ¬ (kd b n s st = 1 ∧ wAt b n s 26)) (hq : n + 2 ≤ s + q) (hf : n + 2 ≤ s + f) : oPart b n ee bs dp 1 L W s (f_Parser_readPart kS (zI dp) σx) x1 (MP x1 q f σm) σx σm := by
  obtain ⟨hs, hn⟩ := ER_s h
  have h0 := h
  obtain ⟨a1, a2, a3, a4, a5, a6, a7, a8⟩ := h
  obtain ⟨f, rfl⟩ : ∃ r, f = r + 1 + 1 := ⟨f - 2, by omega⟩
  obtain ⟨q, rfl⟩ : ∃ r, q = r + 1 := ⟨q - 1, by omega⟩
  have b4 : sI (uI σm 1 (zI s)) 4 = 0 := a1.2.2.2.2.1
  have e40 : (40 : Int32) = zI (40 : Nat) := rfl
  have e2 : (2 : Int32) = zI (2 : Nat) := rfl
  have hkb := kd_b (b := b) (n := n) (s := s) (st := st)
  have S1 := (SY_look a1).2
  have o0 : oS [1, 3] [] [] [] σm (uI σm 1 (zI s)) := oS_uI (by decide) oS_r
  have hMP : MP x1 (q + 1) (f + 1 + 1) σm = bp (f_M_onePart_146 (uI σm 1 (zI s))) fun σ_2 => if (sI σ_2 4) = 0 then ME x1 (q + 1) FU σ_2 else f_M_sumsTold_15 (q + 1) x1 0 σ_2 := by
    unfold MP
    rw [p_head a1 h40 h25 h26]
  have hFU : ∀ s', n + 2 ≤ s' + FU := by
    intro s'
    have : FU = 100000 := rfl
    omega
  unfold f_Parser_readPart
  rw [a1.2.2.1.2.1]
  by_cases c2 : kd b n s st = 2
  · rw [c2, if_pos (by rfl)]
    have hno : ∀ i, i < 6 → ¬ (kd b n s st = 1 ∧ wAt b n s (fw i)) := fun i _ q => by omega
    rw [hMP, p_146 a1 hno]
    unfold f_M_onePart_251 f_M_onePart_274
    rw [if_pos rfl]
    rcases t_number (lo := 0) (hi := 9999) S1 (by omega) (by omega) with ⟨v, σx', σm', s', st', n1, n2, n3, n4, n5, n6, n7, n8, n9⟩ | ⟨ff, pl, r, σx', σm', n1, n2, n3, n4, n5⟩
    · have n1' : f_Parser_passNumber 0 9999 σx = some (zI v, σx') := n1
      have n2' : f_M_number 0 9999 (uI σm 1 (zI s)) = some (zI v, σm') := n2
      have hR := ER_w h0 n3 n4 (oS_t o0 n5) (by omega)
      obtain ⟨hs', _⟩ := ER_s hR
      obtain ⟨d1, d2, d3, d4, d5, d6, d7, d8⟩ := hR
      obtain ⟨σx2, y1, y2, y3⟩ := x_emit (c := 1000 + v) d2 (by omega)
      obtain ⟨σm2, k1, k2, k3, k4⟩ := m_code (c := 1000 + v) d3 (by omega)
      rw [xC_v] at y1
      have ev : (1000 + zI (v : Int) : Int32) = zI (1000 + v : Nat) := by
        rw [zI_lit, zI_add]
        rfl
      have hm1 : ¬ zI (v : Int) = -1 := by
        have : (-1 : Int32) = zI (-1 : Int) := rfl
        rw [this, zI_eq (by omega) (by omega) (by omega) (by omega)]
        omega
      rw [n1', bd_s, y1, bp_s, if_neg hm1, n2', bd_s, ev, k1, bp_s, bp_s, if_pos (by rw [k3.1 4 (by decide)]; exact d1.2.2.2.2.1)]
      refine .inl ⟨[1000 + v], q + 1, FU, σx2, σm2, s', st', rfl, rfl, ⟨SY_o d1 y3 k3 (by decide) (by decide) (by decide) (by decide), y2, k2, wtM_o d4 k3 (by decide) (by decide), by rw [k3.1 13 (by decide)]; exact d5, by rw [k3.1 12 (by decide)]; exact d6, ?_, d8⟩, tyN_v (by omega), xK_t (xK_s n4) (xK_e y3), eK_t (eK_1 (oS_t o0 n5)) (eK_o ⟨oS_w k3 (by decide) (by decide) (by decide) (by decide), k4⟩), n6, by omega, hFU s'⟩
      rw [List.length_append]
      show L.length + 1 + W.length + 1 + ee < s'
      omega
    · have n1' : f_Parser_passNumber 0 9999 σx = some (-1, σx') := n1
      have n2' : f_M_number 0 9999 (uI σm 1 (zI s)) = some (r, σm') := n2
      have c2' : cX L σx' := cX_o a2 n4 (by decide) (by decide)
      have c3' : cM L σm' := cM_o (cM_o a3 o0 (by decide) (by decide)) n5 (by decide) (by decide)
      obtain ⟨g1, g2, g3⟩ := kd_2.mp c2
      obtain ⟨σx2, y1, y2⟩ := x_emit' (x := -1) c2' (by omega)
      obtain ⟨σm2, k1, k2, k3, k5⟩ := m_code' (x := 1000 + r) c3' (by omega)
      obtain ⟨w1, w2, w3, w4, w5, w6⟩ := n3
      have hbad : ¬ sI σm2 4 = 0 := by
        have e0 : (0 : Int32) = zI (0 : Nat) := rfl
        rw [k2.1 4 (by decide), w5, e0, zI_eq (by omega) (by omega) (by omega) (by omega)]
        omega
      rw [n1', bd_s, y1, bp_s, if_pos rfl, n2', bd_s, k1, bp_s, bp_s, if_neg hbad, K_0 hbad]
      refine .inr ⟨ff, pl, σx2, uI σm2 13 x1, rfl, rfl, ⟨⟨w1, w2, by rw [y2.1 4 (by decide)]; exact w3, by rw [y2.1 5 (by decide)]; exact w4, ?_, ?_⟩, L.length + 1, by omega, k5⟩, xF_t (xF_45 n4) (xK_F (xK_e y2)), eF_t (eK_1 o0).1 (eF_t (eF_i n5 (by decide)) (eF_t (eO_F ⟨oS_w k2 (by decide) (by decide) (by decide) (by decide), k3⟩) (eF_i (I := [13]) (oS_uI (by decide) oS_r) (by decide))))⟩
      · show sI σm2 4 = _
        rw [k2.1 4 (by decide)]; exact w5
      · show sI σm2 5 = _
        rw [k2.1 5 (by decide)]; exact w6
  · rw [if_neg (by rw [e2, zI_eq (by omega) (by omega) (by omega) (by omega)]; omega)]
    have n40 : f_Reader_isSign 40 σx = some 0 := x_noSign (c := 40) a1 (sg_e (by omega)) h40
    have n25 : f_Reader_isWord 25 σx = some 0 := x_noWord (j := 25) a1 (by omega) h25
    have n26 : f_Reader_isWord 26 σx = some 0 := x_noWord (j := 26) a1 (by omega) h26
    rw [n40, bp_s, if_pos rfl, n25, bp_s, if_pos rfl, n26, bp_s, if_pos rfl, hMP]
    have e0 : (0 : Int32) = zI ((0 : Nat) : Int) := rfl
    have X := x_facts kS a1 6 0 FU (by omega) (FU_gt (by omega))
    rcases X with ⟨j, j1, j2, j3, j4⟩ | ⟨j1, j2⟩
    · have j4' : f_Parser_readPart_128 kS FU 0 σx = _ := j4
      obtain ⟨σx', σm', s', st', w1, w2, w3, w4, w5, w6, w7, w8, w9⟩ := t_word' a1 (fw_x ⟨j, j2⟩).2.1 j3
      have hR := ER_w h0 w6 w7 w8 (by omega)
      obtain ⟨hs', _⟩ := ER_s hR
      obtain ⟨d1, d2, d3, d4, d5, d6, d7, d8⟩ := hR
      obtain ⟨σx2, y1, y2, y3⟩ := x_emit (c := 7 + j) d2 (by omega)
      obtain ⟨σm2, k1, k2, k3, k4⟩ := m_code (c := 7 + j) d3 (by omega)
      rw [j4', w2, bp_s, y1, bp_s, p_fact a1 j2 j3 w5]
      unfold f_M_onePart_274
      rw [k1, bp_s, bp_s, if_pos (by rw [k3.1 4 (by decide)]; exact d1.2.2.2.2.1)]
      refine .inl ⟨[7 + j], q + 1, FU, σx2, σm2, s', st', rfl, rfl, ⟨SY_o d1 y3 k3 (by decide) (by decide) (by decide) (by decide), y2, k2, wtM_o d4 k3 (by decide) (by decide), by rw [k3.1 13 (by decide)]; exact d5, by rw [k3.1 12 (by decide)]; exact d6, ?_, d8⟩, tyN_f (by omega), xK_t (xK_s w7) (xK_e y3), eK_t (eK_1 w8) (eK_o ⟨oS_w k3 (by decide) (by decide) (by decide) (by decide), k4⟩), w9, by omega, hFU s'⟩
      rw [List.length_append]
      show L.length + 1 + W.length + 1 + ee < s'
      omega
    · have j2' : f_Parser_readPart_128 kS FU 0 σx = _ := j2
      rw [j2', p_146 a1 (fun i hi => j1 i (by omega) hi)]
      unfold f_M_onePart_251 f_M_onePart_274
      rw [if_pos rfl]
      rcases t_number (lo := 0) (hi := 9999) S1 (by omega) (by omega) with ⟨v, σx', σm', s', st', n1, n2, n3, n4, n5, n6, n7, n8, n9⟩ | ⟨ff, pl, r, σx', σm', n1, n2, n3, n4, n5⟩
      · exact absurd n9 c2
      · have n2' : f_M_number 0 9999 (uI σm 1 (zI s)) = some (r, σm') := n2
        have c3' : cM L σm' := cM_o (cM_o a3 o0 (by decide) (by decide)) n5 (by decide) (by decide)
        -- where X's number would have failed
        have ex : σx' = uI (uI σx 4 1) 5 (zI s) := by
          unfold f_Parser_passNumber at n1
          rw [a1.2.2.1.2.1, if_neg (by rw [e2, zI_eq (by omega) (by omega) (by omega) (by omega)]; omega), x_wrong a1.2.2.1, bd_s] at n1
          injection n1 with n1
          injection n1 with _ n1
          exact n1.symm
        subst ex
        obtain ⟨w1, w2, w3, w4, w5, w6⟩ := n3
        by_cases cl : L.length < 1600
        · obtain ⟨σm2, k1, k2, k3, k5⟩ := m_code' (x := 1000 + r) c3' cl
          have hbad : ¬ sI σm2 4 = 0 := by
            have e0 : (0 : Int32) = zI (0 : Nat) := rfl
            rw [k2.1 4 (by decide), w5, e0, zI_eq (by omega) (by omega) (by omega) (by omega)]
            omega
          rw [n2', bd_s, k1, bp_s, bp_s, if_neg hbad, K_0 hbad]
          refine .inr ⟨ff, pl, _, uI σm2 13 x1, rfl, rfl, ⟨⟨w1, w2, w3, w4, ?_, ?_⟩, L.length + 1, by omega, k5⟩, oS_uI (by decide) (oS_uI (by decide) oS_r), eF_t (eK_1 o0).1 (eF_t (eF_i n5 (by decide)) (eF_t (eO_F ⟨oS_w k2 (by decide) (by decide) (by decide) (by decide), k3⟩) (eF_i (I := [13]) (oS_uI (by decide) oS_r) (by decide))))⟩
          · show sI σm2 4 = _
            rw [k2.1 4 (by decide)]; exact w5
          · show sI σm2 5 = _
            rw [k2.1 5 (by decide)]; exact w6
        · omega
end
