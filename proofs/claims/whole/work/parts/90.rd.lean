-- ===== the moves of a test =====
def TE (q g : Nat) (σ : St) : Option St := bd (f_M_goesOnTest_0 g σ) fun r_12 σ_13 => if r_12 = 0 then f_M_test_2 q 0 σ_13 else f_M_test_2 q 1 σ_13
def TF (q : Nat) (σ : St) : Option St := bp (f_M_dropsNots σ) fun σ_10 => if (sI σ_10 4) = 0 then TE q FU σ_10 else f_M_test_2 q 0 σ_10
theorem T_bad {q : Nat} {σ : St} (h : ¬ sI σ 4 = 0) : f_M_test_2 (q + 1) 0 σ = some σ ∧ f_M_test_2 (q + 1) 1 σ = some σ := by
  have e : f_M_test_110 FU σ = some σ := by
    show f_M_test_110b (f_M_test_110 99999) σ = _
    unfold f_M_test_110b
    rw [if_neg h]
  constructor
  · show f_M_test_2b (f_M_test_2 q) 0 σ = _
    unfold f_M_test_2b
    rw [if_pos rfl, e]
  · show f_M_test_2b (f_M_test_2 q) 1 σ = _
    unfold f_M_test_2b
    rw [if_neg (by decide), if_neg h, e]
theorem TF_bad {q : Nat} {σ : St} (h : ¬ sI σ 4 = 0) : TF (q + 1) σ = some σ := by
  unfold TF
  have e : f_M_dropsNots σ = some σ := by
    show f_M_dropsNots_0b (f_M_dropsNots_0 99999) σ = _
    unfold f_M_dropsNots_0b
    rw [if_neg h]
  rw [e, bp_s, if_neg h, (T_bad h).1]
section
variable {b : Nat → Nat} {n ee : Nat}
theorem kd1_ns {s c : Nat} {st : Bool} (h : kd b n s st = 1) (hc : isSg c) : ¬ (s < n ∧ b s = c) := by
  intro q
  have := kd_sg (st := st) hc q
  omega
/-- the head of goesOnTest: no closing square here -/
theorem gt_0 {s g : Nat} {st : Bool} {σx σm : St} (h : SY b n s st σx σm) (hn : ¬ (s < n ∧ b s = 93)) : f_M_goesOnTest_0 (g + 1) σm = f_M_goesOnTest_76 (uI σm 1 (zI s)) := by
  show f_M_goesOnTest_0b (f_M_goesOnTest_0 g) σm = _
  unfold f_M_goesOnTest_0b
  have e : (93 : Int32) = zI (93 : Nat) := rfl
  rw [if_pos h.2.2.2.2.1, (SY_look h).1, bd_s, e, if_neg (ch_ne h.1.2.2.2 (by omega) hn)]
theorem mt_and {bs dp s q g : Nat} {L Lm T W : List Nat} {st : Bool} {σx σm : St} (h : ER b n ee bs dp L Lm (T ++ W) s st σx σm) (ha : aW (T ++ W)) (hT : ∀ v, v ∈ T → v = 16) (h3 : W.head? ≠ some 16) (hw : kd b n s st = 1 ∧ wAt b n s 22) (hg : n + 2 ≤ s + g) : ∃ σx' σm' s' st', f_Reader_isWord (zI (22 : Nat)) σx = some 1 ∧ f_Reader_step σx = some σx' ∧ TE q g σm = f_M_test_2 q 1 σm' ∧ ER b n ee bs dp L (Lm ++ T) (16 :: W) s' st' σx' σm' ∧ xK σx σx' ∧ eK σm σm' ∧ s < s' := by
  obtain ⟨hs, hn⟩ := ER_s h
  obtain ⟨a1, a2, a3, a4, a5, a6, a7, a8⟩ := h
  obtain ⟨g, rfl⟩ : ∃ r, g = r + 1 := ⟨g - 1, by omega⟩
  obtain ⟨σx', σm1, s', st', w1, w2, w3, w4, w5, w6, w7, w8, w9⟩ := t_word' a1 (show 22 < 27 by omega) hw
  have hlen : (T ++ W).length = T.length + W.length := List.length_append
  obtain ⟨σm2, p1, p2, p3, p4⟩ := m_pop16 h3 T Lm FU σm1 (FU_gt (by omega)) hT ha (by omega) (by omega) (wtM_o a4 w8 (by decide) (by decide)) (cM_o a3 w8 (by decide) (by decide))
  refine ⟨σx', σm2, s', st', w1, w2, ?_, ⟨SY_o w6 (oS_r (I := []) (J := []) (A := []) (B := [])) p4.1 (by decide) (by decide) (by decide) (by decide), cX_o a2 w7 (by decide) (by decide), p3, p2, ?_, ?_, ?_, ?_⟩, xK_s w7, eK_t (eK_1 w8) (eK_o p4), w9⟩
  · unfold TE
    rw [gt_0 a1 (kd1_ns hw.1 (sg_e (by omega)))]
    unfold f_M_goesOnTest_76
    rw [w5, bd_s, if_neg (by decide), p1, bd_s, if_neg (by decide)]
  · rw [p4.1.1 13 (by decide), w8.1 13 (by decide)]; exact a5
  · rw [p4.1.1 12 (by decide), w8.1 12 (by decide)]; exact a6
  · rw [List.length_append, List.length_cons]; omega
  · intro v hv
    rcases List.mem_cons.mp hv with e | e
    · omega
    · exact a8 v (List.mem_append.mpr (.inr e))
theorem mt_or {bs dp s q g : Nat} {L Lm T W : List Nat} {st : Bool} {σx σm : St} (h : ER b n ee bs dp L Lm (T ++ W) s st σx σm) (ha : aW (T ++ W)) (hT : ∀ v, v ∈ T → v = 16 ∨ v = 17) (h3 : W.head? ≠ some 16) (h4 : W.head? ≠ some 17) (hw : kd b n s st = 1 ∧ wAt b n s 21) (hg : n + 2 ≤ s + g) : ∃ σx' σm' s' st', f_Reader_isWord (zI (21 : Nat)) σx = some 1 ∧ f_Reader_step σx = some σx' ∧ TE q g σm = f_M_test_2 q 1 σm' ∧ ER b n ee bs dp L (Lm ++ T) (17 :: W) s' st' σx' σm' ∧ xK σx σx' ∧ eK σm σm' ∧ s < s' := by
  obtain ⟨hs, hn⟩ := ER_s h
  obtain ⟨a1, a2, a3, a4, a5, a6, a7, a8⟩ := h
  obtain ⟨g, rfl⟩ : ∃ r, g = r + 1 := ⟨g - 1, by omega⟩
  obtain ⟨σx', σm1, s', st', w1, w2, w3, w4, w5, w6, w7, w8, w9⟩ := t_word' a1 (show 21 < 27 by omega) hw
  have hlen : (T ++ W).length = T.length + W.length := List.length_append
  obtain ⟨σm2, p1, p2, p3, p4⟩ := m_pop17 h3 h4 T Lm FU σm1 (FU_gt (by omega)) hT ha (by omega) (by omega) (wtM_o a4 w8 (by decide) (by decide)) (cM_o a3 w8 (by decide) (by decide))
  refine ⟨σx', σm2, s', st', w1, w2, ?_, ⟨SY_o w6 (oS_r (I := []) (J := []) (A := []) (B := [])) p4.1 (by decide) (by decide) (by decide) (by decide), cX_o a2 w7 (by decide) (by decide), p3, p2, ?_, ?_, ?_, ?_⟩, xK_s w7, eK_t (eK_1 w8) (eK_o p4), w9⟩
  · unfold TE
    rw [gt_0 a1 (kd1_ns hw.1 (sg_e (by omega)))]
    unfold f_M_goesOnTest_76
    have n22 := (no_take a1 (show 22 < 27 by omega) (fun q => absurd (wAt_u (by omega) (by omega) hw q.2) (by decide))).1
    rw [n22, bd_s, if_pos rfl, w5, bd_s, if_neg (by decide), p1, bd_s, if_neg (by decide)]
  · rw [p4.1.1 13 (by decide), w8.1 13 (by decide)]; exact a5
  · rw [p4.1.1 12 (by decide), w8.1 12 (by decide)]; exact a6
  · rw [List.length_append, List.length_cons]; omega
  · intro v hv
    rcases List.mem_cons.mp hv with e | e
    · omega
    · exact a8 v (List.mem_append.mpr (.inr e))
theorem mt_close {bs dp s q g k : Nat} {L Lm P W : List Nat} {st : Bool} {σx σm : St} (h : ER b n ee bs (dp + 1) L Lm (P ++ 25 :: (List.replicate k 18 ++ W)) s st σx σm) (ha : aW (P ++ 25 :: (List.replicate k 18 ++ W))) (hP : ∀ v, v ∈ P → v = 16 ∨ v = 17) (hh : W.head? ≠ some 18) (hk : k ≤ dp) (hd : dp ≤ 6) (hb : s < n ∧ b s = 93) (hg : n + 2 ≤ s + g) : ∃ g' σx' σm' s' st', f_Reader_isSign (zI (93 : Nat)) σx = some 1 ∧ f_Reader_step σx = some σx' ∧ TE q g σm = TE q g' σm' ∧ ER b n ee bs (dp - k) L (Lm ++ P ++ List.replicate k 18) W s' st' σx' σm' ∧ xK σx σx' ∧ eK σm σm' ∧ s < s' ∧ n + 2 ≤ s' + g' := by
  obtain ⟨hs, hn⟩ := ER_s h
  obtain ⟨a1, a2, a3, a4, a5, a6, a7, a8⟩ := h
  obtain ⟨g, rfl⟩ : ∃ r, g = r + 1 := ⟨g - 1, by omega⟩
  obtain ⟨σx', s', st', z1, z2, z3, z4, z5, z6⟩ := t_sign' a1 (sg_e (c := 93) (by omega)) hb
  have hs' := z4.2.2.1.2.2.1.1
  have hlr : (List.replicate k 18 ++ W).length = k + W.length := by rw [List.length_append, List.length_replicate]
  have hlen : (P ++ 25 :: (List.replicate k 18 ++ W)).length = P.length + (k + W.length + 1) := by rw [List.length_append, List.length_cons, hlr]
  have o1 : oS [1, 3] [] [] [] σm (uI σm 1 (zI (s + 1 : Nat))) := oS_uI (by decide) oS_r
  have o0 : oS [1, 3] [] [] [] σm (uI σm 1 (zI s)) := oS_uI (by decide) oS_r
  obtain ⟨σ1, p1, p2, p3, p4⟩ := m_pop25 (f_M_goesOnTest_0 g) P Lm FU (uI σm 1 (zI (s + 1 : Nat))) (FU_gt (by omega)) hP ha (by omega) (by omega) (wtM_o a4 o1 (by decide) (by decide)) (cM_o a3 o1 (by decide) (by decide))
  have e11 : sI σ1 11 = zI (((List.replicate k 18 ++ W).length + 1 : Nat) : Int) := p2.1
  have e12 : sI σ1 12 = zI ((dp + 1 : Nat) : Int) := by rw [p4.1.1 12 (by decide)]; exact a6
  have o2 : oS [11, 12] [] [] [] σ1 (uI (uI σ1 11 (zI (List.replicate k 18 ++ W).length)) 12 (zI dp)) := oS_uI (by decide) (oS_uI (by decide) oS_r)
  have wt2 : wtM (List.replicate k 18 ++ W) (uI (uI σ1 11 (zI (List.replicate k 18 ++ W).length)) 12 (zI dp)) := ⟨rfl, p2.2.2⟩
  have c2 : cM (Lm ++ P) (uI (uI σ1 11 (zI (List.replicate k 18 ++ W).length)) 12 (zI dp)) := cM_o p3 o2 (by decide) (by decide)
  have h4 : sI (uI (uI σ1 11 (zI (List.replicate k 18 ++ W).length)) 12 (zI dp)) 4 = 0 := by
    show sI σ1 4 = 0
    rw [p4.1.1 4 (by decide)]
    exact a1.2.2.2.2.1
  have hlp : (Lm ++ P).length = Lm.length + P.length := List.length_append
  obtain ⟨σ3, n1, n2, n3, n4, n5⟩ := m_nots hh k (Lm ++ P) FU dp _ (FU_gt (by omega)) hk hd (aW_t (aW_a ha)) (by omega) (by omega) wt2 c2 rfl h4
  have SYa : SY b n s' st' σx' σ3 := SY_o (SY_o (SY_o z4 (oS_r (I := []) (J := []) (A := []) (B := [])) p4.1 (by decide) (by decide) (by decide) (by decide)) (oS_r (I := []) (J := []) (A := []) (B := [])) o2 (by decide) (by decide) (by decide) (by decide)) (oS_r (I := []) (J := []) (A := []) (B := [])) n5.1 (by decide) (by decide) (by decide) (by decide)
  refine ⟨g, σx', σ3, s', st', z1, z2, ?_, ⟨SYa, cX_o a2 z5 (by decide) (by decide), n3, n2, ?_, n4, ?_, fun v hv => a8 v (by simp [hv])⟩, xK_s z5, eK_t (eK_1 o1) (eK_t (eK_o p4) (eK_t ⟨eF_i o2 (by decide), rfl⟩ (eK_T n5))), z6, by omega⟩
  · unfold TE
    have e : f_M_goesOnTest_0 (g + 1) σm = f_M_goesOnTest_0 g σ3 := by
      show f_M_goesOnTest_0b (f_M_goesOnTest_0 g) σm = _
      unfold f_M_goesOnTest_0b
      have sq := m_sq (wtM_o a4 o0 (by decide) (by decide)) (by omega) ha
      rw [if_pos (by simp)] at sq
      have y1 : sI (uI σm 1 (zI s)) 1 = zI s := rfl
      have y12 : sI (uI σ1 11 (zI (List.replicate k 18 ++ W).length)) 12 = zI ((dp + 1 : Nat) : Int) := e12
      have dn : f_M_dropsNots (uI (uI σ1 11 (zI (List.replicate k 18 ++ W).length)) 12 (zI dp)) = some σ3 := n1
      rw [if_pos a1.2.2.2.2.1, (SY_look a1).1, bd_s, ch_eq hb, if_pos (by rfl), sq, bp_s, if_neg (by decide), y1, zS, lt_s', uI_uI, p1, e11, zP, lt_s', y12, zP, lt_s', dn, bp_s]
    rw [e]
  · rw [n5.1.1 13 (by decide)]
    show sI σ1 13 = _
    rw [p4.1.1 13 (by decide)]
    exact a5
  · rw [List.length_append, List.length_replicate, hlp]
    omega
/-- nothing goes on here -/
theorem gt_no {bs dp s g : Nat} {L Lm W : List Nat} {st : Bool} {σx σm : St} (h : ER b n ee bs dp L Lm W s st σx σm) (ha : aW W) (n22 : ¬ (kd b n s st = 1 ∧ wAt b n s 22)) (n21 : ¬ (kd b n s st = 1 ∧ wAt b n s 21)) (hb : 25 ∈ W → ¬ (s < n ∧ b s = 93)) : f_M_goesOnTest_0 (g + 1) σm = some (0, if 25 ∈ W then uI (uI (uI σm 1 (zI s)) 4 1) 5 (zI s) else uI σm 1 (zI s)) := by
  obtain ⟨hs, hn⟩ := ER_s h
  obtain ⟨a1, a2, a3, a4, a5, a6, a7, a8⟩ := h
  have o0 : oS [1, 3] [] [] [] σm (uI σm 1 (zI s)) := oS_uI (by decide) oS_r
  have sq := m_sq (wtM_o a4 o0 (by decide) (by decide)) (by omega) ha
  have b4 : sI (uI σm 1 (zI s)) 4 = 0 := a1.2.2.2.2.1
  have y1 : sI (uI σm 1 (zI s)) 1 = zI s := rfl
  have e76 : f_M_goesOnTest_76 (uI σm 1 (zI s)) = some (0, if 25 ∈ W then uI (uI (uI σm 1 (zI s)) 4 1) 5 (zI s) else uI σm 1 (zI s)) := by
    unfold f_M_goesOnTest_76
    rw [(no_take a1 (by omega) n22).1, bd_s, if_pos rfl, (no_take a1 (by omega) n21).1, bd_s, if_pos rfl, if_pos b4, sq, bp_s]
    by_cases c : 25 ∈ W
    · rw [if_pos c, if_pos c, if_neg (by decide), y1, m_fail _ _ b4, bp_s]
    · rw [if_neg c, if_neg c, if_pos rfl]
  by_cases c : s < n ∧ b s = 93
  · have c25 : 25 ∉ W := fun q => hb q c
    show f_M_goesOnTest_0b (f_M_goesOnTest_0 g) σm = _
    unfold f_M_goesOnTest_0b
    rw [if_pos a1.2.2.2.2.1, (SY_look a1).1, bd_s, ch_eq c, if_pos (by rfl), sq, bp_s, if_neg c25, if_pos rfl, e76, if_neg c25]
  · rw [gt_0 a1 c, e76]
theorem mt_bad {bs dp s q g : Nat} {L Lm W : List Nat} {st : Bool} {σx σm : St} (h : ER b n ee bs dp L Lm W s st σx σm) (ha : aW W) (n22 : ¬ (kd b n s st = 1 ∧ wAt b n s 22)) (n21 : ¬ (kd b n s st = 1 ∧ wAt b n s 21)) (h25 : 25 ∈ W) (hb : ¬ (s < n ∧ b s = 93)) (hq : n + 2 ≤ s + q) (hg : n + 2 ≤ s + g) : f_Reader_isSign (zI (93 : Nat)) σx = some 0 ∧ f_Parser_tellWrong σx = some (0, uI (uI σx 4 1) 5 (zI s)) ∧ ∃ σm', TE q g σm = some σm' ∧ FM 1 s (uI (uI σx 4 1) 5 (zI s)) σm' ∧ xF σx (uI (uI σx 4 1) 5 (zI s)) ∧ eF σm σm' := by
  obtain ⟨hs, hn⟩ := ER_s h
  have e := gt_no (g := g - 1) h ha n22 n21 (fun _ => hb)
  obtain ⟨a1, a2, a3, a4, a5, a6, a7, a8⟩ := h
  obtain ⟨g, rfl⟩ : ∃ r, g = r + 1 := ⟨g - 1, by omega⟩
  obtain ⟨q, rfl⟩ : ∃ r, q = r + 1 := ⟨q - 1, by omega⟩
  rw [if_pos h25] at e
  refine ⟨x_noSign a1 (sg_e (by omega)) hb, x_wrong a1.2.2.1, uI (uI (uI σm 1 (zI s)) 4 1) 5 (zI s), ?_, ⟨⟨by omega, by omega, rfl, rfl, rfl, rfl⟩, Lm.length, by omega, a3.1⟩, oS_uI (by decide) (oS_uI (by decide) oS_r), eF_i (I := [1, 4, 5]) (oS_uI (by decide) (oS_uI (by decide) (oS_uI (by decide) oS_r))) (by decide)⟩
  unfold TE
  have e' : f_M_goesOnTest_0 (g + 1) σm = some (0, uI (uI (uI σm 1 (zI s)) 4 1) 5 (zI s)) := e
  rw [e', bd_s, if_pos rfl, (T_bad (σ := uI (uI (uI σm 1 (zI s)) 4 1) 5 (zI s)) (show ¬ ((1 : Int32) = 0) by decide)).1]
/-- the end of a whole test -/
theorem mt_end {bs dp s q g : Nat} {L Lm W : List Nat} {st : Bool} {σx σm : St} (h : ER b n ee bs dp L Lm W s st σx σm) (ha : aW W) (n22 : ¬ (kd b n s st = 1 ∧ wAt b n s 22)) (n21 : ¬ (kd b n s st = 1 ∧ wAt b n s 21)) (h25 : 25 ∉ W) (hq : n + 2 ≤ s + q) (hg : n + 2 ≤ s + g) : ∃ σm', TE q g σm = some σm' ∧ ER b n ee bs dp L (Lm ++ W) [] s st σx σm' ∧ eK σm σm' := by
  obtain ⟨hs, hn⟩ := ER_s h
  have e := gt_no (g := g - 1) h ha n22 n21 (fun q => absurd q h25)
  have h' := ER_look h
  obtain ⟨a1, a2, a3, a4, a5, a6, a7, a8⟩ := h'
  obtain ⟨g, rfl⟩ : ∃ r, g = r + 1 := ⟨g - 1, by omega⟩
  obtain ⟨q, rfl⟩ : ∃ r, q = r + 1 := ⟨q - 1, by omega⟩
  rw [if_neg h25] at e
  have e' : f_M_goesOnTest_0 (g + 1) σm = some (0, uI σm 1 (zI s)) := e
  obtain ⟨σ1, p1, p2, p3, p4⟩ := m_popAll W Lm FU (uI σm 1 (zI s)) (FU_gt (by omega)) (by omega) (by omega) a4 a3 a1.2.2.2.2.1
  refine ⟨σ1, ?_, ⟨SY_o a1 (oS_r (I := []) (J := []) (A := []) (B := [])) p4.1 (by decide) (by decide) (by decide) (by decide), a2, p3, p2, by rw [p4.1.1 13 (by decide)]; exact a5, by rw [p4.1.1 12 (by decide)]; exact a6, by rw [List.length_append]; show Lm.length + W.length + 0 + 1 + ee < s; omega, fun v hv => absurd hv (by simp)⟩, eK_t (eK_1 (oS_uI (by decide) oS_r)) (eK_o p4)⟩
  unfold TE
  rw [e', bd_s, if_pos rfl]
  show f_M_test_2b (f_M_test_2 q) 0 _ = _
  unfold f_M_test_2b
  rw [if_pos rfl, p1]
end
