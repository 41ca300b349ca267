-- ===== where a part begins =====
def fw (i : Nat) : Nat := [15, 18, 19, 8, 20, 6].getD i 0
theorem fw_x : ∀ i : Fin 6, stV 6 (zI (i.val : Nat)) = zI (fw i.val : Nat) ∧ fw i.val < 27 ∧ fw i.val ≠ 25 ∧ fw i.val ≠ 26 := by decide +kernel
theorem fw_i : ∀ i j : Fin 6, fw i.val = fw j.val → i = j := by decide +kernel
theorem own_i : ∀ i j : Fin 27, ownV i.val = ownV j.val → i = j := by decide +kernel
def oFail (r : Option (Int32 × St)) (m : Option St) (σx σm : St) : Prop := ∃ (f pl : Nat) (σx' σm' : St), r = some (0, σx') ∧ m = some σm' ∧ FM f pl σx' σm' ∧ xF σx σx' ∧ eF σm σm'
theorem oFail_t {r : Option (Int32 × St)} {m : Option St} {σx σm σx1 σm1 : St} (hx : xK σx σx1) (hm : eK σm σm1) (h : oFail r m σx1 σm1) : oFail r m σx σm := by
  obtain ⟨f, pl, σx', σm', h1, h2, h3, h4, h5⟩ := h
  exact ⟨f, pl, σx', σm', h1, h2, h3, xF_t (xK_F hx) h4, eF_t hm.1 h5⟩
section
variable {b : Nat → Nat} {n ee : Nat}
theorem wAt_u {s i j : Nat} {st : Bool} (hi : i < 27) (hj : j < 27) (h1 : kd b n s st = 1 ∧ wAt b n s i) (h2 : wAt b n s j) : i = j := by
  obtain ⟨g1, g2, g3⟩ := kd_1.mp h1.1
  have a := (w_iff hi g1 g2).mpr h1.2
  have c := (w_iff hj g1 g2).mpr h2
  have := own_i ⟨i, hi⟩ ⟨j, hj⟩ (by rw [← a.2, ← c.2])
  exact Fin.mk.inj this
theorem kd_sg {s c : Nat} {st : Bool} (hc : isSg c) (h : s < n ∧ b s = c) : kd b n s st = 3 := by
  unfold kd
  rw [if_neg (by omega), if_neg (by rw [h.2, hc.1]; decide), if_neg (by rw [h.2, hc.2.1]; decide)]
/-- a word that is here: the state M comes to -/
theorem t_word' {s j : Nat} {st : Bool} {σx σm : St} (h : SY b n s st σx σm) (hj : j < 27) (hw : kd b n s st = 1 ∧ wAt b n s j) : ∃ σx' σm' s' st', f_Reader_isWord (zI j) σx = some 1 ∧ f_Reader_step σx = some σx' ∧ f_M_isHere j σm = some (1, uI σm 1 (zI s)) ∧ f_M_isHere j (uI σm 1 (zI s)) = some (1, uI σm 1 (zI s)) ∧ f_M_takes j (uI σm 1 (zI s)) = some (1, σm') ∧ SY b n s' st' σx' σm' ∧ oS [7, 8, 9, 10, 11] [] [] [] σx σx' ∧ oS [1, 3] [] [] [] σm σm' ∧ s < s' := by
  rcases t_word (SY_look h).2 hj with ⟨σx', σm', s', st', h1, h2, h3, h4, h5, h6, h7, h8, _⟩ | ⟨_, _, _, _, hn⟩
  · rcases t_word h hj with ⟨_, _, _, _, _, _, g3, _⟩ | ⟨_, _, _, _, hn⟩
    · rw [uI_uI] at h3
      exact ⟨σx', σm', s', st', h1, h2, g3, h3, h4, h5, h6, oS_t (oS_uI (by decide) oS_r) h7, h8⟩
    · exact absurd hw hn
  · exact absurd hw hn
theorem x_noWord {s j : Nat} {st : Bool} {σx σm : St} (h : SY b n s st σx σm) (hj : j < 27) (hw : ¬ (kd b n s st = 1 ∧ wAt b n s j)) : f_Reader_isWord (zI j) σx = some 0 := (x_isWord h.1.1 h.2.2.1 h.2.2.2.2.2 hj).2 hw
/-- M's opening -/
theorem m_opens {W : List Nat} {dp v : Nat} {x : Int32} {σ : St} (hw : wtM W σ) (h12 : sI σ 12 = zI dp) (hl : W.length < 1700) (hd : dp < 6) : ∃ σ1, f_M_opens (zI v) x σ = some σ1 ∧ wtM (v :: W) σ1 ∧ sI σ1 12 = zI (dp + 1 : Nat) ∧ oS [11, 12] [] [7] [] σ σ1 := by
  have e6 : (6 : Int32) = zI (6 : Nat) := rfl
  have hw' : wtM W (uI σ 12 (zI (dp + 1 : Nat))) := hw
  obtain ⟨p1, p2⟩ := psh_w (v := v) hw'
  refine ⟨_, ?_, p1, rfl, oS_t (oS_uI (by decide) oS_r) (oS_w p2 (by decide) (by decide) (by decide) (by decide))⟩
  unfold f_M_opens
  rw [h12, e6, if_neg (by rw [zI_eq (by omega) (by omega) (by omega) (by omega)]; omega), zS, lt_s']
  exact m_push hw' hl (fun σ_4 => some σ_4)
theorem m_deep {dp : Nat} {x1 x : Int32} {σ : St} (h12 : sI σ 12 = zI dp) (h4 : sI σ 4 = 0) (hd : dp = 6) : f_M_opens x1 x σ = some (uI (uI σ 4 4) 5 x) := by
  unfold f_M_opens
  rw [h12, hd, if_pos (by rfl), m_fail _ _ h4, bp_s]
/-- a part, M being bad -/
theorem p_bad {x1 : Int32} {q f : Nat} {σ : St} (h : ¬ sI σ 4 = 0) : MP x1 (q + 1) (f + 1) σ = some (uI σ 13 x1) := by
  unfold MP
  have e : f_M_onePart_2 (f + 1) 1 σ = some σ := by
    show f_M_onePart_2b (f_M_onePart_2 f) 1 σ = _
    unfold f_M_onePart_2b f_M_onePart_146
    rw [if_neg (by decide), if_neg h, if_neg h]
  rw [e, bp_s, if_neg h, K_0 h]
theorem mv_open {bs dp s q f : Nat} {x1 : Int32} {L Lm W : List Nat} {st : Bool} {σx σm : St} (h : ER b n ee bs dp L Lm W s st σx σm) (hb : s < n ∧ b s = 40) (hd : dp < 6) (hf : n + 2 ≤ s + f) : ∃ f' σx' σm' s' st', f_Reader_isSign (zI (40 : Nat)) σx = some 1 ∧ f_Reader_step σx = some σx' ∧ MP x1 q f σm = MP x1 q f' σm' ∧ ER b n ee bs (dp + 1) L Lm (20 :: W) s' st' σx' σm' ∧ xK σx σx' ∧ eK σm σm' ∧ s < s' ∧ n + 2 ≤ s' + f' := by
  obtain ⟨hs, hn⟩ := ER_s h
  obtain ⟨a1, a2, a3, a4, a5, a6, a7, a8⟩ := h
  obtain ⟨f, rfl⟩ : ∃ r, f = r + 1 := ⟨f - 1, by omega⟩
  obtain ⟨σx', s', st', z1, z2, z3, z4, z5, z6⟩ := t_sign' a1 (sg_e (c := 40) (by omega)) hb
  have hs' := z4.2.2.1.2.2.1.1
  have a4' : wtM W (uI σm 1 (zI s)) := a4
  obtain ⟨σ1, c1, c2, c3, c4⟩ := m_opens (v := 20) (x := zI s) a4' a6 (by omega) hd
  have ez : uI σ1 1 (zI (s + 1 : Nat)) = uI σ1 1 (zI (s + 1 : Nat)) := rfl
  have o0 : oS [1, 3] [] [] [] σm (uI σm 1 (zI s)) := oS_uI (by decide) oS_r
  have o1 : oS [11, 12] [] [7] [] (uI σm 1 (zI (s + 1 : Nat))) (uI σ1 1 (zI (s + 1 : Nat))) := by
    obtain ⟨u1, u2, u3, u4⟩ := c4
    refine ⟨fun k hk => ?_, fun k hk => u2 k hk, fun k hk => u3 k hk, fun k hk => u4 k hk⟩
    by_cases q : k = 1
    · subst q; rfl
    · rw [sI_uI, sI_uI, if_neg (by omega), if_neg (by omega), u1 k hk, sI_uI, if_neg (by omega)]
  have o2 : oS [1, 3] [] [] [] σm (uI σm 1 (zI (s + 1 : Nat))) := oS_uI (by decide) oS_r
  refine ⟨f, σx', uI σ1 1 (zI (s + 1 : Nat)), s', st', z1, z2, ?_, ⟨SY_o z4 (oS_r (I := []) (J := []) (A := []) (B := [])) o1 (by decide) (by decide) (by decide) (by decide), cX_o a2 z5 (by decide) (by decide), cM_o (cM_o a3 o2 (by decide) (by decide)) o1 (by decide) (by decide), c2, ?_, c3, by rw [List.length_cons]; omega, ?_⟩, xK_s z5, eK_t (eK_1 o2) ⟨eF_o o1 (by decide), o1.1 5 (by decide)⟩, z6, by omega⟩
  · unfold MP
    have e : f_M_onePart_2 (f + 1) 1 σm = f_M_onePart_2 f 1 (uI σ1 1 (zI (s + 1 : Nat))) := by
      show f_M_onePart_2b (f_M_onePart_2 f) 1 σm = _
      unfold f_M_onePart_2b
      have y1 : sI (uI σm 1 (zI s)) 1 = zI s := rfl
      have y2 : sI σ1 1 = zI s := by rw [c4.1 1 (by decide)]; rfl
      have c1' : f_M_opens 20 (zI s) (uI σm 1 (zI s)) = some σ1 := c1
      rw [if_neg (by decide), if_pos a1.2.2.2.2.1, (SY_look a1).1, bd_s, ch_eq hb, if_pos (by rfl), y1, c1', bp_s, y2, zS, lt_s']
    rw [e]
  · rw [o1.1 13 (by decide)]
    exact a5
  · intro u hu
    rcases List.mem_cons.mp hu with e | e
    · omega
    · exact a8 u e
theorem mv_deep {bs dp s q f : Nat} {x1 : Int32} {L Lm W : List Nat} {st : Bool} {σx σm : St} (h : ER b n ee bs dp L Lm W s st σx σm) (hb : s < n ∧ b s = 40) (hd : dp = 6) (hq : n + 2 ≤ s + q) (hf : n + 2 ≤ s + f) : ∃ σm', MP x1 q f σm = some σm' ∧ FM 4 s (uI (uI σx 4 4) 5 (zI s)) σm' ∧ eF σm σm' := by
  obtain ⟨hs, hn⟩ := ER_s h
  obtain ⟨a1, a2, a3, a4, a5, a6, a7, a8⟩ := h
  obtain ⟨f, rfl⟩ : ∃ r, f = r + 2 := ⟨f - 2, by omega⟩
  obtain ⟨q, rfl⟩ : ∃ r, q = r + 1 := ⟨q - 1, by omega⟩
  have b4 : sI (uI σm 1 (zI s)) 4 = 0 := a1.2.2.2.2.1
  refine ⟨uI (uI (uI (uI (uI σm 1 (zI s)) 4 4) 5 (zI s)) 1 (zI (s + 1 : Nat))) 13 x1, ?_, ⟨⟨by omega, by omega, rfl, rfl, rfl, rfl⟩, Lm.length, by omega, a3.1⟩, eF_i (I := [1, 4, 5, 13]) (oS_uI (by decide) (oS_uI (by decide) (oS_uI (by decide) (oS_uI (by decide) (oS_uI (by decide) oS_r))))) (by decide)⟩
  have e : f_M_onePart_2 (f + 1 + 1) 1 σm = f_M_onePart_2 (f + 1) 1 (uI (uI (uI (uI σm 1 (zI s)) 4 4) 5 (zI s)) 1 (zI (s + 1 : Nat))) := by
    show f_M_onePart_2b (f_M_onePart_2 (f + 1)) 1 σm = _
    unfold f_M_onePart_2b
    have y1 : sI (uI σm 1 (zI s)) 1 = zI s := rfl
    have y2 : sI (uI (uI (uI σm 1 (zI s)) 4 4) 5 (zI s)) 1 = zI s := rfl
    have h12 : sI (uI σm 1 (zI s)) 12 = zI dp := a6
    rw [if_neg (by decide), if_pos a1.2.2.2.2.1, (SY_look a1).1, bd_s, ch_eq hb, if_pos (by rfl), y1, m_deep h12 b4 hd, bp_s, y2, zS, lt_s']
  have e2 : MP x1 (q + 1) (f + 1 + 1) σm = MP x1 (q + 1) (f + 1) (uI (uI (uI (uI σm 1 (zI s)) 4 4) 5 (zI s)) 1 (zI (s + 1 : Nat))) := by
    unfold MP
    rw [e]
  rw [e2]
  exact p_bad (show ¬ ((4 : Int32) = 0) by decide)
/-- min or max: where M comes to behind the word -/
theorem pr_90 {bs dp s f j : Nat} {L Lm W : List Nat} {st : Bool} {σx σm : St} (h : ER b n ee bs dp L Lm W s st σx σm) (hj : j = 25 ∨ j = 26) (hw : kd b n s st = 1 ∧ wAt b n s j) : ∃ x3 σx' σm' s' st', f_Reader_step σx = some σx' ∧ f_M_onePart_2 (f + 1) 1 σm = f_M_onePart_90 (f_M_onePart_2 f) 1 x3 σm' ∧ ((x3 = 0) ↔ j = 26) ∧ SY b n s' st' σx' σm' ∧ oS [7, 8, 9, 10, 11] [] [] [] σx σx' ∧ oS [1, 3] [] [] [] σm σm' ∧ s < s' := by
  obtain ⟨hs, hn⟩ := ER_s h
  obtain ⟨a1, a2, a3, a4, a5, a6, a7, a8⟩ := h
  obtain ⟨σx', σm', s', st', w1, w2, w3, w4, w5, w6, w7, w8, w9⟩ := t_word' a1 (show j < 27 by omega) hw
  have h40 : ¬ (s < n ∧ b s = 40) := by
    intro q
    have := kd_sg (st := st) (sg_e (c := 40) (by omega)) q
    omega
  have b4 : sI (uI σm 1 (zI s)) 4 = 0 := a1.2.2.2.2.1
  have e40 : (40 : Int32) = zI (40 : Nat) := rfl
  have head : f_M_onePart_2 (f + 1) 1 σm = f_M_onePart_69 (f_M_onePart_2 f) 1 (uI σm 1 (zI s)) := by
    show f_M_onePart_2b (f_M_onePart_2 f) 1 σm = _
    unfold f_M_onePart_2b
    rw [if_neg (by decide), if_pos a1.2.2.2.2.1, (SY_look a1).1, bd_s, e40, if_neg (ch_ne a1.1.2.2.2 (by omega) h40)]
    rcases hj with rfl | rfl
    · rw [w4, bd_s, if_neg (by decide)]
    · have n25 := (no_take a1 (show 25 < 27 by omega) (fun q => absurd (wAt_u (by omega) (by omega) hw q.2) (by decide))).2
      rw [n25, bd_s, if_pos rfl, w4, bd_s, if_neg (by decide)]
  rcases hj with rfl | rfl
  · refine ⟨1, σx', σm', s', st', w2, ?_, by decide, w6, w7, w8, w9⟩
    rw [head]
    unfold f_M_onePart_69
    rw [w5, bd_s, if_neg (by decide)]
  · refine ⟨0, σx', σm', s', st', w2, ?_, by decide, w6, w7, w8, w9⟩
    rw [head]
    unfold f_M_onePart_69 f_M_asks
    have n25 := (no_take a1 (show 25 < 27 by omega) (fun q => absurd (wAt_u (by omega) (by omega) hw q.2) (by decide))).1
    rw [n25, bd_s, if_pos rfl, if_pos b4, w5, bd_s, if_neg (by decide), bp_s]
theorem ER_w {bs dp s s' : Nat} {L Lm W : List Nat} {st st' : Bool} {σx σm σx' σm' : St} (h : ER b n ee bs dp L Lm W s st σx σm) (h1 : SY b n s' st' σx' σm') (h2 : oS [7, 8, 9, 10, 11] [] [] [] σx σx') (h3 : oS [1, 3] [] [] [] σm σm') (hs : s ≤ s') : ER b n ee bs dp L Lm W s' st' σx' σm' := by
  obtain ⟨a1, a2, a3, a4, a5, a6, a7, a8⟩ := h
  exact ⟨h1, cX_o a2 h2 (by decide) (by decide), cM_o a3 h3 (by decide) (by decide), wtM_o a4 h3 (by decide) (by decide), by rw [h3.1 13 (by decide)]; exact a5, by rw [h3.1 12 (by decide)]; exact a6, by omega, a8⟩
theorem mv_pair {bs dp s q f j : Nat} {x1 : Int32} {L Lm W : List Nat} {st : Bool} {σx σm : St} (h : ER b n ee bs dp L Lm W s st σx σm) (hj : j = 25 ∨ j = 26) (hw : kd b n s st = 1 ∧ wAt b n s j) (hq : n + 2 ≤ s + q) (hf : n + 2 ≤ s + f) : ∃ σx1, f_Reader_step σx = some σx1 ∧ ((f_Reader_isSign (zI (40 : Nat)) σx1 = some 0 ∧ ∃ (pl : Nat) (σm' : St), f_Parser_tellWrong σx1 = some (0, uI (uI σx1 4 1) 5 (zI pl)) ∧ MP x1 q f σm = some σm' ∧ FM 1 pl (uI (uI σx1 4 1) 5 (zI (pl : Nat))) σm' ∧ xF σx (uI (uI σx1 4 1) 5 (zI pl)) ∧ eF σm σm') ∨ (f_Reader_isSign (zI (40 : Nat)) σx1 = some 1 ∧ dp = 6 ∧ ∃ (pl : Nat) (σm' : St), sI σx1 9 = zI pl ∧ MP x1 q f σm = some σm' ∧ FM 4 pl (uI (uI σx1 4 4) 5 (zI (pl : Nat))) σm' ∧ xF σx (uI (uI σx1 4 4) 5 (zI pl)) ∧ eF σm σm') ∨ (f_Reader_isSign (zI (40 : Nat)) σx1 = some 1 ∧ (dp < 6 → ∃ f' σx' σm' s' st', f_Reader_step σx1 = some σx' ∧ MP x1 q f σm = MP x1 q f' σm' ∧ ER b n ee bs (dp + 1) L Lm ((j - 4) :: W) s' st' σx' σm' ∧ xK σx σx' ∧ eK σm σm' ∧ s < s' ∧ n + 2 ≤ s' + f') ∧ dp ≠ 6)) := by
  obtain ⟨hs, hn⟩ := ER_s h
  obtain ⟨f, rfl⟩ : ∃ r, f = r + 1 := ⟨f - 1, by omega⟩
  obtain ⟨q, rfl⟩ : ∃ r, q = r + 1 := ⟨q - 1, by omega⟩
  obtain ⟨x3, σx1, σm1, s1, st1, u1, u2, u3, u4, u5, u6, u7⟩ := pr_90 (f := f) h hj hw
  have h1 := ER_w h u4 u5 u6 (by omega)
  have b4 : sI (uI σm1 1 (zI s1)) 4 = 0 := u4.2.2.2.2.1
  obtain ⟨hs1, _⟩ := ER_s h1
  obtain ⟨f', rfl⟩ : ∃ r, f = r + 1 := ⟨f - 1, by omega⟩
  have e40 : (40 : Int32) = zI (40 : Nat) := rfl
  obtain ⟨a1, a2, a3, a4, a5, a6, a7, a8⟩ := h1
  have y1 : sI (uI σm1 1 (zI s1)) 1 = zI s1 := rfl
  have eMP : ∀ σ', f_M_onePart_90 (f_M_onePart_2 (f' + 1)) 1 x3 σm1 = f_M_onePart_2 (f' + 1) 1 σ' → MP x1 (q + 1) (f' + 1 + 1) σm = MP x1 (q + 1) (f' + 1) σ' := by
    intro σ' h
    unfold MP
    rw [u2, h]
  refine ⟨σx1, u1, ?_⟩
  by_cases c : s1 < n ∧ b s1 = 40
  · obtain ⟨σx', s', st', z1, z2, z3, z4, z5, z6⟩ := t_sign' a1 (sg_e (c := 40) (by omega)) c
    have hs' := z4.2.2.1.2.2.1.1
    have em : f_M_onePart_90 (f_M_onePart_2 (f' + 1)) 1 x3 σm1 = f_M_onePart_127 (f_M_onePart_2 (f' + 1)) 1 (zI s1) (zI (j - 4 : Nat)) (uI σm1 1 (zI s1)) := by
      unfold f_M_onePart_90 f_M_onePart_107
      have hne : ¬ zI (s1 : Int) = -1 := by
        have : (-1 : Int32) = zI (-1 : Int) := rfl
        rw [this, zI_eq (by omega) (by omega) (by omega) (by omega)]
        omega
      rw [(SY_look a1).1, bd_s, ch_eq c, if_pos (by rfl), y1, if_neg hne]
      rcases hj with rfl | rfl
      · rw [if_neg (fun e => absurd (u3.mp e) (by decide))]
        rfl
      · rw [if_pos (u3.mpr rfl)]
        rfl
    by_cases hd : dp = 6
    · refine .inr (.inl ⟨z1, hd, s1, uI (uI (uI (uI σm1 1 (zI s1)) 4 4) 5 (zI s1)) 13 x1, a1.2.2.1.1, ?_, ⟨⟨by omega, by omega, rfl, rfl, rfl, rfl⟩, Lm.length, by omega, a3.1⟩, xF_t (xK_F (xK_s u5)) (oS_uI (by decide) (oS_uI (by decide) oS_r)), eF_t (eK_1 u6).1 (eF_i (I := [1, 4, 5, 13]) (oS_uI (by decide) (oS_uI (by decide) (oS_uI (by decide) (oS_uI (by decide) oS_r)))) (by decide))⟩)
      rw [eMP (uI (uI (uI σm1 1 (zI s1)) 4 4) 5 (zI s1))]
      · exact p_bad (show ¬ ((4 : Int32) = 0) by decide)
      · rw [em]
        unfold f_M_onePart_127 f_M_onePart_132 f_M_asksSign
        have h12 : sI (uI σm1 1 (zI s1)) 12 = zI dp := a6
        rw [m_deep h12 b4 hd, bp_s, if_neg (show ¬ (sI (uI (uI (uI σm1 1 (zI s1)) 4 4) 5 (zI s1)) 4 = 0) from (show ¬ ((4 : Int32) = 0) by decide)), bp_s]
    · refine .inr (.inr ⟨z1, fun hd6 => ?_, hd⟩)
      have a4' : wtM W (uI σm1 1 (zI s1)) := a4
      have a6' : sI (uI σm1 1 (zI s1)) 12 = zI dp := a6
      obtain ⟨σ2, c1, c2, c3, c4⟩ := m_opens (v := j - 4) (x := zI s1) a4' a6' (by omega) hd6
      have S2 : SY b n s1 st1 σx1 σ2 := SY_o (SY_look a1).2 (oS_r (I := []) (J := []) (A := []) (B := [])) c4 (by decide) (by decide) (by decide) (by decide)
      obtain ⟨σx2, s2, st2, v1, v2, v3, v4, v5, v6⟩ := t_sign' S2 (sg_e (c := 40) (by omega)) c
      have ex : σx2 = σx' := by
        rw [z2] at v2
        injection v2 with v2
        exact v2.symm
      subst ex
      have o3 : oS [1, 3] [] [] [] σ2 (uI σ2 1 (zI (s1 + 1 : Nat))) := oS_uI (by decide) oS_r
      have o0 : oS [1, 3] [] [] [] σm1 (uI σm1 1 (zI s1)) := oS_uI (by decide) oS_r
      have hs2 := v4.2.2.1.2.2.1.1
      refine ⟨f' + 1, σx2, uI σ2 1 (zI (s1 + 1 : Nat)), s2, st2, v2, ?_, ⟨v4, cX_o a2 v5 (by decide) (by decide), cM_o (cM_o (cM_o a3 o0 (by decide) (by decide)) c4 (by decide) (by decide)) o3 (by decide) (by decide), c2, ?_, c3, by rw [List.length_cons]; omega, ?_⟩, xK_t (xK_s u5) (xK_s v5), eK_t (eK_1 u6) (eK_t (eK_1 o0) (eK_t ⟨eF_o c4 (by decide), c4.1 5 (by decide)⟩ (eK_1 o3))), by omega, by omega⟩
      · apply eMP
        rw [em]
        unfold f_M_onePart_127 f_M_onePart_132 f_M_asksSign
        have b42 : sI σ2 4 = 0 := S2.2.2.2.2.1
        have v3' : f_M_takesSign 40 σ2 = some (1, uI σ2 1 (zI (s1 + 1 : Nat))) := v3
        rw [c1, bp_s, if_pos b42, v3', bd_s, if_neg (by decide), bp_s]
      · show sI σ2 13 = _
        rw [c4.1 13 (by decide)]
        exact a5
      · intro u hu
        rcases List.mem_cons.mp hu with e | e
        · omega
        · exact a8 u e
  · refine .inl ⟨x_noSign a1 (sg_e (by omega)) c, s1, uI (uI (uI (uI σm1 1 (zI s1)) 4 1) 5 (zI s1)) 13 x1, x_wrong a1.2.2.1, ?_, ⟨⟨by omega, by omega, rfl, rfl, rfl, rfl⟩, Lm.length, by omega, a3.1⟩, xF_t (xK_F (xK_s u5)) (oS_uI (by decide) (oS_uI (by decide) oS_r)), eF_t (eK_1 u6).1 (eF_i (I := [1, 4, 5, 13]) (oS_uI (by decide) (oS_uI (by decide) (oS_uI (by decide) (oS_uI (by decide) oS_r)))) (by decide))⟩
    rw [eMP (uI (uI (uI σm1 1 (zI s1)) 4 1) 5 (zI s1))]
    · exact p_bad (show ¬ ((1 : Int32) = 0) by decide)
    · unfold f_M_onePart_90 f_M_onePart_107 f_M_onePart_132 f_M_asksSign
      have n1 : f_M_takesSign 40 (uI σm1 1 (zI s1)) = some (0, uI σm1 1 (zI s1)) := no_sign (c := 40) a1 (sg_e (by omega)) c
      rw [(SY_look a1).1, bd_s, e40, if_neg (ch_ne a1.1.2.2.2 (by omega) c), if_pos rfl, if_pos b4, ← e40, n1, bd_s, if_pos rfl, y1, m_fail _ _ b4, bp_s, bp_s]
end
