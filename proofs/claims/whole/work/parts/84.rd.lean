-- ===== closing, and the comma =====
section
variable {b : Nat → Nat} {n ee : Nat}
theorem t_sign' {s c : Nat} {st : Bool} {σx σm : St} (h : SY b n s st σx σm) (hc : isSg c) (hb : s < n ∧ b s = c) : ∃ σx' s' st', f_Reader_isSign (zI c) σx = some 1 ∧ f_Reader_step σx = some σx' ∧ f_M_takesSign (zI c) σm = some (1, uI σm 1 (zI (s + 1 : Nat))) ∧ SY b n s' st' σx' (uI σm 1 (zI (s + 1 : Nat))) ∧ oS [7, 8, 9, 10, 11] [] [] [] σx σx' ∧ s < s' := by
  rcases t_sign h hc with ⟨σx', σm1, s', st', x1', x2, m1, m2, m3, m4, m5, m6, m7⟩ | ⟨_, _, _, hno⟩
  · have e : f_M_takesSign (zI c) σm = some (1, uI σm 1 (zI (s + 1 : Nat))) := by
      unfold f_M_takesSign
      have y1 : sI (uI σm 1 (zI s)) 1 = zI s := rfl
      rw [if_pos h.2.2.2.2.1, (SY_look h).1, bd_s, ch_eq hb, if_pos rfl, y1, zS, lt_s', uI_uI]
    have e2 : σm1 = uI σm 1 (zI (s + 1 : Nat)) := by
      rw [e] at m1
      injection m1 with m1
      injection m1 with _ m1
      exact m1.symm
    subst e2
    exact ⟨σx', s', st', x1', x2, e, m2, m3, m5⟩
  · exact absurd hb hno
theorem x_noSign {s c : Nat} {st : Bool} {σx σm : St} (h : SY b n s st σx σm) (hc : isSg c) (hb : ¬ (s < n ∧ b s = c)) : f_Reader_isSign (zI c) σx = some 0 := (x_isSign h.1 h.2.2.1 hc).2 hb
theorem lastMk_v {bs v : Nat} {W : List Nat} (h : bs ≤ W.length) : lastMk bs (v :: W) = v := by
  unfold lastMk
  rw [if_neg (by show ¬ W.length + 1 ≤ bs; omega)]
theorem mv_close {bs dp s q g v : Nat} {x1 : Int32} {L Lm P W : List Nat} {st : Bool} {σx σm : St} (hv : v = 20 ∨ v = 23 ∨ v = 24) (h : ER b n ee bs (dp + 1) L Lm (P ++ v :: W) s st σx σm) (hbs : bs ≤ W.length) (hP : ∀ v, v ∈ P → 1 ≤ v ∧ v ≤ 4) (hb : s < n ∧ b s = 41) (hg : n + 2 ≤ s + g) : ∃ g' σx' σm' s' st', f_Reader_isSign (zI (41 : Nat)) σx = some 1 ∧ f_Reader_step σx = some σx' ∧ ME x1 q g σm = ME x1 q g' σm' ∧ ER b n ee bs dp L (Lm ++ P ++ (if v = 20 then [] else [v - 18])) W s' st' σx' σm' ∧ xK σx σx' ∧ eK σm σm' ∧ s < s' ∧ n + 2 ≤ s' + g' := by
  obtain ⟨hs, hn⟩ := ER_s h
  have hno : noOp b n s := by unfold noOp; omega
  have hmk : isMk v = true := by rcases hv with rfl | rfl | rfl <;> rfl
  have hW : cW bs (v :: W) := .inr ⟨v, W, rfl, hmk, hbs⟩
  obtain ⟨w, _⟩ := g_118 h hno hW hP
  have h0 := h
  obtain ⟨a1, a2, a3, a4, a5, a6, a7, a8⟩ := h
  obtain ⟨g, rfl⟩ : ∃ r, g = r + 1 := ⟨g - 1, by omega⟩
  obtain ⟨σx', s', st', z1, z2, z3, z4, z5, z6⟩ := t_sign' a1 (sg_e (c := 41) (by omega)) hb
  have hlen : (P ++ v :: W).length = P.length + (W.length + 1) := by rw [List.length_append]; rfl
  have hW8 : ∀ u, u ∈ v :: W → u < 1000 := fun u hu => a8 u (List.mem_append.mpr (.inr hu))
  have hP8 : ∀ v, v ∈ P → isMk v = false ∧ v < 1000 := fun v hv => ⟨by have := hP v hv; unfold isMk; simp; omega, by have := hP v hv; omega⟩
  have o1 : oS [1, 3] [] [] [] σm (uI σm 1 (zI (s + 1 : Nat))) := oS_uI (by decide) oS_r
  obtain ⟨σ1, d1, d2, d3, d4, d5⟩ := m_toMark (bs := bs) (cW_b hW) (cW_m hW) hW8 P Lm FU (uI σm 1 (zI (s + 1 : Nat))) (FU_gt (by omega)) hP8 (by omega) (by omega) (wtM_o a4 o1 (by decide) (by decide)) (cM_o a3 o1 (by decide) (by decide)) a5
  -- popped
  have e11 : sI σ1 11 = zI ((W.length + 1 : Nat) : Int) := d2.1
  have e12 : sI σ1 12 = zI ((dp + 1 : Nat) : Int) := by rw [d4.1 12 (by decide)]; exact a6
  have o2 : oS [11, 12] [] [] [] σ1 (uI (uI σ1 11 (zI W.length)) 12 (zI dp)) := oS_uI (by decide) (oS_uI (by decide) oS_r)
  have eO1 : eO (uI σm 1 (zI (s + 1 : Nat))) σ1 := eO_d d4 d5
  have wt2 : wtM W (uI (uI σ1 11 (zI W.length)) 12 (zI dp)) := ⟨rfl, d2.2.2⟩
  have c2 : cM (Lm ++ P) (uI (uI σ1 11 (zI W.length)) 12 (zI dp)) := cM_o d3 o2 (by decide) (by decide)
  have top : sA (uI (uI σ1 11 (zI W.length)) 12 (zI dp)) 7 W.length = zI v := d2.2.1
  have hs' := z4.2.2.1.2.2.1.1
  have head : f_M_goesOn_0 (g + 1) σm = (if zI (v : Int) = 20 then f_M_goesOn_0 g (uI (uI σ1 11 (zI W.length)) 12 (zI dp)) else if zI (v : Int) = 23 then f_M_goesOn_112 (f_M_goesOn_0 g) 5 (uI (uI σ1 11 (zI W.length)) 12 (zI dp)) else f_M_goesOn_112 (f_M_goesOn_0 g) 6 (uI (uI σ1 11 (zI W.length)) 12 (zI dp))) := by
    show f_M_goesOn_0b (f_M_goesOn_0 g) σm = _
    have z43 : f_M_goesOn_43 (f_M_goesOn_0 g) (uI σm 1 (zI s)) = (if zI (v : Int) = 20 then f_M_goesOn_0 g (uI (uI σ1 11 (zI W.length)) 12 (zI dp)) else if zI (v : Int) = 23 then f_M_goesOn_112 (f_M_goesOn_0 g) 5 (uI (uI σ1 11 (zI W.length)) 12 (zI dp)) else f_M_goesOn_112 (f_M_goesOn_0 g) 6 (uI (uI σ1 11 (zI W.length)) 12 (zI dp))) := by
      unfold f_M_goesOn_43
      have y1 : sI (uI σm 1 (zI s)) 1 = zI s := rfl
      have y12 : sI (uI σ1 11 (zI W.length)) 12 = zI ((dp + 1 : Nat) : Int) := e12
      have y11 : sI (uI (uI σ1 11 (zI W.length)) 12 (zI dp)) 11 = zI W.length := rfl
      have dd : f_M_dropsToMark (uI σm 1 (zI (s + 1 : Nat))) = some σ1 := d1
      rw [y1, zS, lt_s', uI_uI, dd, bp_s, e11, zP, lt_s', y12, zP, lt_s', y11, zI_in (by omega) (by omega) (by omega), gd_t, gd_t, zI_cl (by omega) (by omega), Int.toNat_natCast, top]
    unfold f_M_goesOn_0b
    rw [if_pos a1.2.2.2.2.1, (SY_look a1).1, bd_s, ch_eq hb, if_pos (by rfl), w, bp_s, bp_s, bp_s, lastMk_v hbs, z43]
    rcases hv with rfl | rfl | rfl
    · rw [if_pos (by rfl)]
    · rw [if_neg (by decide), if_pos (by rfl)]
    · rw [if_neg (by decide), if_neg (by decide), if_pos (by rfl)]
  have eKa : eK σm (uI (uI σ1 11 (zI W.length)) 12 (zI dp)) := by
    refine eK_t (eK_1 o1) (eK_t (eK_o eO1) ⟨eF_i o2 (by decide), rfl⟩)
  have SYa : SY b n s' st' σx' (uI (uI σ1 11 (zI W.length)) 12 (zI dp)) := SY_o (SY_o z4 (oS_r (I := []) (J := []) (A := []) (B := [])) eO1.1 (by decide) (by decide) (by decide) (by decide)) (oS_r (I := []) (J := []) (A := []) (B := [])) o2 (by decide) (by decide) (by decide) (by decide)
  have h13 : sI (uI (uI σ1 11 (zI W.length)) 12 (zI dp)) 13 = zI bs := by
    show sI σ1 13 = _
    rw [d4.1 13 (by decide)]
    exact a5
  have hW9 : ∀ u, u ∈ W → u < 1000 := fun u hu => hW8 u (by simp [hu])
  have hlp : (Lm ++ P).length = Lm.length + P.length := List.length_append
  by_cases c20 : v = 20
  · subst c20
    refine ⟨g, σx', _, s', st', z1, z2, ?_, ⟨SYa, cX_o a2 z5 (by decide) (by decide), by rw [if_pos rfl, List.append_nil]; exact c2, wt2, h13, rfl, by rw [if_pos rfl, List.append_nil]; omega, hW9⟩, xK_s z5, eKa, z6, by omega⟩
    unfold ME
    rw [head, if_pos (by rfl)]
  · obtain ⟨σ3, k1, k2, k3, k4⟩ := m_code (c := v - 18) c2 (by omega)
    have eO3 : eO (uI (uI σ1 11 (zI W.length)) 12 (zI dp)) σ3 := ⟨oS_w k3 (by decide) (by decide) (by decide) (by decide), k4⟩
    have hfin : f_M_goesOn_0 (g + 1) σm = f_M_goesOn_0 g σ3 := by
      rw [head]
      rcases hv with rfl | rfl | rfl
      · exact absurd rfl c20
      · rw [if_neg (by decide), if_pos (by rfl)]
        unfold f_M_goesOn_112
        have k1' : f_M_code 5 (uI (uI σ1 11 (zI W.length)) 12 (zI dp)) = some σ3 := k1
        rw [k1', bp_s]
      · rw [if_neg (by decide), if_neg (by decide)]
        unfold f_M_goesOn_112
        have k1' : f_M_code 6 (uI (uI σ1 11 (zI W.length)) 12 (zI dp)) = some σ3 := k1
        rw [k1', bp_s]
    refine ⟨g, σx', σ3, s', st', z1, z2, ?_, ⟨SY_o SYa (oS_r (I := []) (J := []) (A := []) (B := [])) k3 (by decide) (by decide) (by decide) (by decide), cX_o a2 z5 (by decide) (by decide), by rw [if_neg c20]; exact k2, wtM_o wt2 k3 (by decide) (by decide), by rw [k3.1 13 (by decide)]; exact h13, by rw [k3.1 12 (by decide)]; rfl, ?_, hW9⟩, xK_s z5, eK_t eKa (eK_o eO3), z6, by omega⟩
    · unfold ME
      rw [hfin]
    · rw [if_neg c20, List.length_append, hlp]
      show Lm.length + P.length + 1 + W.length + 1 + ee < s'
      omega
theorem mv_comma {bs dp s q g v : Nat} {x1 : Int32} {L Lm P W : List Nat} {st : Bool} {σx σm : St} (hv : v = 21 ∨ v = 22) (h : ER b n ee bs dp L Lm (P ++ v :: W) s st σx σm) (hbs : bs ≤ W.length) (hP : ∀ v, v ∈ P → 1 ≤ v ∧ v ≤ 4) (hb : s < n ∧ b s = 44) (hq : n + 2 ≤ s + q) (hg : n + 2 ≤ s + g) : ∃ q' σx' σm' s' st', f_Reader_isSign (zI (44 : Nat)) σx = some 1 ∧ f_Reader_step σx = some σx' ∧ ME x1 q g σm = MP x1 q' FU σm' ∧ ER b n ee bs dp L (Lm ++ P) ((v + 2) :: W) s' st' σx' σm' ∧ xK σx σx' ∧ eK σm σm' ∧ s < s' ∧ n + 2 ≤ s' + q' := by
  obtain ⟨hs, hn⟩ := ER_s h
  have hno : noOp b n s := by unfold noOp; omega
  have hmk : isMk v = true := by rcases hv with rfl | rfl <;> rfl
  have hW : cW bs (v :: W) := .inr ⟨v, W, rfl, hmk, hbs⟩
  obtain ⟨w, w2⟩ := g_118 h hno hW hP
  have h0 := h
  obtain ⟨a1, a2, a3, a4, a5, a6, a7, a8⟩ := h
  obtain ⟨g, rfl⟩ : ∃ r, g = r + 1 := ⟨g - 1, by omega⟩
  obtain ⟨q, rfl⟩ : ∃ r, q = r + 1 := ⟨q - 1, by omega⟩
  obtain ⟨σx', s', st', z1, z2, z3, z4, z5, z6⟩ := t_sign' (SY_look a1).2 (sg_e (c := 44) (by omega)) hb
  rw [uI_uI] at z3 z4
  have hlen : (P ++ v :: W).length = P.length + (W.length + 1) := by rw [List.length_append]; rfl
  have hW8 : ∀ u, u ∈ v :: W → u < 1000 := fun u hu => a8 u (List.mem_append.mpr (.inr hu))
  have hP8 : ∀ v, v ∈ P → isMk v = false ∧ v < 1000 := fun v hv => ⟨by have := hP v hv; unfold isMk; simp; omega, by have := hP v hv; omega⟩
  have o1 : oS [1, 3] [] [] [] σm (uI σm 1 (zI (s + 1 : Nat))) := oS_uI (by decide) oS_r
  obtain ⟨σ1, d1, d2, d3, d4, d5⟩ := m_toMark (bs := bs) (cW_b hW) (cW_m hW) hW8 P Lm FU (uI σm 1 (zI (s + 1 : Nat))) (FU_gt (by omega)) hP8 (by omega) (by omega) (wtM_o a4 o1 (by decide) (by decide)) (cM_o a3 o1 (by decide) (by decide)) a5
  have e11 : sI σ1 11 = zI ((W.length + 1 : Nat) : Int) := d2.1
  have eO1 : eO (uI σm 1 (zI (s + 1 : Nat))) σ1 := eO_d d4 d5
  have dd : f_M_dropsToMark (uI σm 1 (zI (s + 1 : Nat))) = some σ1 := d1
  have top : sA σ1 7 W.length = zI v := d2.2.1
  have o2 : oS [11] [] [7] [] σ1 (uA σ1 7 (upd (sA σ1 7) W.length (zI (v + 2 : Nat)))) := oS_uA (by decide) oS_r
  have hs' := z4.2.2.1.2.2.1.1
  have ev : zI (v : Int) + 2 = zI (v + 2 : Nat) := by
    rw [zI_lit, zI_add]
    rfl
  have b4 : sI (uI σm 1 (zI s)) 4 = 0 := a1.2.2.2.2.1
  have b4' : sI (uI σm 1 (zI (s + 1 : Nat))) 4 = 0 := a1.2.2.2.2.1
  have f322 : f_M_goesOn_322 (uI σm 1 (zI s)) = some (1, uA σ1 7 (upd (sA σ1 7) W.length (zI (v + 2 : Nat)))) := by
    unfold f_M_goesOn_322 f_M_asksSign
    have z3' : f_M_takesSign 44 (uI σm 1 (zI s)) = some (1, uI σm 1 (zI (s + 1 : Nat))) := z3
    rw [if_pos b4, z3', bd_s, if_neg (by decide), bp_s, if_pos b4', dd, bp_s, e11, zP, lt_s', zI_in (by omega) (by omega) (by omega), gd_t, gd_t, zI_cl (by omega) (by omega), Int.toNat_natCast, top, ev, lt_s']
  refine ⟨q, σx', _, s', st', z1, z2, ?_, ⟨SY_o (SY_o z4 (oS_r (I := []) (J := []) (A := []) (B := [])) eO1.1 (by decide) (by decide) (by decide) (by decide)) (oS_r (I := []) (J := []) (A := []) (B := [])) o2 (by decide) (by decide) (by decide) (by decide), cX_o a2 z5 (by decide) (by decide), cM_o d3 o2 (by decide) (by decide), ⟨e11, ?_, stkN_c d2.2.2 (fun i hi => ?_)⟩, ?_, ?_, ?_, ?_⟩, xK_s z5, eK_t (eK_1 o1) (eK_t (eK_o eO1) (eK_o (eO_p o2))), z6, by omega⟩
  · unfold ME
    rw [g_0 a1 (by omega), w2, lastMk_v hbs]
    have b4'' : sI (uA σ1 7 (upd (sA σ1 7) W.length (zI (v + 2 : Nat)))) 4 = 0 := by
      show sI σ1 4 = 0
      rw [d4.1 4 (by decide)]
      exact b4'
    rcases hv with rfl | rfl
    · rw [if_pos (by rfl), f322, bd_s, if_neg (by decide), K_P b4'']
    · rw [if_neg (by decide), if_pos (by rfl), f322, bd_s, if_neg (by decide), K_P b4'']
  · show upd (sA σ1 7) W.length (zI (v + 2 : Nat)) W.length = _
    rw [upd_e, if_pos rfl]
  · show upd (sA σ1 7) W.length (zI (v + 2 : Nat)) i = _
    rw [upd_e, if_neg (by omega)]
  · show sI σ1 13 = _
    rw [d4.1 13 (by decide)]
    exact a5
  · show sI σ1 12 = _
    rw [d4.1 12 (by decide)]
    exact a6
  · rw [List.length_append, List.length_cons]; omega
  · intro u hu
    rcases List.mem_cons.mp hu with e | e
    · omega
    · exact hW8 u (by simp [e])
theorem mv_bad {bs dp s q g v c : Nat} {x1 : Int32} {L Lm P W : List Nat} {st : Bool} {σx σm : St} (hv : ((v = 20 ∨ v = 23 ∨ v = 24) ∧ c = 41) ∨ ((v = 21 ∨ v = 22) ∧ c = 44)) (h : ER b n ee bs dp L Lm (P ++ v :: W) s st σx σm) (hbs : bs ≤ W.length) (hP : ∀ v, v ∈ P → 1 ≤ v ∧ v ≤ 4) (hno : noOp b n s) (hb : ¬ (s < n ∧ b s = c)) (hq : n + 2 ≤ s + q) (hg : n + 2 ≤ s + g) : f_Reader_isSign (zI c) σx = some 0 ∧ f_Parser_tellWrong σx = some (0, uI (uI σx 4 1) 5 (zI s)) ∧ ∃ σm', ME x1 q g σm = some σm' ∧ FM 1 s (uI (uI σx 4 1) 5 (zI s)) σm' ∧ xF σx (uI (uI σx 4 1) 5 (zI s)) ∧ eF σm σm' := by
  obtain ⟨hs, hn⟩ := ER_s h
  have hmk : isMk v = true := by rcases hv with ⟨rfl | rfl | rfl, _⟩ | ⟨rfl | rfl, _⟩ <;> rfl
  have hW : cW bs (v :: W) := .inr ⟨v, W, rfl, hmk, hbs⟩
  obtain ⟨w, w2⟩ := g_118 h hno hW hP
  obtain ⟨a1, a2, a3, a4, a5, a6, a7, a8⟩ := h
  obtain ⟨g, rfl⟩ : ∃ r, g = r + 1 := ⟨g - 1, by omega⟩
  obtain ⟨q, rfl⟩ : ∃ r, q = r + 1 := ⟨q - 1, by omega⟩
  have hcs : isSg c := sg_e (by omega)
  refine ⟨x_noSign a1 hcs hb, x_wrong a1.2.2.1, uI (uI (uI (uI σm 1 (zI s)) 4 1) 5 (zI s)) 13 x1, ?_, ⟨⟨by omega, by omega, rfl, rfl, rfl, rfl⟩, Lm.length, by omega, a3.1⟩, oS_uI (by decide) (oS_uI (by decide) oS_r), eF_i (I := [1, 4, 5, 13]) (oS_uI (by decide) (oS_uI (by decide) (oS_uI (by decide) (oS_uI (by decide) oS_r)))) (by decide)⟩
  have k0 := K_0 (x1 := x1) (q := q) (σ := uI (uI (uI σm 1 (zI s)) 4 1) 5 (zI s)) (show ¬ ((1 : Int32) = 0) by decide)
  rw [lastMk_v hbs] at w w2
  have b4 : sI (uI σm 1 (zI s)) 4 = 0 := a1.2.2.2.2.1
  unfold ME
  rcases hv with ⟨hv, rfl⟩ | ⟨hv, rfl⟩
  · rw [g_0 a1 hb, w2]
    have e : ∀ (A B C D : Option (Int32 × St)), (if (v : Int) = 21 then A else if (v : Int) = 22 then B else if (v : Int) = -1 then C else D) = D := by
      intro A B C D
      rw [if_neg (by omega), if_neg (by omega), if_neg (by omega)]
    rw [e, bd_s, if_pos rfl, k0]
  · have e118 : f_M_goesOn_0 (g + 1) σm = f_M_goesOn_118 (uI σm 1 (zI s)) := by
      by_cases c41 : s < n ∧ b s = 41
      · show f_M_goesOn_0b (f_M_goesOn_0 g) σm = _
        unfold f_M_goesOn_0b
        rw [if_pos a1.2.2.2.2.1, (SY_look a1).1, bd_s, ch_eq c41, if_pos (by rfl), w, bp_s, bp_s, bp_s]
        rcases hv with rfl | rfl
        · rw [if_neg (by decide), if_neg (by decide), if_neg (by decide)]
        · rw [if_neg (by decide), if_neg (by decide), if_neg (by decide)]
      · exact g_0 a1 c41
    have f322 : f_M_goesOn_322 (uI σm 1 (zI s)) = some (0, uI (uI (uI σm 1 (zI s)) 4 1) 5 (zI s)) := by
      unfold f_M_goesOn_322 f_M_asksSign
      have n1 : f_M_takesSign 44 (uI σm 1 (zI s)) = some (0, uI σm 1 (zI s)) := no_sign (c := 44) a1 hcs hb
      have y1 : sI (uI σm 1 (zI s)) 1 = zI s := rfl
      rw [if_pos b4, n1, bd_s, if_pos rfl, y1, m_fail _ _ b4, bp_s, bp_s, if_neg (show ¬ (sI (uI (uI (uI σm 1 (zI s)) 4 1) 5 (zI s)) 4 = 0) from (show ¬ ((1 : Int32) = 0) by decide))]
    rw [e118, w2]
    have e : ∀ (A C D : Option (Int32 × St)), (if (v : Int) = 21 then A else if (v : Int) = 22 then A else if (v : Int) = -1 then C else D) = A := by
      intro A C D
      rcases hv with rfl | rfl
      · rw [if_pos (by rfl)]
      · rw [if_neg (by decide), if_pos (by rfl)]
    rw [e, f322, bd_s, if_pos rfl, k0]
end
