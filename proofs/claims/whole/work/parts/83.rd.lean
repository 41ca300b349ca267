-- ===== the moves of a sum =====
def xK (σ σ' : St) : Prop := oS [7, 8, 9, 10, 11, 12] [] [7] [] σ σ'
def xF (σ σ' : St) : Prop := oS [4, 5, 7, 8, 9, 10, 11, 12] [] [7] [] σ σ'
def eK (σ σ' : St) : Prop := eF σ σ' ∧ sI σ' 5 = sI σ 5
theorem xK_t {σ σ' σ'' : St} (h : xK σ σ') (h2 : xK σ' σ'') : xK σ σ'' := oS_t h h2
theorem xF_t {σ σ' σ'' : St} (h : xF σ σ') (h2 : xF σ' σ'') : xF σ σ'' := oS_t h h2
theorem xK_F {σ σ' : St} (h : xK σ σ') : xF σ σ' := oS_w h (by decide) (by decide) (by decide) (by decide)
theorem eK_t {σ σ' σ'' : St} (h : eK σ σ') (h2 : eK σ' σ'') : eK σ σ'' := ⟨eF_t h.1 h2.1, h2.2.trans h.2⟩
theorem eK_o {σ σ' : St} (h : eO σ σ') : eK σ σ' := ⟨eO_F h, h.1.1 5 (by decide)⟩
theorem eK_1 {σ σ' : St} (o : oS [1, 3] [] [] [] σ σ') : eK σ σ' := ⟨eF_i o (by decide), o.1 5 (by decide)⟩
theorem xK_s {σ σ' : St} (o : oS [7, 8, 9, 10, 11] [] [] [] σ σ') : xK σ σ' := oS_w o (by decide) (by decide) (by decide) (by decide)
theorem xK_e {σ σ' : St} (o : oS [12] [] [7] [] σ σ') : xK σ σ' := oS_w o (by decide) (by decide) (by decide) (by decide)
theorem xF_45 {σ σ' : St} (o : oS [4, 5] [] [] [] σ σ') : xF σ σ' := oS_w o (by decide) (by decide) (by decide) (by decide)
def ER (b : Nat → Nat) (n ee bs dp : Nat) (L Lm W : List Nat) (s : Nat) (st : Bool) (σx σm : St) : Prop := SY b n s st σx σm ∧ cX L σx ∧ cM Lm σm ∧ wtM W σm ∧ sI σm 13 = zI bs ∧ sI σm 12 = zI dp ∧ Lm.length + W.length + 1 + ee < s ∧ (∀ v, v ∈ W → v < 1000)
/-- M's codes do not run over -/
def cB (σ : St) : Prop := ∃ c : Nat, c < 1600 ∧ sI σ 10 = zI c
def FM (f pl : Nat) (σx σm : St) : Prop := FL f pl σx σm ∧ cB σm
/-- what lies below a sum -/
def cW (bs : Nat) (W : List Nat) : Prop := (W.length = bs ∧ ∀ v, W.head? = some v → ¬ (1 ≤ v ∧ v ≤ 4)) ∨ (∃ v W1, W = v :: W1 ∧ isMk v = true ∧ bs ≤ W1.length)
theorem cW_h {bs : Nat} {W : List Nat} (h : cW bs W) : ∀ v, W.head? = some v → ¬ (1 ≤ v ∧ v ≤ 4) := by
  rcases h with ⟨_, h⟩ | ⟨v, W1, rfl, h, _⟩
  · exact h
  · intro u hu
    have e : v = u := by simpa using hu
    subst e
    unfold isMk at h
    simp at h
    omega
theorem cW_b {bs : Nat} {W : List Nat} (h : cW bs W) : bs ≤ W.length := by
  rcases h with ⟨h, _⟩ | ⟨v, W1, rfl, _, h⟩
  · omega
  · show bs ≤ W1.length + 1
    omega
theorem cW_m {bs : Nat} {W : List Nat} (h : cW bs W) : W.length = bs ∨ ∃ v W1, W = v :: W1 ∧ isMk v = true := by
  rcases h with ⟨h, _⟩ | ⟨v, W1, h1, h2, h⟩
  · exact .inl h
  · exact .inr ⟨v, W1, h1, h2⟩
def ME (x1 : Int32) (q g : Nat) (σ : St) : Option St := bd (f_M_goesOn_0 g σ) fun r_4 σ_5 => if r_4 = 0 then f_M_sumsTold_15 q x1 0 σ_5 else f_M_sumsTold_15 q x1 1 σ_5
def MP (x1 : Int32) (q f : Nat) (σ : St) : Option St := bp (f_M_onePart_2 f 1 σ) fun σ_2 => if (sI σ_2 4) = 0 then ME x1 q FU σ_2 else f_M_sumsTold_15 q x1 0 σ_2
theorem K_P {x1 : Int32} {q : Nat} {σ : St} (h : sI σ 4 = 0) : f_M_sumsTold_15 (q + 1) x1 1 σ = MP x1 q FU σ := by
  show f_M_sumsTold_15b (f_M_sumsTold_15 q) x1 1 σ = _
  unfold f_M_sumsTold_15b MP ME f_M_onePart f_M_goesOn
  rw [if_neg (by decide), if_pos h]
theorem K_0 {x1 : Int32} {q : Nat} {σ : St} (h : ¬ sI σ 4 = 0) : f_M_sumsTold_15 (q + 1) x1 0 σ = some (uI σ 13 x1) := by
  show f_M_sumsTold_15b (f_M_sumsTold_15 q) x1 0 σ = _
  unfold f_M_sumsTold_15b
  rw [if_pos rfl]
  show f_M_sumsTold_53b (f_M_sumsTold_53 99999) x1 σ = _
  unfold f_M_sumsTold_53b f_M_sumsTold_78
  rw [if_neg h]
  rfl
section
variable {b : Nat → Nat} {n ee : Nat}
theorem sg_e {c : Nat} (h : c = 40 ∨ c = 41 ∨ c = 42 ∨ c = 43 ∨ c = 44 ∨ c = 45 ∨ c = 47 ∨ c = 59 ∨ c = 60 ∨ c = 61 ∨ c = 62 ∨ c = 91 ∨ c = 93) : isSg c := by
  have : ∀ c : Fin 256, (c.val = 40 ∨ c.val = 41 ∨ c.val = 42 ∨ c.val = 43 ∨ c.val = 44 ∨ c.val = 45 ∨ c.val = 47 ∨ c.val = 59 ∨ c.val = 60 ∨ c.val = 61 ∨ c.val = 62 ∨ c.val = 91 ∨ c.val = 93) → isLt c.val = false ∧ isDg c.val = false ∧ isSp c.val = false := by decide +kernel
  have hc : c < 256 := by omega
  have q := this ⟨c, hc⟩ h
  exact ⟨q.1, q.2.1, q.2.2, hc⟩
theorem ER_s {bs dp s : Nat} {L Lm W : List Nat} {st : Bool} {σx σm : St} (h : ER b n ee bs dp L Lm W s st σx σm) : s ≤ n ∧ n ≤ 1600 := ⟨h.1.2.2.1.2.2.1.1, h.1.1.1⟩
theorem ER_look {bs dp s : Nat} {L Lm W : List Nat} {st : Bool} {σx σm : St} (h : ER b n ee bs dp L Lm W s st σx σm) : ER b n ee bs dp L Lm W s st σx (uI σm 1 (zI s)) := by
  obtain ⟨h1, h2, h3, h4, h5, h6, h7, h8⟩ := h
  exact ⟨(SY_look h1).2, h2, h3, h4, h5, h6, h7, h8⟩
theorem SY_look2 {s : Nat} {st : Bool} {σx σm : St} (h : SY b n s st σx σm) : f_M_look (uI σm 1 (zI s)) = some (zI (chA b n s), uI σm 1 (zI s)) := by
  have := (SY_look (SY_look h).2).1
  rw [uI_uI] at this
  exact this
theorem no_sign {s c : Nat} {st : Bool} {σx σm : St} (h : SY b n s st σx σm) (hc : isSg c) (hn : ¬ (s < n ∧ b s = c)) : f_M_takesSign (zI c) (uI σm 1 (zI s)) = some (0, uI σm 1 (zI s)) := by
  rcases t_sign (SY_look h).2 hc with ⟨_, _, _, _, _, _, _, _, _, _, _, hp, _⟩ | ⟨_, h2, _⟩
  · exact absurd hp hn
  · rw [uI_uI] at h2
    exact h2
theorem no_take {s j : Nat} {st : Bool} {σx σm : St} (h : SY b n s st σx σm) (hj : j < 27) (hn : ¬ (kd b n s st = 1 ∧ wAt b n s j)) : f_M_takes j (uI σm 1 (zI s)) = some (0, uI σm 1 (zI s)) ∧ f_M_isHere j (uI σm 1 (zI s)) = some (0, uI σm 1 (zI s)) := by
  rcases t_word (SY_look h).2 hj with ⟨_, _, _, _, _, _, _, _, _, _, _, _, hp⟩ | ⟨_, h1, h2, _⟩
  · exact absurd hp hn
  · rw [uI_uI] at h1 h2
    exact ⟨h2, h1⟩
theorem ch_ne {s c : Nat} (hT : ∀ k, k < n → b k < 256) (hc : c < 256) (h : ¬ (s < n ∧ b s = c)) : ¬ zI (chA b n s) = zI (c : Int) := by
  have hb := chA_b (b := b) (n := n) (s := s) hT
  rw [zI_eq (by omega) (by omega) (by omega) (by omega)]
  unfold chA
  intro e
  by_cases q : s < n
  · rw [if_pos q] at e
    exact h ⟨q, by omega⟩
  · rw [if_neg q] at e
    omega
theorem ch_eq {s c : Nat} (h : s < n ∧ b s = c) : chA b n s = (c : Int) := by
  unfold chA
  rw [if_pos h.1, h.2]
/-- the head of goesOn: no closing sign here -/
theorem g_0 {s g : Nat} {st : Bool} {σx σm : St} (h : SY b n s st σx σm) (hn : ¬ (s < n ∧ b s = 41)) : f_M_goesOn_0 (g + 1) σm = f_M_goesOn_118 (uI σm 1 (zI s)) := by
  show f_M_goesOn_0b (f_M_goesOn_0 g) σm = _
  unfold f_M_goesOn_0b
  have e : (41 : Int32) = zI (41 : Nat) := rfl
  rw [if_pos h.2.2.2.2.1, (SY_look h).1, bd_s, e, if_neg (ch_ne h.1.2.2.2 (by omega) hn)]
theorem mv_mul {bs dp s c k q g : Nat} {x1 : Int32} {L Lm T W : List Nat} {st : Bool} {σx σm : St} (hk : (c = 42 ∧ k = 3) ∨ (c = 47 ∧ k = 4)) (h : ER b n ee bs dp L Lm (T ++ W) s st σx σm) (hT : ∀ v, v ∈ T → v = 3 ∨ v = 4) (h3 : W.head? ≠ some 3) (h4 : W.head? ≠ some 4) (hb : s < n ∧ b s = c) (hq : n + 2 ≤ s + q) (hg : n + 2 ≤ s + g) : ∃ q' σx' σm' s' st', f_Reader_isSign (zI c) σx = some 1 ∧ f_Reader_step σx = some σx' ∧ ME x1 q g σm = MP x1 q' FU σm' ∧ ER b n ee bs dp L (Lm ++ T) (k :: W) s' st' σx' σm' ∧ xK σx σx' ∧ eK σm σm' ∧ s < s' ∧ n + 2 ≤ s' + q' := by
  obtain ⟨hs, hn⟩ := ER_s h
  have h0 := h
  obtain ⟨a1, a2, a3, a4, a5, a6, a7, a8⟩ := h
  obtain ⟨q, rfl⟩ : ∃ r, q = r + 1 := ⟨q - 1, by omega⟩
  obtain ⟨g, rfl⟩ : ∃ r, g = r + 1 := ⟨g - 1, by omega⟩
  have hcs : isSg c := sg_e (by omega)
  have hl := SY_look a1
  rcases t_sign (SY_look a1).2 hcs with ⟨σx', σm1, s', st', x1', x2, m1, m2, m3, m4, m5, m6, m7⟩ | ⟨_, _, _, hno⟩
  rotate_left
  · exact absurd hb hno
  have o2 : oS [1, 3] [] [] [] σm σm1 := oS_t (oS_uI (by decide) oS_r) m4
  have hlen : (T ++ W).length = T.length + W.length := List.length_append
  have hW8 : ∀ v, v ∈ W → v < 1000 := fun v hv => a8 v (List.mem_append.mpr (.inr hv))
  obtain ⟨σm2, p1, p2, p3, p4⟩ := m_pop2 (x := k) h3 h4 hW8 T Lm FU σm1 (FU_gt (by omega)) hT (by omega) (by omega) (wtM_o a4 o2 (by decide) (by decide)) (cM_o a3 o2 (by decide) (by decide))
  have hs' := m2.2.2.1.2.2.1.1
  refine ⟨q, σx', σm2, s', st', x1', x2, ?_, ⟨SY_o m2 (oS_r (I := []) (J := []) (A := []) (B := [])) p4.1 (by decide) (by decide) (by decide) (by decide), cX_o a2 m3 (by decide) (by decide), p3, p2, ?_, ?_, ?_, ?_⟩, xK_s m3, eK_t (eK_1 o2) (eK_o p4), m5, by omega⟩
  · unfold ME
    rw [g_0 a1 (by omega)]
    have z : f_M_goesOn_118 (uI σm 1 (zI s)) = f_M_goesOn_136 σm1 := by
      unfold f_M_goesOn_118
      rcases hk with ⟨rfl, _⟩ | ⟨rfl, _⟩
      · have m1' : f_M_takesSign 42 (uI σm 1 (zI s)) = some (1, σm1) := m1
        rw [m1', bd_s, if_neg (by decide)]
      · have m1' : f_M_takesSign 47 (uI σm 1 (zI s)) = some (1, σm1) := m1
        have n1 : f_M_takesSign 42 (uI σm 1 (zI s)) = some (0, uI σm 1 (zI s)) := no_sign (c := 42) a1 (sg_e (by omega)) (by omega)
        rw [n1, bd_s, if_pos rfl, m1', bd_s, if_neg (by decide)]
    have e1 : zI ((s + 1 : Nat) : Int) - 1 = zI (s : Int) := zP s
    have e42 : (42 : Int32) = zI (42 : Nat) := rfl
    have t0 : sA σm1 0 s = zI (b s) := m2.2.1.2.2.1 s hb.1
    have z2 : f_M_goesOn_136 σm1 = some (1, σm2) := by
      unfold f_M_goesOn_136
      rw [m7, e1, zI_in (by omega) (by omega) (by omega), gd_t, zI_cl (by omega) (by omega), Int.toNat_natCast, t0, hb.2, ← p1]
      rcases hk with ⟨rfl, rfl⟩ | ⟨rfl, rfl⟩
      · rw [if_pos e42.symm]
        rfl
      · rw [if_neg (by rw [e42, zI_eq (by omega) (by omega) (by omega) (by omega)]; omega)]
        rfl
    rw [z, z2, bd_s, if_neg (by decide), K_P (by rw [p4.1.1 4 (by decide)]; exact m2.2.2.2.2.1)]
  · rw [p4.1.1 13 (by decide), o2.1 13 (by decide)]; exact a5
  · rw [p4.1.1 12 (by decide), o2.1 12 (by decide)]; exact a6
  · rw [List.length_append, List.length_cons]; omega
  · intro v hv
    rcases List.mem_cons.mp hv with e | e
    · omega
    · exact hW8 v e
theorem mv_add {bs dp s c k q g : Nat} {x1 : Int32} {L Lm T W : List Nat} {st : Bool} {σx σm : St} (hk : (c = 43 ∧ k = 1) ∨ (c = 45 ∧ k = 2)) (h : ER b n ee bs dp L Lm (T ++ W) s st σx σm) (hT : ∀ v, v ∈ T → 1 ≤ v ∧ v ≤ 4) (h4 : ∀ v, W.head? = some v → ¬ (1 ≤ v ∧ v ≤ 4)) (hb : s < n ∧ b s = c) (hq : n + 2 ≤ s + q) (hg : n + 2 ≤ s + g) : ∃ q' σx' σm' s' st', f_Reader_isSign (zI c) σx = some 1 ∧ f_Reader_step σx = some σx' ∧ ME x1 q g σm = MP x1 q' FU σm' ∧ ER b n ee bs dp L (Lm ++ T) (k :: W) s' st' σx' σm' ∧ xK σx σx' ∧ eK σm σm' ∧ s < s' ∧ n + 2 ≤ s' + q' := by
  obtain ⟨hs, hn⟩ := ER_s h
  have h0 := h
  obtain ⟨a1, a2, a3, a4, a5, a6, a7, a8⟩ := h
  obtain ⟨q, rfl⟩ : ∃ r, q = r + 1 := ⟨q - 1, by omega⟩
  obtain ⟨g, rfl⟩ : ∃ r, g = r + 1 := ⟨g - 1, by omega⟩
  have hcs : isSg c := sg_e (by omega)
  have hl := SY_look a1
  rcases t_sign (SY_look a1).2 hcs with ⟨σx', σm1, s', st', x1', x2, m1, m2, m3, m4, m5, m6, m7⟩ | ⟨_, _, _, hno⟩
  rotate_left
  · exact absurd hb hno
  have o2 : oS [1, 3] [] [] [] σm σm1 := oS_t (oS_uI (by decide) oS_r) m4
  have hlen : (T ++ W).length = T.length + W.length := List.length_append
  have hW8 : ∀ v, v ∈ W → v < 1000 := fun v hv => a8 v (List.mem_append.mpr (.inr hv))
  obtain ⟨σm2, p1, p2, p3, p4⟩ := m_pop4 (x := k) h4 hW8 T Lm FU σm1 (FU_gt (by omega)) hT (by omega) (by omega) (wtM_o a4 o2 (by decide) (by decide)) (cM_o a3 o2 (by decide) (by decide))
  have hs' := m2.2.2.1.2.2.1.1
  refine ⟨q, σx', σm2, s', st', x1', x2, ?_, ⟨SY_o m2 (oS_r (I := []) (J := []) (A := []) (B := [])) p4.1 (by decide) (by decide) (by decide) (by decide), cX_o a2 m3 (by decide) (by decide), p3, p2, ?_, ?_, ?_, ?_⟩, xK_s m3, eK_t (eK_1 o2) (eK_o p4), m5, by omega⟩
  · unfold ME
    rw [g_0 a1 (by omega)]
    have z : f_M_goesOn_118 (uI σm 1 (zI s)) = f_M_goesOn_221 σm1 := by
      unfold f_M_goesOn_118
      have n1 : f_M_takesSign 42 (uI σm 1 (zI s)) = some (0, uI σm 1 (zI s)) := no_sign (c := 42) a1 (sg_e (by omega)) (by omega)
      have n2 : f_M_takesSign 47 (uI σm 1 (zI s)) = some (0, uI σm 1 (zI s)) := no_sign (c := 47) a1 (sg_e (by omega)) (by omega)
      rw [n1, bd_s, if_pos rfl, n2, bd_s, if_pos rfl]
      rcases hk with ⟨rfl, _⟩ | ⟨rfl, _⟩
      · have m1' : f_M_takesSign 43 (uI σm 1 (zI s)) = some (1, σm1) := m1
        rw [m1', bd_s, if_neg (by decide)]
      · have m1' : f_M_takesSign 45 (uI σm 1 (zI s)) = some (1, σm1) := m1
        have n1 : f_M_takesSign 43 (uI σm 1 (zI s)) = some (0, uI σm 1 (zI s)) := no_sign (c := 43) a1 (sg_e (by omega)) (by omega)
        rw [n1, bd_s, if_pos rfl, m1', bd_s, if_neg (by decide)]
    have e1 : zI ((s + 1 : Nat) : Int) - 1 = zI (s : Int) := zP s
    have e42 : (43 : Int32) = zI (43 : Nat) := rfl
    have t0 : sA σm1 0 s = zI (b s) := m2.2.1.2.2.1 s hb.1
    have z2 : f_M_goesOn_221 σm1 = some (1, σm2) := by
      unfold f_M_goesOn_221
      rw [m7, e1, zI_in (by omega) (by omega) (by omega), gd_t, zI_cl (by omega) (by omega), Int.toNat_natCast, t0, hb.2, ← p1]
      rcases hk with ⟨rfl, rfl⟩ | ⟨rfl, rfl⟩
      · rw [if_pos e42.symm]
        rfl
      · rw [if_neg (by rw [e42, zI_eq (by omega) (by omega) (by omega) (by omega)]; omega)]
        rfl
    rw [z, z2, bd_s, if_neg (by decide), K_P (by rw [p4.1.1 4 (by decide)]; exact m2.2.2.2.2.1)]
  · rw [p4.1.1 13 (by decide), o2.1 13 (by decide)]; exact a5
  · rw [p4.1.1 12 (by decide), o2.1 12 (by decide)]; exact a6
  · rw [List.length_append, List.length_cons]; omega
  · intro v hv
    rcases List.mem_cons.mp hv with e | e
    · omega
    · exact hW8 v e
def noOp (b : Nat → Nat) (n s : Nat) : Prop := ¬ (s < n ∧ (b s = 42 ∨ b s = 47 ∨ b s = 43 ∨ b s = 45))
/-- none of the four signs: what counts is the mark -/
theorem g_118 {bs dp s : Nat} {L Lm P W : List Nat} {st : Bool} {σx σm : St} (h : ER b n ee bs dp L Lm (P ++ W) s st σx σm) (hno : noOp b n s) (hW : cW bs W) (hP : ∀ v, v ∈ P → 1 ≤ v ∧ v ≤ 4) : f_M_waitsLast (uI σm 1 (zI s)) = some (zI (lastMk bs W)) ∧ f_M_goesOn_118 (uI σm 1 (zI s)) = (if lastMk bs W = 21 then f_M_goesOn_322 (uI σm 1 (zI s)) else if lastMk bs W = 22 then f_M_goesOn_322 (uI σm 1 (zI s)) else if lastMk bs W = -1 then some (0, uI σm 1 (zI s)) else some (0, uI (uI (uI σm 1 (zI s)) 4 1) 5 (zI s))) := by
  obtain ⟨hs, hn⟩ := ER_s h
  have hE := ER_look h
  obtain ⟨a1, a2, a3, a4, a5, a6, a7, a8⟩ := h
  obtain ⟨b1, b2, b3, b4, b5, b6, b7, b8⟩ := hE
  have hlen : (P ++ W).length = P.length + W.length := List.length_append
  have hW8 : ∀ v, v ∈ W → v < 1000 := fun v hv => a8 v (List.mem_append.mpr (.inr hv))
  have w := m_waits b4 b5 (cW_b hW) (cW_m hW) hW8 (fun v hv => ⟨by have := hP v hv; unfold isMk; simp; omega, by have := hP v hv; omega⟩) (by omega)
  have hlm : -1 ≤ lastMk bs W ∧ lastMk bs W < 1000 := by
    unfold lastMk
    split
    · omega
    · split
      · omega
      · rename_i v _ _
        have := hW8 v (by simp)
        omega
  refine ⟨w, ?_⟩
  unfold noOp at hno
  have n1 : f_M_takesSign 42 (uI σm 1 (zI s)) = some (0, uI σm 1 (zI s)) := no_sign (c := 42) a1 (sg_e (by omega)) (by omega)
  have n2 : f_M_takesSign 47 (uI σm 1 (zI s)) = some (0, uI σm 1 (zI s)) := no_sign (c := 47) a1 (sg_e (by omega)) (by omega)
  have n3 : f_M_takesSign 43 (uI σm 1 (zI s)) = some (0, uI σm 1 (zI s)) := no_sign (c := 43) a1 (sg_e (by omega)) (by omega)
  have n4 : f_M_takesSign 45 (uI σm 1 (zI s)) = some (0, uI σm 1 (zI s)) := no_sign (c := 45) a1 (sg_e (by omega)) (by omega)
  unfold f_M_goesOn_118
  have e21 : (21 : Int32) = zI (21 : Int) := rfl
  have e22 : (22 : Int32) = zI (22 : Int) := rfl
  have em : (-1 : Int32) = zI (-1 : Int) := rfl
  have bad : sI (uI σm 1 (zI s)) 4 = 0 := b1.2.2.2.2.1
  have y1 : sI (uI σm 1 (zI s)) 1 = zI s := rfl
  rw [n1, bd_s, if_pos rfl, n2, bd_s, if_pos rfl, n3, bd_s, if_pos rfl, n4, bd_s, if_pos rfl, w, bp_s, e21]
  by_cases c1 : lastMk bs W = 21
  · rw [if_pos (by rw [c1]), if_pos c1]
  · rw [if_neg (by rw [zI_eq (by omega) (by omega) (by omega) (by omega)]; exact c1), if_neg c1, bp_s, e22]
    by_cases c2 : lastMk bs W = 22
    · rw [if_pos (by rw [c2]), if_pos c2]
    · rw [if_neg (by rw [zI_eq (by omega) (by omega) (by omega) (by omega)]; exact c2), if_neg c2, bp_s, em]
      by_cases c3 : lastMk bs W = -1
      · rw [if_pos (by rw [c3]), if_pos c3]
      · rw [if_neg (by rw [zI_eq (by omega) (by omega) (by omega) (by omega)]; exact c3), if_neg c3, if_pos bad, y1, m_fail _ _ bad, bp_s]
end
