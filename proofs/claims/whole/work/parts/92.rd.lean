-- ===== comparisons, facts, tests =====
def xCmp_74 (x1 : Int32) (x2 : Int32) (σ : St) : Option (Int32 × St) :=
  bp (f_Reader_step σ) fun σ_2 =>
  bd (f_Parser_readSum 8 x1 σ_2) fun r_4 σ_5 =>
  if r_4 = 0 then
    some (0, σ_5)
  else
    bp (f_Fair_emit x2 σ_5) fun σ_7 =>
    some (1, σ_7)
def xCmp_49 (x1 : Int32) (t0 : Int32) (σ : St) : Option (Int32 × St) :=
  if t0 = 10015 then
    bp (f_Reader_isSign 61 σ) fun r_2 =>
    if r_2 = 0 then
      bd (f_Parser_tellWrong σ) fun r_4 σ_5 =>
      gd (isB r_4) <|
      some (r_4, σ_5)
    else
      xCmp_74 x1 t0 σ
  else
    xCmp_74 x1 t0 σ
/-- a comparison, by X: two sums and the sign between them -/
def xCmp (x1 : Int32) (σ : St) : Option (Int32 × St) :=
  bd (f_Parser_readSum 8 x1 σ) fun r_2 σ_3 =>
  if r_2 = 0 then
    some (0, σ_3)
  else
    bp (f_Reader_isSign 60 σ_3) fun r_5 =>
    if r_5 = 0 then
      bp (f_Reader_isSign 62 σ_3) fun r_7 =>
      if r_7 = 0 then
        xCmp_49 x1 10015 σ_3
      else
        xCmp_49 x1 10014 σ_3
    else
      xCmp_49 x1 10013 σ_3
def xCmpK (x1 : Int32) (r_11 : Int32) (σ_12 : St) : Option (Int32 × St) :=
  if r_11 = (-1) then
    some (0, σ_12)
  else
    bd (f_Parser_readSum 8 x1 σ_12) fun r_14 σ_15 =>
    if r_14 = 0 then
      some (0, σ_15)
    else
      bp (f_Fair_emit r_11 σ_15) fun σ_17 =>
      some (1, σ_17)
theorem x_wrong0 (σ : St) : f_Parser_tellWrong σ = some (0, uI (uI σ 4 1) 5 (sI σ 9)) := by
  unfold f_Parser_tellWrong
  rw [x_tell, bd_s]
  rfl
theorem cmp_66 (x1 t : Int32) (ht : ¬ t = (-1)) (σ : St) : bd (f_Parser_passComparer_66 t σ) (xCmpK x1) = xCmp_74 x1 t σ := by
  unfold f_Parser_passComparer_66 xCmp_74
  cases f_Reader_step σ with
  | none => rfl
  | some τ =>
    rw [bp_s, bp_s, bd_s]
    unfold xCmpK
    rw [if_neg ht]
theorem cmp_39 (x1 t : Int32) (ht : ¬ t = (-1)) (σ : St) : bd (f_Parser_passComparer_39 t σ) (xCmpK x1) = xCmp_49 x1 t σ := by
  unfold f_Parser_passComparer_39 xCmp_49
  by_cases c : t = 10015
  · rw [if_pos c, if_pos c]
    cases f_Reader_isSign 61 σ with
    | none => rfl
    | some i =>
      rw [bp_s, bp_s]
      by_cases c0 : i = 0
      · rw [if_pos c0, if_pos c0, x_wrong0, bd_s, bd_s, bd_s]
        unfold xCmpK
        rw [if_pos rfl]
        rfl
      · rw [if_neg c0, if_neg c0]
        exact cmp_66 x1 t ht σ
  · rw [if_neg c, if_neg c]
    exact cmp_66 x1 t ht σ
theorem cmp_e (x1 : Int32) (σ : St) : (bd (f_Parser_readSum 8 x1 σ) fun r_8 σ_9 => if r_8 = 0 then some (0, σ_9) else bd (f_Parser_passComparer σ_9) (xCmpK x1)) = xCmp x1 σ := by
  unfold xCmp
  cases f_Parser_readSum 8 x1 σ with
  | none => rfl
  | some p =>
    obtain ⟨r, τ⟩ := p
    rw [bd_s, bd_s]
    by_cases c : r = 0
    · rw [if_pos c, if_pos c]
    · rw [if_neg c, if_neg c]
      unfold f_Parser_passComparer
      cases f_Reader_isSign 60 τ with
      | none => rfl
      | some i =>
        rw [bp_s, bp_s]
        by_cases c0 : i = 0
        · rw [if_pos c0, if_pos c0]
          cases f_Reader_isSign 62 τ with
          | none => rfl
          | some j =>
            rw [bp_s, bp_s]
            by_cases c1 : j = 0
            · rw [if_pos c1, if_pos c1]
              exact cmp_39 x1 10015 (by decide) τ
            · rw [if_neg c1, if_neg c1]
              exact cmp_39 x1 10014 (by decide) τ
        · rw [if_neg c0, if_neg c0]
          exact cmp_39 x1 10013 (by decide) τ
section
variable {b : Nat → Nat} {n ee : Nat}
theorem hd_r {k : Nat} {W : List Nat} (h : aW W) : ∀ v, (List.replicate k 18 ++ W).head? = some v → ¬ (1 ≤ v ∧ v ≤ 4) := by
  intro v hv
  have : v ∈ List.replicate k 18 ++ W := by
    cases hc : (List.replicate k 18 ++ W) with
    | nil => rw [hc] at hv; simp at hv
    | cons u r =>
      rw [hc] at hv
      have e : u = v := by simpa using hv
      rw [e]
      simp
  have := aW_r h v this
  omega
/-- a comparison -/
theorem t_cmp {bs dp k q s : Nat} {L W : List Nat} {st : Bool} {σx σm : St} (hd : dp ≤ 6) (hh : W.head? ≠ some 18) (ha : aW W) (hk : k ≤ dp) (h : ER b n ee bs dp L L (List.replicate k 18 ++ W) s st σx σm) (h91 : ¬ (s < n ∧ b s = 91)) (h23 : ¬ (kd b n s st = 1 ∧ wAt b n s 23)) (h24 : ¬ (kd b n s st = 1 ∧ wAt b n s 24)) (hq : n + 2 ≤ s + q) : oFact b n ee bs dp k L W s (xCmp (zI dp) σx) (f_M_test_2 q 1 σm) σx σm := by
  obtain ⟨hs, hn⟩ := ER_s h
  have a1 := h.1
  obtain ⟨q, rfl⟩ : ∃ r, q = r + 1 + 1 := ⟨q - 2, by omega⟩
  have hFU : ∀ s', n + 2 ≤ s' + FU := by
    intro s'
    have : FU = 100000 := rfl
    omega
  rw [mt_fact a1 h91 h23]
  have h1 := ER_look h
  have o0 : oS [1, 3] [] [] [] σm (uI σm 1 (zI s)) := oS_uI (by decide) oS_r
  unfold xCmp f_M_fact
  rw [(no_take a1 (by omega) h24).1, bd_s, if_pos rfl]
  rcases t_sums hd h1 (hd_r ha) with ⟨C, σx1, σm1, s1, st1, r1, r2, r3, r4, r5, r6, r7⟩ | hF
  rotate_left
  · obtain ⟨f, pl, σx', σm', f1, f2, f3, f4, f5⟩ := hF
    have hb := FL_bad f3.1
    rw [f1, bd_s, if_pos rfl, f2, bp_s, if_neg hb, bp_s, TF_bad hb]
    exact .inr ⟨f, pl, σx', σm', rfl, rfl, f3.1, f4, eF_t (eK_1 o0).1 f5⟩
  obtain ⟨hs1, _⟩ := ER_s r3
  have c1 := r3.1
  have b4 : sI σm1 4 = 0 := c1.2.2.2.2.1
  have b4' : sI (uI σm1 1 (zI s1)) 4 = 0 := c1.2.2.2.2.1
  have y1 : sI (uI σm1 1 (zI s1)) 1 = zI s1 := rfl
  rw [r1, bd_s, if_neg (by decide), r2, bp_s, if_pos b4, (SY_look c1).1, bd_s]
  have e60 : (60 : Int32) = zI (60 : Nat) := rfl
  have e61 : (61 : Int32) = zI (61 : Nat) := rfl
  have e62 : (62 : Int32) = zI (62 : Nat) := rfl
  by_cases c : s1 < n ∧ (b s1 = 60 ∨ b s1 = 62 ∨ b s1 = 61)
  · -- one of the three signs
    have go : ∀ cc v : Nat, (cc = 60 ∧ v = 13) ∨ (cc = 62 ∧ v = 14) ∨ (cc = 61 ∧ v = 15) → b s1 = cc → oFact b n ee bs dp k L W s (xCmp_74 (zI dp) (zI (xC v)) σx1) (bp (f_M_fact_63 (zI cc) (uI σm1 1 (zI s1))) (TF (q + 1))) σx σm := by
      intro cc v hcv hb
      have hcc : cc = 60 ∨ cc = 62 ∨ cc = 61 := by omega
      obtain ⟨σx2, s2, st2, z1, z2, z3, z4, z5, z6⟩ := t_sign' c1 (sg_e (c := cc) (by omega)) ⟨c.1, hb⟩
      have o2 : oS [1, 3] [] [] [] σm1 (uI σm1 1 (zI (s1 + 1 : Nat))) := oS_uI (by decide) oS_r
      have h2' := ER_w r3 z4 z5 o2 (by omega)
      have h2 : ER b n (ee + 1) bs dp (L ++ C) (L ++ C) (List.replicate k 18 ++ W) s2 st2 σx2 (uI σm1 1 (zI (s1 + 1 : Nat))) := by
        have q1 := r3.2.2.2.2.2.2.1
        obtain ⟨d1, d2, d3, d4, d5, d6, d7, d8⟩ := h2'
        exact ⟨d1, d2, d3, d4, d5, d6, by omega, d8⟩
      have body : ∀ x : Int32, bp (f_M_fact_63 (zI cc) (uI σm1 1 (zI s1))) (TF (q + 1)) = bp (bp (f_M_sumsTold (uI σm1 1 (zI (s1 + 1 : Nat)))) fun σ_3 => f_M_code (zI v) σ_3) (TF (q + 1)) := by
        intro _
        unfold f_M_fact_63 f_M_fact_102
        rw [y1, zS, lt_s', uI_uI]
        congr 1
        congr 1
        funext σ_3
        have un : ∀ x σ, (bp (f_M_code x σ) fun σ_2 => some σ_2) = f_M_code x σ := by
          intro x σ
          cases f_M_code x σ <;> rfl
        rw [un, un, un]
        rcases hcv with ⟨rfl, rfl⟩ | ⟨rfl, rfl⟩ | ⟨rfl, rfl⟩
        · rw [if_pos (by rfl)]
          rfl
        · rw [if_neg (by decide), if_pos (by rfl)]
          rfl
        · rw [if_neg (by decide), if_neg (by decide)]
          rfl
      rw [body 0]
      unfold xCmp_74
      rw [z2, bp_s]
      rcases t_sums hd h2 (hd_r ha) with ⟨D, σx3, σm3, s3, st3, u1, u2, u3, u4, u5, u6, u7⟩ | hF
      · have hl3 := u3.2.2.2.2.2.2.1
        obtain ⟨hs3, _⟩ := ER_s u3
        have u3' : ER b n ee bs dp (L ++ C ++ D) (L ++ C ++ D) (List.replicate k 18 ++ W) s3 st3 σx3 σm3 := by
          obtain ⟨d1, d2, d3, d4, d5, d6, d7, d8⟩ := u3
          exact ⟨d1, d2, d3, d4, d5, d6, by omega, d8⟩
        obtain ⟨σx4, σm4, v1, v2, v3, v4, v5⟩ := ER_code (c := v) u3' (by omega)
        obtain ⟨σm5, g1, g2, g3⟩ := fin_fact (q := q + 1) v3 hh ha hk hd
        rw [u1, bd_s, if_neg (by decide), v1, bp_s, u2, bp_s, v2, bp_s, g1]
        have eC : L ++ (C ++ D ++ [v]) = L ++ C ++ D ++ [v] := by simp
        refine .inl ⟨C ++ D ++ [v], q + 1, FU, σx4, σm5, s3, st3, rfl, rfl, by rw [eC]; exact g2, tyB_c (tyN_m r4 (Nat.le_refl _)) u4 (by omega) (by omega), xK_t r5 (xK_t (xK_s z5) (xK_t u5 v4)), eK_t (eK_1 o0) (eK_t r6 (eK_t (eK_1 o2) (eK_t u6 (eK_t v5 g3)))), by omega, by omega, hFU _⟩
      · obtain ⟨f, pl, σx', σm', f1, f2, f3, f4, f5⟩ := hF
        obtain ⟨σm4, k1, k2, k3⟩ := m_codeB (x := zI v) f3.2
        have fl : FL f pl σx' σm4 := FL_o f3.1 (oS_r (I := []) (J := []) (A := []) (B := [])) k2 (by decide) (by decide) (by decide) (by decide)
        have hb := FL_bad fl
        rw [f1, bd_s, if_pos rfl, f2, bp_s, k1, bp_s, TF_bad hb]
        exact .inr ⟨f, pl, σx', σm4, rfl, rfl, fl, xF_t (xK_F (xK_t r5 (xK_s z5))) f4, eF_t (eK_t (eK_1 o0) (eK_t r6 (eK_1 o2))).1 (eF_t f5 (eO_F ⟨oS_w k2 (by decide) (by decide) (by decide) (by decide), k3⟩))⟩
    have mfact : ∀ cc : Nat, (cc = 60 ∨ cc = 62 ∨ cc = 61) → b s1 = cc → (if zI (chA b n s1) = 60 then f_M_fact_63 (zI (chA b n s1)) (uI σm1 1 (zI s1)) else if zI (chA b n s1) = 62 then f_M_fact_63 (zI (chA b n s1)) (uI σm1 1 (zI s1)) else if zI (chA b n s1) = 61 then f_M_fact_63 (zI (chA b n s1)) (uI σm1 1 (zI s1)) else bp (f_M_fail 1 (sI (uI σm1 1 (zI s1)) 1) (uI σm1 1 (zI s1))) fun σ_10 => some σ_10) = f_M_fact_63 (zI cc) (uI σm1 1 (zI s1)) := by
      intro cc hcc hb
      rw [ch_eq ⟨c.1, hb⟩]
      rcases hcc with rfl | rfl | rfl
      · rw [if_pos (by rfl)]
      · rw [if_neg (by decide), if_pos (by rfl)]
      · rw [if_neg (by decide), if_neg (by decide), if_pos (by rfl)]
    unfold xCmp_49
    rcases c.2 with hb | hb | hb
    · have i1 : f_Reader_isSign 60 σx1 = some 1 := (x_isSign c1.1 c1.2.2.1 (sg_e (c := 60) (by omega))).1 ⟨c.1, hb⟩
      rw [mfact 60 (by omega) hb, i1, bp_s, if_neg (by decide), if_neg (by decide)]
      exact go 60 13 (by omega) hb
    · have i1 : f_Reader_isSign 60 σx1 = some 0 := x_noSign (c := 60) c1 (sg_e (by omega)) (by omega)
      have i2 : f_Reader_isSign 62 σx1 = some 1 := (x_isSign c1.1 c1.2.2.1 (sg_e (c := 62) (by omega))).1 ⟨c.1, hb⟩
      rw [mfact 62 (by omega) hb, i1, bp_s, if_pos rfl, i2, bp_s, if_neg (by decide), if_neg (by decide)]
      exact go 62 14 (by omega) hb
    · have i1 : f_Reader_isSign 60 σx1 = some 0 := x_noSign (c := 60) c1 (sg_e (by omega)) (by omega)
      have i2 : f_Reader_isSign 62 σx1 = some 0 := x_noSign (c := 62) c1 (sg_e (by omega)) (by omega)
      have i3 : f_Reader_isSign 61 σx1 = some 1 := (x_isSign c1.1 c1.2.2.1 (sg_e (c := 61) (by omega))).1 ⟨c.1, hb⟩
      rw [mfact 61 (by omega) hb, i1, bp_s, if_pos rfl, i2, bp_s, if_pos rfl, if_pos rfl, i3, bp_s, if_neg (by decide)]
      exact go 61 15 (by omega) hb
  · have i1 : f_Reader_isSign 60 σx1 = some 0 := x_noSign (c := 60) c1 (sg_e (by omega)) (by omega)
    have i2 : f_Reader_isSign 62 σx1 = some 0 := x_noSign (c := 62) c1 (sg_e (by omega)) (by omega)
    have i3 : f_Reader_isSign 61 σx1 = some 0 := x_noSign (c := 61) c1 (sg_e (by omega)) (by omega)
    have hbad : ¬ sI (uI (uI (uI σm1 1 (zI s1)) 4 1) 5 (zI s1)) 4 = 0 := (show ¬ ((1 : Int32) = 0) by decide)
    unfold xCmp_49
    rw [i1, bp_s, if_pos rfl, i2, bp_s, if_pos rfl, if_pos rfl, i3, bp_s, if_pos rfl, x_wrong c1.2.2.1, bd_s]
    rw [e60, if_neg (ch_ne c1.1.2.2.2 (by omega) (by omega)), e62, if_neg (ch_ne c1.1.2.2.2 (by omega) (by omega)), e61, if_neg (ch_ne c1.1.2.2.2 (by omega) (by omega)), y1, m_fail _ _ b4', bp_s, bp_s, TF_bad hbad]
    exact .inr ⟨1, s1, _, _, rfl, rfl, ⟨by omega, by omega, rfl, rfl, rfl, rfl⟩, xF_t (xK_F r5) (oS_uI (by decide) (oS_uI (by decide) oS_r)), eF_t (eK_t (eK_1 o0) r6).1 (eF_i (I := [1, 4, 5]) (oS_uI (by decide) (oS_uI (by decide) (oS_uI (by decide) oS_r))) (by decide))⟩
end
