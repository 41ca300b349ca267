-- ===== facts =====
theorem m_codeB {x : Int32} {σ : St} (h : cB σ) : ∃ σ1, f_M_code x σ = some σ1 ∧ oS [10] [] [6] [] σ σ1 ∧ (∀ k, sA σ1 6 (1600 + k) = sA σ 6 (1600 + k)) := by
  obtain ⟨c, hc, h⟩ := h
  have e0 : (0 + zI (c : Int) : Int32) = zI (c : Int) := by
    rw [zI_lit, zI_add]
    congr 1
    omega
  refine ⟨uI (uA σ 6 (upd (sA σ 6) c x)) 10 (zI (c + 1 : Nat)), ?_, oS_uI (by decide) (oS_uA (by decide) oS_r), fun k => ?_⟩
  · unfold f_M_code
    have y : ∀ f, sI (uA σ 6 f) 10 = zI c := fun f => h
    rw [h, e0, zI_in (by omega) (by omega) (by omega), gd_t, zI_cl (by omega) (by omega), Int.toNat_natCast, lt_s', y, zS, lt_s']
  · show upd (sA σ 6) c x (1600 + k) = _
    rw [upd_e, if_neg (by omega)]
/-- both have failed, in a test -/
def oF2 (r : Option (Int32 × St)) (m : Option St) (σx σm : St) : Prop := ∃ (f pl : Nat) (σx' σm' : St), r = some (0, σx') ∧ m = some σm' ∧ FL f pl σx' σm' ∧ xF σx σx' ∧ eF σm σm'
theorem oF2_t {r : Option (Int32 × St)} {m : Option St} {σx σm σx1 σm1 : St} (hx : xK σx σx1) (hm : eK σm σm1) (h : oF2 r m σx1 σm1) : oF2 r m σx σm := by
  obtain ⟨f, pl, σx', σm', h1, h2, h3, h4, h5⟩ := h
  exact ⟨f, pl, σx', σm', h1, h2, h3, xF_t (xK_F hx) h4, eF_t hm.1 h5⟩
theorem oF2_m {r r' : Option (Int32 × St)} {m m' : Option St} {σx σm : St} (h : oF2 r m σx σm) (hr : ∀ σ, r = some (0, σ) → r' = some (0, σ)) (hm : m' = m) : oF2 r' m' σx σm := by
  obtain ⟨f, pl, σx', σm', h1, h2, h3, h4, h5⟩ := h
  exact ⟨f, pl, σx', σm', hr _ h1, hm.trans h2, h3, h4, h5⟩
theorem oF2_o {r : Option (Int32 × St)} {m : Option St} {σx σm : St} (h : oFail r m σx σm) : oF2 r m σx σm := by
  obtain ⟨f, pl, σx', σm', h1, h2, h3, h4, h5⟩ := h
  exact ⟨f, pl, σx', σm', h1, h2, h3.1, h4, h5⟩
theorem FL_bad {f pl : Nat} {σx σm : St} (h : FL f pl σx σm) : ¬ sI σm 4 = 0 := by
  obtain ⟨h1, h2, h3, h4, h5, h6⟩ := h
  have e0 : (0 : Int32) = zI (0 : Nat) := rfl
  rw [h5, e0, zI_eq (by omega) (by omega) (by omega) (by omega)]
  omega
theorem FL_o {f pl : Nat} {σx σm σx' σm' : St} {I J A B I' J' A' B' : List Nat} (h : FL f pl σx σm) (o : oS I J A B σx σx') (o' : oS I' J' A' B' σm σm') (h4 : 4 ∉ I) (h5 : 5 ∉ I) (h4' : 4 ∉ I') (h5' : 5 ∉ I') : FL f pl σx' σm' := by
  obtain ⟨g1, g2, g3, g4, g5, g6⟩ := h
  exact ⟨g1, g2, by rw [o.1 4 h4]; exact g3, by rw [o.1 5 h5]; exact g4, by rw [o'.1 4 h4']; exact g5, by rw [o'.1 5 h5']; exact g6⟩
section
variable {b : Nat → Nat} {n ee : Nat}
def oFact (b : Nat → Nat) (n ee bs dp k : Nat) (L W : List Nat) (s : Nat) (r : Option (Int32 × St)) (m : Option St) (σx σm : St) : Prop := (∃ (C : List Nat) (q' g' : Nat) (σx' σm' : St) (s' : Nat) (st' : Bool), r = some (1, σx') ∧ m = TE q' g' σm' ∧ ER b n ee bs (dp - k) (L ++ C) (L ++ C ++ List.replicate k 18) W s' st' σx' σm' ∧ tyB (4 + 3 * (6 - dp)) C ∧ xK σx σx' ∧ eK σm σm' ∧ s < s' ∧ n + 2 ≤ s' + q' ∧ n + 2 ≤ s' + g') ∨ oF2 r m σx σm
def FactOK (b : Nat → Nat) (n ee : Nat) (kT : Int32 → St → Option (Int32 × St)) (dp : Nat) : Prop := ∀ (q bs k : Nat) (L W : List Nat) (s : Nat) (st : Bool) (σx σm : St), W.head? ≠ some 18 → aW W → k ≤ dp → ER b n ee bs dp L L (List.replicate k 18 ++ W) s st σx σm → n + 2 ≤ s + q → oFact b n ee bs dp k L W s (kT (zI dp) σx) (f_M_test_2 q 1 σm) σx σm
theorem aW_r {k : Nat} {W : List Nat} (h : aW W) : aW (List.replicate k 18 ++ W) := by
  intro v hv
  rcases List.mem_append.mp hv with hv | hv
  · have := List.eq_of_mem_replicate hv
    omega
  · exact h v hv
/-- a fact stands: its nots are dropped -/
theorem fin_fact {bs dp k q s : Nat} {L W : List Nat} {st : Bool} {σx σm : St} (h : ER b n ee bs dp L L (List.replicate k 18 ++ W) s st σx σm) (hh : W.head? ≠ some 18) (ha : aW W) (hk : k ≤ dp) (hd : dp ≤ 6) : ∃ σm', TF q σm = TE q FU σm' ∧ ER b n ee bs (dp - k) L (L ++ List.replicate k 18) W s st σx σm' ∧ eK σm σm' := by
  obtain ⟨hs, hn⟩ := ER_s h
  obtain ⟨a1, a2, a3, a4, a5, a6, a7, a8⟩ := h
  have hlr : (List.replicate k 18 ++ W).length = k + W.length := by rw [List.length_append, List.length_replicate]
  obtain ⟨σ3, n1, n2, n3, n4, n5⟩ := m_nots hh k L FU dp σm (FU_gt (by omega)) hk hd (aW_r ha) (by omega) (by omega) a4 a3 a6 a1.2.2.2.2.1
  have S3 : SY b n s st σx σ3 := SY_o a1 (oS_r (I := []) (J := []) (A := []) (B := [])) n5.1 (by decide) (by decide) (by decide) (by decide)
  refine ⟨σ3, ?_, ⟨S3, a2, n3, n2, by rw [n5.1.1 13 (by decide)]; exact a5, n4, by rw [List.length_append, List.length_replicate]; omega, fun v hv => a8 v (by simp [hv])⟩, eK_T n5⟩
  unfold TF
  have dn : f_M_dropsNots σm = some σ3 := n1
  rw [dn, bp_s, if_pos S3.2.2.2.2.1]
/-- behind a token: one code more on both sides -/
theorem ER_code {bs dp s c : Nat} {L W : List Nat} {st : Bool} {σx σm : St} (h : ER b n ee bs dp L L W s st σx σm) (hl : L.length + W.length + 2 + ee < s) : ∃ σx' σm', f_Fair_emit (zI (xC c)) σx = some σx' ∧ f_M_code (zI c) σm = some σm' ∧ ER b n ee bs dp (L ++ [c]) (L ++ [c]) W s st σx' σm' ∧ xK σx σx' ∧ eK σm σm' := by
  obtain ⟨hs, hn⟩ := ER_s h
  obtain ⟨d1, d2, d3, d4, d5, d6, d7, d8⟩ := h
  obtain ⟨σx2, y1, y2, y3⟩ := x_emit (c := c) d2 (by omega)
  obtain ⟨σm2, k1, k2, k3, k4⟩ := m_code (c := c) d3 (by omega)
  refine ⟨σx2, σm2, y1, k1, ⟨SY_o d1 y3 k3 (by decide) (by decide) (by decide) (by decide), y2, k2, wtM_o d4 k3 (by decide) (by decide), by rw [k3.1 13 (by decide)]; exact d5, by rw [k3.1 12 (by decide)]; exact d6, ?_, d8⟩, xK_e y3, eK_o ⟨oS_w k3 (by decide) (by decide) (by decide) (by decide), k4⟩⟩
  rw [List.length_append]
  show L.length + 1 + W.length + 1 + ee < s
  omega
/-- opening a square, or not -/
theorem mt_sq {bs dp s q : Nat} {L Lm W : List Nat} {st : Bool} {σx σm : St} (h : ER b n ee bs dp L Lm W s st σx σm) (hb : s < n ∧ b s = 91) (hd : dp < 6) (hq : n + 2 ≤ s + q) : ∃ q' σx' σm' s' st', f_Reader_isSign (zI (91 : Nat)) σx = some 1 ∧ f_Reader_step σx = some σx' ∧ f_M_test_2 q 1 σm = f_M_test_2 q' 1 σm' ∧ ER b n ee bs (dp + 1) L Lm (25 :: W) s' st' σx' σm' ∧ xK σx σx' ∧ eK σm σm' ∧ s < s' ∧ n + 2 ≤ s' + q' := by
  obtain ⟨hs, hn⟩ := ER_s h
  obtain ⟨a1, a2, a3, a4, a5, a6, a7, a8⟩ := h
  obtain ⟨q, rfl⟩ : ∃ r, q = r + 1 := ⟨q - 1, by omega⟩
  obtain ⟨σx', s', st', z1, z2, z3, z4, z5, z6⟩ := t_sign' a1 (sg_e (c := 91) (by omega)) hb
  have hs' := z4.2.2.1.2.2.1.1
  have a4' : wtM W (uI σm 1 (zI s)) := a4
  obtain ⟨σ1, c1, c2, c3, c4⟩ := m_opens (v := 25) (x := zI s) a4' a6 (by omega) hd
  have o1 : oS [11, 12] [] [7] [] (uI σm 1 (zI (s + 1 : Nat))) (uI σ1 1 (zI (s + 1 : Nat))) := by
    obtain ⟨u1, u2, u3, u4⟩ := c4
    refine ⟨fun k hk => ?_, fun k hk => u2 k hk, fun k hk => u3 k hk, fun k hk => u4 k hk⟩
    by_cases q : k = 1
    · subst q; rfl
    · rw [sI_uI, sI_uI, if_neg (by omega), if_neg (by omega), u1 k hk, sI_uI, if_neg (by omega)]
  have o2 : oS [1, 3] [] [] [] σm (uI σm 1 (zI (s + 1 : Nat))) := oS_uI (by decide) oS_r
  refine ⟨q, σx', uI σ1 1 (zI (s + 1 : Nat)), s', st', z1, z2, ?_, ⟨SY_o z4 (oS_r (I := []) (J := []) (A := []) (B := [])) o1 (by decide) (by decide) (by decide) (by decide), cX_o a2 z5 (by decide) (by decide), cM_o (cM_o a3 o2 (by decide) (by decide)) o1 (by decide) (by decide), c2, ?_, c3, by rw [List.length_cons]; omega, ?_⟩, xK_s z5, eK_t (eK_1 o2) ⟨eF_o o1 (by decide), o1.1 5 (by decide)⟩, z6, by omega⟩
  · show f_M_test_2b (f_M_test_2 q) 1 σm = _
    unfold f_M_test_2b
    have y1 : sI (uI σm 1 (zI s)) 1 = zI s := rfl
    have y2 : sI σ1 1 = zI s := by rw [c4.1 1 (by decide)]; rfl
    have c1' : f_M_opens 25 (zI s) (uI σm 1 (zI s)) = some σ1 := c1
    rw [if_neg (by decide), if_pos a1.2.2.2.2.1, (SY_look a1).1, bd_s, ch_eq hb, if_pos (by rfl), y1, c1', bp_s, y2, zS, lt_s']
  · rw [o1.1 13 (by decide)]
    exact a5
  · intro u hu
    rcases List.mem_cons.mp hu with e | e
    · omega
    · exact a8 u e
theorem mt_sqDeep {bs dp s q : Nat} {L Lm W : List Nat} {st : Bool} {σx σm : St} (h : ER b n ee bs dp L Lm W s st σx σm) (hb : s < n ∧ b s = 91) (hd : dp = 6) (hq : n + 2 ≤ s + q) : ∃ σm', f_M_test_2 q 1 σm = some σm' ∧ FL 4 s (uI (uI σx 4 4) 5 (zI s)) σm' ∧ eF σm σm' := by
  obtain ⟨hs, hn⟩ := ER_s h
  obtain ⟨a1, a2, a3, a4, a5, a6, a7, a8⟩ := h
  obtain ⟨q, rfl⟩ : ∃ r, q = r + 1 + 1 := ⟨q - 2, by omega⟩
  have b4 : sI (uI σm 1 (zI s)) 4 = 0 := a1.2.2.2.2.1
  refine ⟨uI (uI (uI (uI σm 1 (zI s)) 4 4) 5 (zI s)) 1 (zI (s + 1 : Nat)), ?_, ⟨by omega, by omega, rfl, rfl, rfl, rfl⟩, eF_i (I := [1, 4, 5]) (oS_uI (by decide) (oS_uI (by decide) (oS_uI (by decide) (oS_uI (by decide) oS_r)))) (by decide)⟩
  show f_M_test_2b (f_M_test_2 (q + 1)) 1 σm = _
  unfold f_M_test_2b
  have y1 : sI (uI σm 1 (zI s)) 1 = zI s := rfl
  have y2 : sI (uI (uI (uI σm 1 (zI s)) 4 4) 5 (zI s)) 1 = zI s := rfl
  have h12 : sI (uI σm 1 (zI s)) 12 = zI dp := a6
  rw [if_neg (by decide), if_pos a1.2.2.2.2.1, (SY_look a1).1, bd_s, ch_eq hb, if_pos (by rfl), y1, m_deep h12 b4 hd, bp_s, y2, zS, lt_s']
  refine (T_bad ?_).2
  exact (show ¬ ((4 : Int32) = 0) by decide)
theorem mt_not {bs dp s q : Nat} {L Lm W : List Nat} {st : Bool} {σx σm : St} (h : ER b n ee bs dp L Lm W s st σx σm) (hw : kd b n s st = 1 ∧ wAt b n s 23) (hd : dp < 6) (hq : n + 2 ≤ s + q) : ∃ q' σx' σm' s' st', f_Reader_isWord (zI (23 : Nat)) σx = some 1 ∧ f_Reader_step σx = some σx' ∧ f_M_test_2 q 1 σm = f_M_test_2 q' 1 σm' ∧ ER b n ee bs (dp + 1) L Lm (18 :: W) s' st' σx' σm' ∧ xK σx σx' ∧ eK σm σm' ∧ s < s' ∧ n + 2 ≤ s' + q' := by
  obtain ⟨hs, hn⟩ := ER_s h
  obtain ⟨a1, a2, a3, a4, a5, a6, a7, a8⟩ := h
  obtain ⟨q, rfl⟩ : ∃ r, q = r + 1 := ⟨q - 1, by omega⟩
  have a4' : wtM W (uI σm 1 (zI s)) := a4
  obtain ⟨σ1, c1, c2, c3, c4⟩ := m_opens (v := 18) (x := zI s) a4' a6 (by omega) hd
  have S1 : SY b n s st σx σ1 := SY_o (SY_look a1).2 (oS_r (I := []) (J := []) (A := []) (B := [])) c4 (by decide) (by decide) (by decide) (by decide)
  have o0 : oS [1, 3] [] [] [] σm (uI σm 1 (zI s)) := oS_uI (by decide) oS_r
  rcases t_word S1 (show 23 < 27 by omega) with ⟨σx', σm', s', st', w1, w2, w3, w4, w5, w6, w7, w8, _⟩ | ⟨_, _, _, _, hno⟩
  · have hs' := w5.2.2.1.2.2.1.1
    have here := (t_word' a1 (show 23 < 27 by omega) hw)
    obtain ⟨_, _, _, _, _, _, _, i4, _⟩ := here
    refine ⟨q, σx', σm', s', st', w1, w2, ?_, ⟨w5, cX_o a2 w6 (by decide) (by decide), cM_o (cM_o (cM_o a3 o0 (by decide) (by decide)) c4 (by decide) (by decide)) w7 (by decide) (by decide), wtM_o c2 w7 (by decide) (by decide), ?_, by rw [w7.1 12 (by decide)]; exact c3, by rw [List.length_cons]; omega, ?_⟩, xK_s w6, eK_t (eK_1 o0) (eK_t ⟨eF_o c4 (by decide), c4.1 5 (by decide)⟩ (eK_1 w7)), w8, by omega⟩
    · show f_M_test_2b (f_M_test_2 q) 1 σm = _
      unfold f_M_test_2b f_M_asks
      have y1 : sI (uI σm 1 (zI s)) 1 = zI s := rfl
      have e91 : (91 : Int32) = zI (91 : Nat) := rfl
      have c1' : f_M_opens 18 (zI s) (uI σm 1 (zI s)) = some σ1 := c1
      rw [if_neg (by decide), if_pos a1.2.2.2.2.1, (SY_look a1).1, bd_s, e91, if_neg (ch_ne a1.1.2.2.2 (by omega) (kd1_ns hw.1 (sg_e (by omega)))), i4, bd_s, if_neg (by decide), y1, c1', bp_s, if_pos S1.2.2.2.2.1, w4, bd_s, if_neg (by decide), bp_s]
    · rw [w7.1 13 (by decide), c4.1 13 (by decide)]
      exact a5
    · intro u hu
      rcases List.mem_cons.mp hu with e | e
      · omega
      · exact a8 u e
  · exact absurd hw hno
theorem mt_notDeep {bs dp s q : Nat} {L Lm W : List Nat} {st : Bool} {σx σm : St} (h : ER b n ee bs dp L Lm W s st σx σm) (hw : kd b n s st = 1 ∧ wAt b n s 23) (hd : dp = 6) (hq : n + 2 ≤ s + q) : ∃ σm', f_M_test_2 q 1 σm = some σm' ∧ FL 4 s (uI (uI σx 4 4) 5 (zI s)) σm' ∧ eF σm σm' := by
  obtain ⟨hs, hn⟩ := ER_s h
  obtain ⟨a1, a2, a3, a4, a5, a6, a7, a8⟩ := h
  obtain ⟨q, rfl⟩ : ∃ r, q = r + 1 + 1 := ⟨q - 2, by omega⟩
  have b4 : sI (uI σm 1 (zI s)) 4 = 0 := a1.2.2.2.2.1
  obtain ⟨_, _, _, _, _, _, _, i4, _⟩ := t_word' a1 (show 23 < 27 by omega) hw
  refine ⟨uI (uI (uI σm 1 (zI s)) 4 4) 5 (zI s), ?_, ⟨by omega, by omega, rfl, rfl, rfl, rfl⟩, eF_i (I := [1, 4, 5]) (oS_uI (by decide) (oS_uI (by decide) (oS_uI (by decide) oS_r))) (by decide)⟩
  show f_M_test_2b (f_M_test_2 (q + 1)) 1 σm = _
  unfold f_M_test_2b f_M_asks
  have y1 : sI (uI σm 1 (zI s)) 1 = zI s := rfl
  have e91 : (91 : Int32) = zI (91 : Nat) := rfl
  have h12 : sI (uI σm 1 (zI s)) 12 = zI dp := a6
  rw [if_neg (by decide), if_pos a1.2.2.2.2.1, (SY_look a1).1, bd_s, e91, if_neg (ch_ne a1.1.2.2.2 (by omega) (kd1_ns hw.1 (sg_e (by omega)))), i4, bd_s, if_neg (by decide), y1, m_deep h12 b4 hd, bp_s, if_neg (show ¬ (sI (uI (uI (uI σm 1 (zI s)) 4 4) 5 (zI s)) 4 = 0) from (show ¬ ((4 : Int32) = 0) by decide)), bp_s]
  refine (T_bad ?_).2
  exact (show ¬ ((4 : Int32) = 0) by decide)
/-- neither not nor a square -/
theorem mt_fact {s q : Nat} {st : Bool} {σx σm : St} (a1 : SY b n s st σx σm) (h91 : ¬ (s < n ∧ b s = 91)) (h23 : ¬ (kd b n s st = 1 ∧ wAt b n s 23)) : f_M_test_2 (q + 1) 1 σm = bp (f_M_fact (uI σm 1 (zI s))) (TF q) := by
  show f_M_test_2b (f_M_test_2 q) 1 σm = _
  unfold f_M_test_2b TF TE f_M_goesOnTest
  have e91 : (91 : Int32) = zI (91 : Nat) := rfl
  rw [if_neg (by decide), if_pos a1.2.2.2.2.1, (SY_look a1).1, bd_s, e91, if_neg (ch_ne a1.1.2.2.2 (by omega) h91), (no_take a1 (by omega) h23).2, bd_s, if_pos rfl]
end
