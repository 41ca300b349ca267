def sW (i : Nat) : Nat := [11, 14, 12, 13, 15, 16].getD i 0
theorem sW_x : ∀ i : Fin 6, stV 5 (zI (i.val : Nat)) = zI (sW i.val : Nat) ∧ sW i.val < 27 ∧ sW i.val = 11 + tI i.val := by decide
def uS (u : Nat → Nat) (i v : Nat) : Nat → Nat := fun k => if k = i then v else u k
theorem xD_set {d : FD} {u : Nat → Nat} {R : Nat} {E : Nat → Nat} {L : List Nat} {σ : St} {i v : Nat} (hx : xD d u R E L σ) : xD d (uS u i v) R E L (uA σ 6 (upd (sA σ 6) i (zI v))) := by
  obtain ⟨h1, h2, h3, h4, h5, h6, h7⟩ := hx
  refine ⟨h1, h2, h3, fun k hk => ?_, h5, h6, h7⟩
  show upd (sA σ 6) i (zI v) k = zI (if k = i then v else u k : Nat)
  rw [upd_e]
  by_cases e : k = i
  · rw [if_pos e, if_pos e]
  · rw [if_neg e, if_neg e]; exact h4 k hk
theorem mD_set {d : FD} {u : Nat → Nat} {R : Nat} {E : Nat → Nat} {L : List Nat} {σ : St} {i v : Nat} (hx : mD d u R E L σ) (hi : i < 9) : mD d (uS u i v) R E L (uA σ 5 (upd (sA σ 5) (tI i) (zI v))) := by
  obtain ⟨h1, h2, h3, h4, h5, h6, h7⟩ := hx
  refine ⟨h1, h2, h3, fun k hk => ?_, h5, h6, h7⟩
  show upd (sA σ 5) (tI i) (zI v) (tI k) = zI (if k = i then v else u k : Nat)
  rw [upd_e]
  by_cases e : k = i
  · rw [if_pos (by rw [e]), if_pos e]
  · rw [if_neg (fun g => e (congrArg Fin.val (tI_i ⟨k, hk⟩ ⟨i, hi⟩ g))), if_neg e]; exact h4 k hk
theorem wf_set {d : FD} {u : Nat → Nat} {R : Nat} {E : Nat → Nat} {L : List Nat} {s i v : Nat} (h : wfDr d u R E L s) (h1 : sLo i ≤ v) (h2 : v ≤ sHi i) : wfDr d (uS u i v) R E L s := by
  refine ⟨h.1, fun k hk => ?_, h.2.2⟩
  show sLo k ≤ (if k = i then v else u k) ∧ (if k = i then v else u k) ≤ sHi k
  by_cases e : k = i
  · rw [if_pos e, e]; exact ⟨h1, h2⟩
  · rw [if_neg e]; exact h.2.1 k hk
section
variable {b : Nat → Nat} {n : Nat}
theorem p_set {d : FD} {u : Nat → Nat} {R : Nat} {E : Nat → Nat} {L : List Nat} {s i : Nat} {st : Bool} {σx σm : St} (h : SY b n s st σx σm) (hx : xD d u R E L σx) (hi : i < 9) : (∃ (v : Nat) (σx' σm' : St) (s' : Nat) (st' : Bool), f_Parser_readSetting (zI i) σx = some (1, σx') ∧ f_M_number (zI (sLo i : Nat)) (zI (sHi i : Nat)) σm = some (zI v, σm') ∧ SY b n s' st' σx' σm' ∧ xD d (uS u i v) R E L σx' ∧ oS [7, 8, 9, 10, 11] [] [6] [] σx σx' ∧ oS [1, 3] [] [] [] σm σm' ∧ s < s' ∧ sLo i ≤ v ∧ v ≤ sHi i) ∨ (∃ (f pl : Nat) (r : Int32) (σx' σm' : St), f_Parser_readSetting (zI i) σx = some (0, σx') ∧ f_M_number (zI (sLo i : Nat)) (zI (sHi i : Nat)) σm = some (r, σm') ∧ FL f pl σx' σm' ∧ oS [4, 5] [] [] [] σx σx' ∧ oS [1, 3, 4, 5] [] [] [] σm σm') := by
  have hL := sL_x ⟨i, hi⟩
  have l1 : stV 3 (zI (i : Int)) = zI (sLo i : Nat) := hL.1
  have l2 : stV 4 (zI (i : Int)) = zI (sHi i : Nat) := hL.2.1
  have l3 : sLo i ≤ 9999 := hL.2.2.1
  have l4 : sHi i ≤ 9999 := hL.2.2.2
  unfold f_Parser_readSetting
  rw [zI_in (a := i) (n := 9) (by omega) (by omega) (by omega), gd_t, gd_t, l1, l2, zI_cl (by omega) (by omega), Int.toNat_natCast]
  rcases t_number h l3 l4 with ⟨g, σx4, σm4, s4, st4, p1, p2, p3, p4, p5, p6, p7, p8, p9⟩ | ⟨f, pl, r, σx4, σm4, p1, p2, p3, p4, p5⟩
  · left
    refine ⟨g, uA σx4 6 (upd (sA σx4 6) i (zI g)), σm4, s4, st4, ?_, p2, ?_, xD_set (xD_o hx p4 (by decide) (by decide)), oS_uA (by decide) (oS_w p4 (by decide) (by decide) (by decide) (by decide)), p5, p6, p7, p8⟩
    · rw [p1, bd_s, m1_e, if_neg (by rw [zI_eq (by omega) (by omega) (by omega) (by omega)]; omega), gd_t]
      rfl
    · exact SY_o p3 (oS_uA (I := []) (J := []) (A := [6]) (B := []) (by decide) oS_r) (oS_r (I := []) (J := []) (A := []) (B := [])) (by decide) (by decide) (by decide) (by decide)
  · right
    refine ⟨f, pl, r, σx4, σm4, ?_, p2, p3, p4, p5⟩
    rw [p1, bd_s, m1_e, if_pos rfl]
theorem x_set {s : Nat} {st : Bool} {σx σm : St} (a1 : SY b n s st σx σm) : ∀ (m i q : Nat), i + m = 6 → m < q → (∃ j, i ≤ j ∧ j < 6 ∧ (kd b n s st = 1 ∧ wAt b n s (sW j)) ∧ f_Parser_readStatement_126 q (zI i) σx = bp (f_Reader_step σx) fun σ_10 => bd (f_Parser_readSetting (zI j) σ_10) fun r_12 σ_13 => gd (isB r_12) <| some (r_12, σ_13)) ∨ ((∀ j, i ≤ j → j < 6 → ¬ (kd b n s st = 1 ∧ wAt b n s (sW j))) ∧ f_Parser_readStatement_126 q (zI i) σx = some (0, uI (uI σx 4 1) 5 (zI s))) := by
  have e6 : (6 : Int32) = zI (6 : Nat) := rfl
  intro m
  induction m with
  | zero =>
    intro i q h1 h2
    obtain ⟨q, rfl⟩ : ∃ r, q = r + 1 := ⟨q - 1, by omega⟩
    refine .inr ⟨fun j h3 h4 => by omega, ?_⟩
    show f_Parser_readStatement_126b (f_Parser_readStatement_126 q) (zI i) σx = _
    unfold f_Parser_readStatement_126b
    rw [e6, if_pos (by rw [zI_le (by omega) (by omega) (by omega) (by omega)]; omega), x_wrong a1.2.2.1, bd_s]
    rfl
  | succ m ih =>
    intro i q h1 h2
    obtain ⟨q, rfl⟩ : ∃ r, q = r + 1 := ⟨q - 1, by omega⟩
    have hf := sW_x ⟨i, by omega⟩
    have hfv : stV 5 (zI (i : Int)) = zI (sW i : Nat) := hf.1
    have hd : f_Parser_readStatement_126 (q + 1) (zI i) σx = bp (f_Reader_isWord (zI (sW i : Nat)) σx) fun r_7 => if r_7 = 0 then f_Parser_readStatement_126 q (zI (i + 1 : Nat)) σx else bp (f_Reader_step σx) fun σ_10 => bd (f_Parser_readSetting (zI i) σ_10) fun r_12 σ_13 => gd (isB r_12) <| some (r_12, σ_13) := by
      show f_Parser_readStatement_126b (f_Parser_readStatement_126 q) (zI i) σx = _
      unfold f_Parser_readStatement_126b
      rw [e6, if_neg (by rw [zI_le (by omega) (by omega) (by omega) (by omega)]; omega), zI_in (by omega) (by omega) (by omega), gd_t, hfv, zS]
      rfl
    rw [hd]
    by_cases c : kd b n s st = 1 ∧ wAt b n s (sW i)
    · refine .inl ⟨i, by omega, by omega, c, ?_⟩
      rw [(x_isWord a1.1.1 a1.2.2.1 a1.2.2.2.2.2 hf.2.1).1 c, bp_s, if_neg (by decide)]
    · rw [x_noWord a1 hf.2.1 c, bp_s, if_pos rfl]
      rcases ih (i + 1) q (by omega) (by omega) with ⟨j, j1, j2, j3, j4⟩ | ⟨j1, j2⟩
      · exact .inl ⟨j, by omega, j2, j3, j4⟩
      · refine .inr ⟨fun j h3 h4 => ?_, j2⟩
        by_cases e : j = i
        · subst e; exact c
        · exact j1 j (by omega) h4
theorem tk_no {s j : Nat} {st : Bool} {σx σm : St} (h : SY b n s st σx σm) (h1 : sI σm 1 = zI s) (hj : j < 27) (hn : ¬ (kd b n s st = 1 ∧ wAt b n s j)) : f_M_takes j σm = some (0, σm) := by
  have := (no_take h hj hn).1
  rw [uI_id h1] at this
  exact this
theorem m_92 (t lo hi : Nat) (h : (t = 0 ∧ lo = 1 ∧ hi = 99) ∨ (t = 1 ∧ lo = 1 ∧ hi = 9) ∨ (t = 2 ∧ lo = 1 ∧ hi = 4) ∨ (t = 3 ∧ lo = 0 ∧ hi = 90) ∨ (t = 4 ∧ lo = 0 ∧ hi = 99) ∨ (t = 5 ∧ lo = 0 ∧ hi = 20)) (σ : St) : f_M_settingTold_92 (zI t) σ = f_M_settingTold_225 (zI hi) (zI lo) (zI t) σ := by
  unfold f_M_settingTold_92 f_M_settingTold_179 f_M_settingTold_184
  rcases h with ⟨rfl, rfl, rfl⟩ | ⟨rfl, rfl, rfl⟩ | ⟨rfl, rfl, rfl⟩ | ⟨rfl, rfl, rfl⟩ | ⟨rfl, rfl, rfl⟩ | ⟨rfl, rfl, rfl⟩
  · rfl
  · rfl
  · rfl
  · rfl
  · rfl
  · rfl

theorem m_set {s t : Nat} {st : Bool} {σx σm σm1 : St} (a1 : SY b n s st σx σm) (h1 : sI σm 1 = zI s) (ht : t < 6) (hw : kd b n s st = 1 ∧ wAt b n s (11 + t)) (hk : f_M_takes (11 + t) σm = some (1, σm1)) : f_M_settingTold σm = f_M_settingTold_92 (zI t) σm1 := by
  have no : ∀ j, j < 27 → j ≠ 11 + t → f_M_takes j σm = some (0, σm) := fun j hj hne => tk_no a1 h1 hj (fun g => hne (wAt_u hj (by omega) g hw.2))
  unfold f_M_settingTold
  have : t = 0 ∨ t = 1 ∨ t = 2 ∨ t = 3 ∨ t = 4 ∨ t = 5 := by omega
  rcases this with rfl | rfl | rfl | rfl | rfl | rfl
  · rw [hk, bd_s, if_neg (by decide)]
    rfl
  · rw [no 11 (by omega) (by omega), bd_s, if_pos rfl, hk, bd_s, if_neg (by decide)]
    rfl
  · rw [no 11 (by omega) (by omega), bd_s, if_pos rfl, no 12 (by omega) (by omega), bd_s, if_pos rfl, hk, bd_s, if_neg (by decide)]
    rfl
  · rw [no 11 (by omega) (by omega), bd_s, if_pos rfl, no 12 (by omega) (by omega), bd_s, if_pos rfl, no 13 (by omega) (by omega), bd_s, if_pos rfl, hk, bd_s, if_neg (by decide)]
    rfl
  · rw [no 11 (by omega) (by omega), bd_s, if_pos rfl, no 12 (by omega) (by omega), bd_s, if_pos rfl, no 13 (by omega) (by omega), bd_s, if_pos rfl, no 14 (by omega) (by omega), bd_s, if_pos rfl, hk, bd_s, if_neg (by decide)]
    rfl
  · rw [no 11 (by omega) (by omega), bd_s, if_pos rfl, no 12 (by omega) (by omega), bd_s, if_pos rfl, no 13 (by omega) (by omega), bd_s, if_pos rfl, no 14 (by omega) (by omega), bd_s, if_pos rfl, no 15 (by omega) (by omega), bd_s, if_pos rfl, hk, bd_s, if_neg (by decide)]
    rfl

theorem m_set6 {s : Nat} {st : Bool} {σx σm : St} (a1 : SY b n s st σx σm) (h1 : sI σm 1 = zI s) (hn : ∀ j, j < 6 → ¬ (kd b n s st = 1 ∧ wAt b n s (11 + j))) : f_M_settingTold σm = f_M_settingTold_92 6 σm := by
  have no : ∀ j, j < 6 → f_M_takes (11 + j) σm = some (0, σm) := fun j hj => tk_no a1 h1 (by omega) (hn j hj)
  have n0 := no 0 (by omega)
  have n1 := no 1 (by omega)
  have n2 := no 2 (by omega)
  have n3 := no 3 (by omega)
  have n4 := no 4 (by omega)
  have n5 := no 5 (by omega)
  unfold f_M_settingTold
  rw [n0, bd_s, if_pos rfl, n1, bd_s, if_pos rfl, n2, bd_s, if_pos rfl, n3, bd_s, if_pos rfl, n4, bd_s, if_pos rfl, n5, bd_s, if_pos rfl]
theorem lm_t : ∀ i : Fin 6, (tI i.val = 0 ∧ sLo i.val = 1 ∧ sHi i.val = 99) ∨ (tI i.val = 1 ∧ sLo i.val = 1 ∧ sHi i.val = 9) ∨ (tI i.val = 2 ∧ sLo i.val = 1 ∧ sHi i.val = 4) ∨ (tI i.val = 3 ∧ sLo i.val = 0 ∧ sHi i.val = 90) ∨ (tI i.val = 4 ∧ sLo i.val = 0 ∧ sHi i.val = 99) ∨ (tI i.val = 5 ∧ sLo i.val = 0 ∧ sHi i.val = 20) := by decide
theorem t_oneSet {d : FD} {u : Nat → Nat} {R : Nat} {E : Nat → Nat} {L : List Nat} {s i : Nat} {st : Bool} {σx σm : St} (h : DR b n d u R E L s st σx σm) (h1 : sI σm 1 = zI s) (hi : i < 6) (hw : kd b n s st = 1 ∧ wAt b n s (sW i)) : oSt b n s (bp (f_Reader_step σx) fun σ_10 => bd (f_Parser_readSetting (zI i) σ_10) fun r_12 σ_13 => gd (isB r_12) <| some (r_12, σ_13)) (f_M_settingTold σm) σx σm := by
  obtain ⟨a1, a2, a3, a4, a5, a6, a7⟩ := h
  obtain ⟨f1, f2, f3⟩ := sW_x ⟨i, hi⟩
  have f3' : sW i = 11 + tI i := f3
  have f2' : sW i < 27 := f2
  have htb : tI i < 6 := (show ∀ i : Fin 6, tI i.val < 6 by decide) ⟨i, hi⟩
  obtain ⟨σx1, σm1, s1, st1, w1, w2, w3, w3', w4, w5, w6, w7, w8⟩ := t_word' a1 f2' hw
  rw [uI_id h1] at w4
  rw [f3'] at w4 hw
  have hM : f_M_settingTold σm = f_M_settingTold_225 (zI (sHi i : Nat)) (zI (sLo i : Nat)) (zI (tI i : Nat)) σm1 := by
    rw [m_set a1 h1 htb hw w4]
    exact m_92 _ _ _ (lm_t ⟨i, hi⟩) σm1
  rw [hM, w2, bp_s]
  unfold f_M_settingTold_225
  have mD1 : mD d u R E L σm1 := mD_o a3 w7 (by decide) (by decide) (by decide)
  have xD1 : xD d u R E L σx1 := xD_o a2 w6 (by decide) (by decide)
  rw [zI_in (a := (tI i : Nat)) (n := 18) (by omega) (by omega) (by omega), zI_cl (by omega) (by omega), Int.toNat_natCast]
  rcases p_set w5 xD1 (i := i) (by omega) with ⟨v, σx2, σm2, s2, st2, p1, p2, p3, p4, p5, p6, p7, p8, p9⟩ | ⟨f, pl, r, σx2, σm2, p1, p2, p3, p4, p5⟩
  · left
    have oM : oS [1, 3] [] [] [] σm σm2 := oS_t w7 p6
    refine ⟨d, uS u i v, R, E, L, σx2, uA σm2 5 (upd (sA σm2 5) (tI i) (zI v)), s2, st2, ?_, ?_, ⟨?_, p4, mD_set (mD_o mD1 p6 (by decide) (by decide) (by decide)) (by omega), wf_set (wfDr_s a4 (by omega)) p8 p9, ?_, ?_, ?_⟩, ?_, ?_, ?_, by omega⟩
    · rw [p1, bd_s]; rfl
    · rw [p2, bd_s, gd_t]; rfl
    · exact SY_o p3 (oS_r (I := []) (J := []) (A := []) (B := [])) (oS_uA (I := []) (J := []) (A := [5]) (B := []) (by decide) oS_r) (by decide) (by decide) (by decide) (by decide)
    · rw [p5.1 4 (by decide), w6.1 4 (by decide)]; exact a5
    · rw [p5.1 5 (by decide), w6.1 5 (by decide)]; exact a6
    · show sI σm2 5 = _
      rw [oM.1 5 (by decide)]; exact a7
    · exact pX_t (pX_s w6) (oS_w p5 (by decide) (by decide) (by decide) (by decide))
    · exact pM_t (pM_i oM (by decide)) (pM_A (σ := σm2) (r := 5) (i := tI i) (by omega))
    · show sI σm2 9 = _
      rw [oM.1 9 (by decide)]
  · right
    refine ⟨f, pl, σx2, uA σm2 5 (upd (sA σm2 5) (tI i) r), ?_, ?_, FL_o p3 (oS_r (I := []) (J := []) (A := []) (B := [])) (oS_uA (I := []) (J := []) (A := [5]) (B := []) (by decide) oS_r) (by decide) (by decide) (by decide) (by decide), pX_t (pX_s w6) (pX_f p4), pM_t (pM_t (pM_i w7 (by decide)) (pM_i p5 (by decide))) (pM_A (σ := σm2) (r := 5) (i := tI i) (by omega))⟩
    · rw [p1, bd_s]; rfl
    · rw [p2, bd_s, gd_t]; rfl
def w3 (σ : St) (r0 r1 r2 : Int32) : St := uA (uA (uA σ 5 (upd (sA σ 5) 6 r0)) 5 (upd (sA (uA σ 5 (upd (sA σ 5) 6 r0)) 5) 7 r1)) 5 (upd (sA (uA (uA σ 5 (upd (sA σ 5) 6 r0)) 5 (upd (sA (uA σ 5 (upd (sA σ 5) 6 r0)) 5) 7 r1)) 5) 8 r2)
theorem w3_p (σ : St) (r0 r1 r2 : Int32) : pM σ (w3 σ r0 r1 r2) := pM_t (pM_t (pM_A (σ := σ) (r := 5) (i := 6) (by omega)) (pM_A (r := 5) (i := 7) (by omega))) (pM_A (r := 5) (i := 8) (by omega))
theorem w3_o (σ : St) (r0 r1 r2 : Int32) : oS [] [] [5] [] σ (w3 σ r0 r1 r2) := oS_uA (by decide) (oS_uA (by decide) (oS_uA (by decide) oS_r))
theorem m_926 (σ : St) : f_M_settingTold_92 6 σ = bp (f_M_asks 17 σ) fun σ_2 => bd (f_M_number 0 9 σ_2) fun r_4 σ_5 => bd (f_M_number 0 9 σ_5) fun r_7 σ_8 => bd (f_M_number 0 9 σ_8) fun r_10 σ_11 => some (w3 σ_11 r_4 r_7 r_10) := by
  unfold f_M_settingTold_92
  rw [if_pos rfl]
  rfl
theorem t_none {d : FD} {u : Nat → Nat} {R : Nat} {E : Nat → Nat} {L : List Nat} {s : Nat} {st : Bool} {σx σm : St} (h : DR b n d u R E L s st σx σm) (h1 : sI σm 1 = zI s) (hn : ∀ j, j < 6 → ¬ (kd b n s st = 1 ∧ wAt b n s (11 + j))) (h17 : ¬ (kd b n s st = 1 ∧ wAt b n s 17)) : oSt b n s (some (0, uI (uI σx 4 1) 5 (zI s))) (f_M_settingTold σm) σx σm := by
  right
  have a1 := h.1
  have t17 := tk_no a1 h1 (j := 17) (by omega) h17
  have e : f_M_asks 17 σm = some (uI (uI σm 4 1) 5 (zI s)) := by
    unfold f_M_asks
    rw [if_pos a1.2.2.2.2.1, t17, bd_s, if_pos rfl, h1, m_fail _ _ a1.2.2.2.2.1, bp_s]
  have hb : ¬ sI (uI (uI σm 4 1) 5 (zI s)) 4 = 0 := show ¬ ((1 : Int32) = 0) by decide
  refine ⟨1, s, _, w3 (uI (uI σm 4 1) 5 (zI s)) 0 0 0, rfl, ?_, FL_o (FL_wrong σx σm) (oS_r (I := []) (J := []) (A := []) (B := [])) (w3_o _ _ _ _) (by decide) (by decide) (by decide) (by decide), pX_f (oS_uI (by decide) (oS_uI (by decide) oS_r)), pM_t (pM_i (I := [4, 5]) (oS_uI (by decide) (oS_uI (by decide) oS_r)) (by decide)) (w3_p _ _ _ _)⟩
  rw [m_set6 a1 h1 hn, m_926, e, bp_s, num_bad hb, bd_s, num_bad hb, bd_s, num_bad hb, bd_s]
theorem t_comes {d : FD} {u : Nat → Nat} {R : Nat} {E : Nat → Nat} {L : List Nat} {s : Nat} {st : Bool} {σx σm : St} (h : DR b n d u R E L s st σx σm) (h1 : sI σm 1 = zI s) (hw : kd b n s st = 1 ∧ wAt b n s 17) : oSt b n s (bp (f_Reader_step σx) fun σ_10 => bd (f_Parser_readSetting 6 σ_10) fun r_12 σ_13 => if r_12 = 0 then some (0, σ_13) else bd (f_Parser_readSetting 7 σ_13) fun r_15 σ_16 => if r_15 = 0 then some (0, σ_16) else bd (f_Parser_readSetting 8 σ_16) fun r_18 σ_19 => if r_18 = 0 then some (0, σ_19) else some (1, σ_19)) (f_M_settingTold σm) σx σm := by
  obtain ⟨a1, a2, a3, a4, a5, a6, a7⟩ := h
  obtain ⟨σx1, σm1, s1, st1, w1, w2, w3', w3'', w4, w5, w6, w7, w8⟩ := t_word' a1 (by omega) hw
  rw [uI_id h1] at w4
  have hn : ∀ j, j < 6 → ¬ (kd b n s st = 1 ∧ wAt b n s (11 + j)) := by
    intro j hj g
    have := wAt_u (by omega) (by omega) g hw.2
    omega
  have e : f_M_asks 17 σm = some σm1 := by
    unfold f_M_asks
    rw [if_pos a1.2.2.2.2.1, w4, bd_s, if_neg (by decide)]
  have mD1 : mD d u R E L σm1 := mD_o a3 w7 (by decide) (by decide) (by decide)
  have xD1 : xD d u R E L σx1 := xD_o a2 w6 (by decide) (by decide)
  rw [m_set6 a1 h1 hn, m_926, e, bp_s, w2, bp_s]
  rcases p_set w5 xD1 (i := 6) (by omega) with ⟨v0, y0, m0, s2, st2, p1, p2, p3, p4, p5, p6, p7, p8, p9⟩ | ⟨f, pl, r, y0, m0, p1, p2, p3, p4, p5⟩
  rotate_left
  · right
    have p1' : f_Parser_readSetting 6 σx1 = some (0, y0) := p1
    have p2' : f_M_number 0 9 σm1 = some (r, m0) := p2
    have hb := FL_bad p3
    refine ⟨f, pl, y0, w3 m0 r 0 0, ?_, ?_, FL_o p3 (oS_r (I := []) (J := []) (A := []) (B := [])) (w3_o _ _ _ _) (by decide) (by decide) (by decide) (by decide), pX_t (pX_s w6) (pX_f p4), pM_t (pM_t (pM_i w7 (by decide)) (pM_i p5 (by decide))) (w3_p _ _ _ _)⟩
    · rw [p1', bd_s, if_pos rfl]
    · rw [p2', bd_s, num_bad hb, bd_s, num_bad hb, bd_s]
  have p1' : f_Parser_readSetting 6 σx1 = some (1, y0) := p1
  have p2' : f_M_number 0 9 σm1 = some (zI v0, m0) := p2
  rw [p1', p2', bd_s, bd_s, if_neg (by decide)]
  rcases p_set p3 p4 (i := 7) (by omega) with ⟨v1, y1, m1, s3, st3, q1, q2, q3, q4, q5, q6, q7, q8, q9⟩ | ⟨f, pl, r, y1, m1, q1, q2, q3, q4, q5⟩
  rotate_left
  · right
    have q1' : f_Parser_readSetting 7 y0 = some (0, y1) := q1
    have q2' : f_M_number 0 9 m0 = some (r, m1) := q2
    have hb := FL_bad q3
    refine ⟨f, pl, y1, w3 m1 (zI v0) r 0, ?_, ?_, FL_o q3 (oS_r (I := []) (J := []) (A := []) (B := [])) (w3_o _ _ _ _) (by decide) (by decide) (by decide) (by decide), pX_t (pX_t (pX_s w6) (oS_w p5 (by decide) (by decide) (by decide) (by decide))) (pX_f q4), pM_t (pM_t (pM_i (oS_t w7 p6) (by decide)) (pM_i q5 (by decide))) (w3_p _ _ _ _)⟩
    · rw [q1', bd_s, if_pos rfl]
    · rw [q2', bd_s, num_bad hb, bd_s]
  have q1' : f_Parser_readSetting 7 y0 = some (1, y1) := q1
  have q2' : f_M_number 0 9 m0 = some (zI v1, m1) := q2
  rw [q1', q2', bd_s, bd_s, if_neg (by decide)]
  rcases p_set q3 q4 (i := 8) (by omega) with ⟨v2, y2, m2, s4, st4, r1, r2, r3, r4, r5, r6, r7, r8, r9⟩ | ⟨f, pl, r, y2, m2, r1, r2, r3, r4, r5⟩
  rotate_left
  · right
    have r1' : f_Parser_readSetting 8 y1 = some (0, y2) := r1
    have r2' : f_M_number 0 9 m1 = some (r, m2) := r2
    refine ⟨f, pl, y2, w3 m2 (zI v0) (zI v1) r, ?_, ?_, FL_o r3 (oS_r (I := []) (J := []) (A := []) (B := [])) (w3_o _ _ _ _) (by decide) (by decide) (by decide) (by decide), pX_t (pX_t (pX_s w6) (oS_w (oS_t p5 q5) (by decide) (by decide) (by decide) (by decide))) (pX_f r4), pM_t (pM_t (pM_i (oS_t w7 (oS_t p6 q6)) (by decide)) (pM_i r5 (by decide))) (w3_p _ _ _ _)⟩
    · rw [r1', bd_s, if_pos rfl]
    · rw [r2', bd_s]
  have r1' : f_Parser_readSetting 8 y1 = some (1, y2) := r1
  have r2' : f_M_number 0 9 m1 = some (zI v2, m2) := r2
  rw [r1', r2', bd_s, bd_s, if_neg (by decide)]
  left
  have oM : oS [1, 3] [] [] [] σm m2 := oS_t w7 (oS_t p6 (oS_t q6 r6))
  have oX : oS [7, 8, 9, 10, 11] [] [6] [] σx y2 := oS_t (oS_w w6 (by decide) (by decide) (by decide) (by decide)) (oS_t p5 (oS_t q5 r5))
  have mD2 := mD_o a3 oM (by decide) (by decide) (by decide)
  have mD5 : mD d (uS (uS (uS u 6 v0) 7 v1) 8 v2) R E L (w3 m2 (zI v0) (zI v1) (zI v2)) := mD_set (i := 8) (mD_set (i := 7) (mD_set (i := 6) mD2 (by omega)) (by omega)) (by omega)
  refine ⟨d, _, R, E, L, y2, w3 m2 (zI v0) (zI v1) (zI v2), s4, st4, rfl, rfl, ⟨?_, r4, mD5, wf_set (wf_set (wf_set (wfDr_s a4 (by omega)) p8 p9) q8 q9) r8 r9, ?_, ?_, ?_⟩, ?_, ?_, ?_, by omega⟩
  · exact SY_o r3 (oS_r (I := []) (J := []) (A := []) (B := [])) (w3_o _ _ _ _) (by decide) (by decide) (by decide) (by decide)
  · rw [oX.1 4 (by decide)]; exact a5
  · rw [oX.1 5 (by decide)]; exact a6
  · show sI m2 5 = _
    rw [oM.1 5 (by decide)]; exact a7
  · exact oS_w oX (by decide) (by decide) (by decide) (by decide)
  · exact pM_t (pM_i oM (by decide)) (w3_p _ _ _ _)
  · show sI m2 9 = _
    rw [oM.1 9 (by decide)]
end
theorem kd_0 {b : Nat → Nat} {n s : Nat} {st : Bool} : kd b n s st = 0 ↔ n ≤ s := by
  unfold kd
  by_cases c : n ≤ s
  · rw [if_pos c]; exact ⟨fun _ => c, fun _ => rfl⟩
  · rw [if_neg c]
    refine ⟨fun g => ?_, fun g => absurd g c⟩
    exfalso
    cases st <;> simp only [Bool.false_eq_true, if_true, if_false] at g <;> (split at g <;> first | omega | (split at g <;> omega))
section
variable {b : Nat → Nat} {n : Nat}
theorem oSt_g {s : Nat} {r : Option (Int32 × St)} {m : Option St} {σx σm : St} (h : oSt b n s r m σx σm) : oSt b n s (bd r fun r_1 σ_1 => gd (isB r_1) <| some (r_1, σ_1)) m σx σm := by
  rcases h with ⟨d, u, R, E, L, σx', σm', s', st', h1, h2⟩ | ⟨f, pl, σx', σm', h1, h2⟩
  · left
    refine ⟨d, u, R, E, L, σx', σm', s', st', ?_, h2⟩
    rw [h1, bd_s]; rfl
  · right
    refine ⟨f, pl, σx', σm', ?_, h2⟩
    rw [h1, bd_s]; rfl
theorem st_core {d : FD} {u : Nat → Nat} {R : Nat} {E : Nat → Nat} {L : List Nat} {s c : Nat} {st : Bool} {σx σm : St} (h : DR b n d u R E L s st σx σm) (h1 : sI σm 1 = zI s) (h9 : sI σm 9 = zI c) (hc : c < 70) : ∃ M' : Option St, f_M_statementTold σm = bp M' f_M_statementTold_82 ∧ oSt b n s (f_Parser_readStatement σx) M' σx σm := by
  have a1 := h.1
  have e70 : (70 : Int32) = zI (70 : Nat) := rfl
  have hM : f_M_statementTold σm = bd (f_M_takes 0 σm) fun r_3 σ_4 => if r_3 = 0 then bd (f_M_takes 2 σ_4) (fun r_6 σ_7 => if r_6 = 0 then bd (f_M_takes 9 σ_7) (fun r_9 σ_10 => if r_9 = 0 then bp (f_M_settingTold σ_10) f_M_statementTold_82 else bp (f_M_ruleTold (zI s) σ_10) f_M_statementTold_82) else bp (f_M_trierTold (zI s) σ_7) f_M_statementTold_82) else bp (f_M_markTold (zI s) σ_4) f_M_statementTold_82 := by
    unfold f_M_statementTold
    rw [h1, lt_s', h9, e70, if_neg (by rw [zI_eq (by omega) (by omega) (by omega) (by omega)]; omega)]
  rw [hM]
  unfold f_Parser_readStatement
  have yes : ∀ j, j < 27 → kd b n s st = 1 ∧ wAt b n s j → f_Reader_isWord (zI j) σx = some 1 := fun j hj g => (x_isWord a1.1.1 a1.2.2.1 a1.2.2.2.2.2 hj).1 g
  by_cases c0 : kd b n s st = 1 ∧ wAt b n s 0
  · obtain ⟨σm1, k1, k2⟩ := t_mark h h1 c0
    have x0 : f_Reader_isWord 0 σx = some 1 := yes 0 (by omega) c0
    refine ⟨f_M_markTold (zI s) σm1, ?_, ?_⟩
    · rw [k1, bd_s, if_neg (by decide)]
    · rw [x0, bp_s, if_neg (by decide)]
      exact oSt_g k2
  have x0 : f_Reader_isWord 0 σx = some 0 := x_noWord (j := 0) a1 (by omega) c0
  rw [tk_no a1 h1 (j := 0) (by omega) c0, bd_s, if_pos rfl, x0, bp_s, if_pos rfl]
  by_cases c2 : kd b n s st = 1 ∧ wAt b n s 2
  · obtain ⟨σm1, k1, k2⟩ := t_trier h h1 c2
    have x2 : f_Reader_isWord 2 σx = some 1 := yes 2 (by omega) c2
    refine ⟨f_M_trierTold (zI s) σm1, ?_, ?_⟩
    · rw [k1, bd_s, if_neg (by decide)]
    · rw [x2, bp_s, if_neg (by decide)]
      exact oSt_g k2
  have x2 : f_Reader_isWord 2 σx = some 0 := x_noWord (j := 2) a1 (by omega) c2
  rw [tk_no a1 h1 (j := 2) (by omega) c2, bd_s, if_pos rfl, x2, bp_s, if_pos rfl]
  by_cases c9 : kd b n s st = 1 ∧ wAt b n s 9
  · obtain ⟨σm1, k1, k2⟩ := t_rule h h1 c9
    have x9 : f_Reader_isWord 9 σx = some 1 := yes 9 (by omega) c9
    refine ⟨f_M_ruleTold (zI s) σm1, ?_, ?_⟩
    · rw [k1, bd_s, if_neg (by decide)]
    · rw [x9, bp_s, if_neg (by decide)]
      exact k2
  have x9 : f_Reader_isWord 9 σx = some 0 := x_noWord (j := 9) a1 (by omega) c9
  rw [tk_no a1 h1 (j := 9) (by omega) c9, bd_s, if_pos rfl, x9, bp_s, if_pos rfl]
  refine ⟨f_M_settingTold σm, rfl, ?_⟩
  by_cases c17 : kd b n s st = 1 ∧ wAt b n s 17
  · have x17 : f_Reader_isWord 17 σx = some 1 := yes 17 (by omega) c17
    rw [x17, bp_s, if_neg (by decide)]
    exact t_comes h h1 c17
  have x17 : f_Reader_isWord 17 σx = some 0 := x_noWord (j := 17) a1 (by omega) c17
  rw [x17, bp_s, if_pos rfl]
  rcases x_set a1 6 0 FU (by omega) (FU_gt (by omega)) with ⟨j, j1, j2, j3, j4⟩ | ⟨j1, j2⟩
  · have j4' : f_Parser_readStatement_126 FU 0 σx = _ := j4
    rw [j4']
    exact t_oneSet h h1 j2 j3
  · have j2' : f_Parser_readStatement_126 FU 0 σx = _ := j2
    rw [j2']
    refine t_none h h1 (fun j hj g => ?_) c17
    have : ∃ i, i < 6 ∧ sW i = 11 + j := by
      have : j = 0 ∨ j = 1 ∨ j = 2 ∨ j = 3 ∨ j = 4 ∨ j = 5 := by omega
      rcases this with rfl | rfl | rfl | rfl | rfl | rfl
      · exact ⟨0, by omega, rfl⟩
      · exact ⟨2, by omega, rfl⟩
      · exact ⟨3, by omega, rfl⟩
      · exact ⟨1, by omega, rfl⟩
      · exact ⟨4, by omega, rfl⟩
      · exact ⟨5, by omega, rfl⟩
    obtain ⟨i, i1, i2⟩ := this
    rw [← i2] at g
    exact j1 i (by omega) i1 g
theorem DR_w {d : FD} {u : Nat → Nat} {R : Nat} {E : Nat → Nat} {L : List Nat} {s s' : Nat} {st st' : Bool} {σx σm σx' σm' : St} {I : List Nat} (h : DR b n d u R E L s st σx σm) (hS : SY b n s' st' σx' σm') (o : oS [7, 8, 9, 10, 11, 16] [] [] [] σx σx') (o' : oS I [] [] [] σm σm') (hI : ∀ k, k ∈ [5, 10] → k ∉ I) (hs : s ≤ s') : DR b n d u R E L s' st' σx' σm' := by
  obtain ⟨a1, a2, a3, a4, a5, a6, a7⟩ := h
  refine ⟨hS, xD_o a2 o (by decide) (by decide), mD_o a3 o' (hI _ (by decide)) (fun k _ => List.not_mem_nil) List.not_mem_nil, wfDr_s a4 hs, ?_, ?_, ?_⟩
  · rw [o.1 4 (by decide)]; exact a5
  · rw [o.1 5 (by decide)]; exact a6
  · rw [o'.1 5 (hI _ (by decide))]; exact a7
theorem t_stmt {d : FD} {u : Nat → Nat} {R : Nat} {E : Nat → Nat} {L : List Nat} {s c : Nat} {st : Bool} {σx σm : St} (h : DR b n d u R E L s st σx σm) (h1 : sI σm 1 = zI s) (h9 : sI σm 9 = zI c) (hc : c < 70) : (∃ (d : FD) (u : Nat → Nat) (R : Nat) (E : Nat → Nat) (L : List Nat) (y σx' σm' : St) (s' : Nat) (st' : Bool), f_Parser_readStatement σx = some (1, y) ∧ f_Parser_passSign 59 y = some (1, σx') ∧ f_M_statementTold σm = some σm' ∧ DR b n d u R E L s' st' σx' σm' ∧ pX σx σx' ∧ pM σm σm' ∧ sI σm' 9 = zI (c + 1 : Nat) ∧ s < s') ∨ (∃ (f pl : Nat) (σx' σm' : St), (f_Parser_readStatement σx = some (0, σx') ∨ ∃ y, f_Parser_readStatement σx = some (1, y) ∧ f_Parser_passSign 59 y = some (0, σx')) ∧ f_M_statementTold σm = some σm' ∧ FL f pl σx' σm' ∧ pX σx σx' ∧ pM σm σm') := by
  obtain ⟨M', g1, g2⟩ := st_core h h1 h9 hc
  rw [g1]
  rcases g2 with ⟨d', u', R', E', L', σx', σm', s', st', k1, k2, k3, k4, k5, k6, k7⟩ | ⟨f, pl, σx', σm', k1, k2, k3, k4, k5⟩
  · rw [k2, bp_s]
    unfold f_M_statementTold_82
    rcases p_sign (c := 59) k3.1 (sg_e (by omega)) with ⟨y, m, s2, st2, r1, r2, r3, r4, r5, r6⟩ | ⟨y, m, r1, r2, r3, r4, r5⟩
    · left
      have r1' : f_Parser_passSign 59 σx' = some (1, y) := r1
      have r2' : f_M_asksSign 59 σm' = some m := r2
      have q9 : sI m 9 = zI c := by rw [r5.1 9 (by decide), k6]; exact h9
      refine ⟨d', u', R', E', L', σx', y, uI m 9 (zI (c + 1 : Nat)), s2, st2, k1, r1', ?_, ?_, pX_t k4 (pX_s r4), pM_t k5 (pM_t (pM_i r5 (by decide)) (pM_i (I := [9]) (oS_uI (by decide) oS_r) (by decide))), rfl, by omega⟩
      · rw [r2', bp_s, q9, zS]; rfl
      · refine DR_w (I := [1, 3, 9]) k3 ?_ (oS_w r4 (by decide) (by decide) (by decide) (by decide)) (oS_uI (by decide) (oS_w r5 (by decide) (by decide) (by decide) (by decide))) (by decide) (by omega)
        exact SY_o r3 (oS_r (I := []) (J := []) (A := []) (B := [])) (oS_uI (I := [9]) (J := []) (A := []) (B := []) (by decide) oS_r) (by decide) (by decide) (by decide) (by decide)
    · right
      have r1' : f_Parser_passSign 59 σx' = some (0, y) := r1
      have r2' : f_M_asksSign 59 σm' = some m := r2
      refine ⟨1, s', y, uI m 9 (sI m 9 + 1), .inr ⟨σx', k1, r1'⟩, ?_, FL_o r3 (oS_r (I := []) (J := []) (A := []) (B := [])) (oS_uI (I := [9]) (J := []) (A := []) (B := []) (by decide) oS_r) (by decide) (by decide) (by decide) (by decide), pX_t k4 (pX_f r4), pM_t k5 (pM_t (pM_i r5 (by decide)) (pM_i (I := [9]) (oS_uI (by decide) oS_r) (by decide)))⟩
      rw [r2', bp_s]; rfl
  · right
    rw [k2, bp_s]
    unfold f_M_statementTold_82
    refine ⟨f, pl, σx', uI σm' 9 (sI σm' 9 + 1), .inl k1, ?_, FL_o k3 (oS_r (I := []) (J := []) (A := []) (B := [])) (oS_uI (I := [9]) (J := []) (A := []) (B := []) (by decide) oS_r) (by decide) (by decide) (by decide) (by decide), k4, pM_t k5 (pM_i (I := [9]) (oS_uI (by decide) oS_r) (by decide))⟩
    rw [sgn_bad (FL_bad k3), bp_s]; rfl
def oPs (b : Nat → Nat) (n : Nat) (r m : Option (Int32 × St)) (σx σm : St) : Prop := (∃ (d : FD) (u : Nat → Nat) (R : Nat) (E : Nat → Nat) (L : List Nat) (c s : Nat) (st : Bool) (σx' σm' : St), r = some (1, σx') ∧ m = f_M_fair_153 σm' ∧ DR b n d u R E L s st σx' σm' ∧ pX σx σx' ∧ pM σm σm' ∧ sI σm' 9 = zI c ∧ sI σx' 16 = zI c) ∨ (∃ (f pl : Nat) (σx' σm' : St), r = some (0, σx') ∧ m = f_M_fair_153 σm' ∧ FL f pl σx' σm' ∧ pX σx σx' ∧ pM σm σm')
theorem oPs_t {r m : Option (Int32 × St)} {σx σm σx1 σm1 : St} (hx : pX σx σx1) (hm : pM σm σm1) (h : oPs b n r m σx1 σm1) : oPs b n r m σx σm := by
  rcases h with ⟨d, u, R, E, L, c, s, st, σx', σm', h1, h2, h3, h4, h5, h6⟩ | ⟨f, pl, σx', σm', h1, h2, h3, h4, h5⟩
  · exact .inl ⟨d, u, R, E, L, c, s, st, σx', σm', h1, h2, h3, pX_t hx h4, pM_t hm h5, h6⟩
  · exact .inr ⟨f, pl, σx', σm', h1, h2, h3, pX_t hx h4, pM_t hm h5⟩
theorem f131_bad {q : Nat} {σ : St} (h : ¬ sI σ 4 = 0) : f_M_fair_131 (q + 1) σ = f_M_fair_153 σ := by
  show f_M_fair_131b (f_M_fair_131 q) σ = _
  unfold f_M_fair_131b
  rw [if_neg h]
theorem t_parse : ∀ (m c q q' : Nat) (d : FD) (u : Nat → Nat) (R : Nat) (E : Nat → Nat) (L : List Nat) (s : Nat) (st : Bool) (σx σm : St), n - s ≤ m → m + 2 ≤ q → m + 2 ≤ q' → c ≤ 70 → DR b n d u R E L s st σx σm → sI σm 9 = zI c → oPs b n (f_Parser_parse_28 q (zI c) σx) (f_M_fair_131 q' σm) σx σm := by
  have e70 : (70 : Int32) = zI (70 : Nat) := rfl
  have e0 : (0 : Int32) = zI (0 : Nat) := rfl
  intro m
  induction m with
  | zero =>
    intro c q q' d u R E L s st σx σm h1 h2 h3 h4 h h9
    obtain ⟨q, rfl⟩ : ∃ r, q = r + 1 := ⟨q - 1, by omega⟩
    obtain ⟨q', rfl⟩ : ∃ r, q' = r + 1 := ⟨q' - 1, by omega⟩
    have a1 := h.1
    have hk : kd b n s st = 0 := kd_0.mpr (by omega)
    have hX : f_Parser_parse_28 (q + 1) (zI c) σx = some (1, uI σx 16 (zI c)) := by
      show f_Parser_parse_28b (f_Parser_parse_28 q) (zI c) σx = _
      unfold f_Parser_parse_28b
      rw [e70, if_neg (by rw [zI_lt (by omega) (by omega) (by omega) (by omega)]; omega), a1.2.2.1.2.1, hk, if_pos (by rfl), lt_s']
    obtain ⟨l1, l2⟩ := SY_look a1
    have hM : f_M_fair_131 (q' + 1) σm = f_M_fair_153 (uI σm 1 (zI s)) := by
      show f_M_fair_131b (f_M_fair_131 q') σm = _
      unfold f_M_fair_131b
      have : chA b n s = -1 := by unfold chA; rw [if_neg (by omega)]
      rw [if_pos a1.2.2.2.2.1, l1, bd_s, this, if_pos (by rfl)]
    left
    refine ⟨d, u, R, E, L, c, s, st, uI σx 16 (zI c), uI σm 1 (zI s), hX, hM, ?_, oS_uI (by decide) oS_r, pM_i (I := [1]) (oS_uI (by decide) oS_r) (by decide), h9, rfl⟩
    refine DR_w (I := [1]) h ?_ (oS_uI (by decide) oS_r) (oS_uI (by decide) oS_r) (by decide) (Nat.le_refl _)
    exact SY_o l2 (oS_uI (I := [16]) (J := []) (A := []) (B := []) (by decide) oS_r) (oS_r (I := []) (J := []) (A := []) (B := [])) (by decide) (by decide) (by decide) (by decide)
  | succ m ih =>
    intro c q q' d u R E L s st σx σm h1 h2 h3 h4 h h9
    obtain ⟨q, rfl⟩ : ∃ r, q = r + 1 := ⟨q - 1, by omega⟩
    obtain ⟨q', rfl⟩ : ∃ r, q' = r + 1 := ⟨q' - 1, by omega⟩
    have a1 := h.1
    by_cases hend : n ≤ s
    · -- as at zero
      have hk : kd b n s st = 0 := kd_0.mpr (by omega)
      have hX : f_Parser_parse_28 (q + 1) (zI c) σx = some (1, uI σx 16 (zI c)) := by
        show f_Parser_parse_28b (f_Parser_parse_28 q) (zI c) σx = _
        unfold f_Parser_parse_28b
        rw [e70, if_neg (by rw [zI_lt (by omega) (by omega) (by omega) (by omega)]; omega), a1.2.2.1.2.1, hk, if_pos (by rfl), lt_s']
      obtain ⟨l1, l2⟩ := SY_look a1
      have hM : f_M_fair_131 (q' + 1) σm = f_M_fair_153 (uI σm 1 (zI s)) := by
        show f_M_fair_131b (f_M_fair_131 q') σm = _
        unfold f_M_fair_131b
        have : chA b n s = -1 := by unfold chA; rw [if_neg (by omega)]
        rw [if_pos a1.2.2.2.2.1, l1, bd_s, this, if_pos (by rfl)]
      left
      refine ⟨d, u, R, E, L, c, s, st, uI σx 16 (zI c), uI σm 1 (zI s), hX, hM, ?_, oS_uI (by decide) oS_r, pM_i (I := [1]) (oS_uI (by decide) oS_r) (by decide), h9, rfl⟩
      refine DR_w (I := [1]) h ?_ (oS_uI (by decide) oS_r) (oS_uI (by decide) oS_r) (by decide) (Nat.le_refl _)
      exact SY_o l2 (oS_uI (I := [16]) (J := []) (A := []) (B := []) (by decide) oS_r) (oS_r (I := []) (J := []) (A := []) (B := [])) (by decide) (by decide) (by decide) (by decide)
    · have hk : ¬ kd b n s st = 0 := fun g => hend (kd_0.mp g)
      have hkb := kd_b (b := b) (n := n) (s := s) (st := st)
      obtain ⟨l1, l2⟩ := SY_look a1
      have hM : f_M_fair_131 (q' + 1) σm = bp (f_M_statementTold (uI σm 1 (zI s))) (f_M_fair_131 q') := by
        show f_M_fair_131b (f_M_fair_131 q') σm = _
        unfold f_M_fair_131b
        have : chA b n s = b s := by unfold chA; rw [if_pos (by omega)]
        rw [if_pos a1.2.2.2.2.1, l1, bd_s, this, m1_e, if_neg (by rw [zI_eq (by omega) (by have := a1.1.2.2.2 s (by omega); omega) (by omega) (by omega)]; omega)]
      have hDR : DR b n d u R E L s st σx (uI σm 1 (zI s)) := DR_w (I := [1]) h l2 oS_r (oS_uI (by decide) oS_r) (by decide) (Nat.le_refl _)
      have p1 : pM σm (uI σm 1 (zI s)) := pM_i (I := [1]) (oS_uI (by decide) oS_r) (by decide)
      rw [hM]
      refine oPs_t (pX_r _) p1 ?_
      have h9' : sI (uI σm 1 (zI s)) 9 = zI c := h9
      have h1' : sI (uI σm 1 (zI s)) 1 = zI s := rfl
      generalize uI σm 1 (zI s) = τ at hDR h9' h1' ⊢
      have b4 : sI τ 4 = 0 := hDR.1.2.2.2.2.1
      by_cases c70 : c = 70
      · right
        refine ⟨5, s, uI (uI σx 4 5) 5 (zI s), uI (uI τ 4 5) 5 (zI s), ?_, ?_, ⟨by omega, by omega, rfl, rfl, rfl, rfl⟩, pX_f (oS_uI (by decide) (oS_uI (by decide) oS_r)), pM_i (I := [4, 5]) (oS_uI (by decide) (oS_uI (by decide) oS_r)) (by decide)⟩
        · show f_Parser_parse_28b (f_Parser_parse_28 q) (zI c) σx = _
          unfold f_Parser_parse_28b
          rw [e70, if_neg (by rw [zI_lt (by omega) (by omega) (by omega) (by omega)]; omega), a1.2.2.1.2.1, e0, if_neg (by rw [zI_eq (by omega) (by omega) (by omega) (by omega)]; omega), if_pos (by rw [c70]), a1.2.2.1.1, x_tell, bd_s]
          rfl
        · obtain ⟨q', rfl⟩ : ∃ r, q' = r + 1 := ⟨q' - 1, by omega⟩
          have : f_M_statementTold τ = some (uI (uI τ 4 5) 5 (zI s)) := by
            unfold f_M_statementTold
            rw [h1', lt_s', h9', c70, if_pos (by rfl), m_fail _ _ b4, bp_s]
          rw [this, bp_s]
          exact f131_bad (show ¬ ((5 : Int32) = 0) by decide)
      · have hX : f_Parser_parse_28 (q + 1) (zI c) σx = bd (f_Parser_readStatement σx) fun r_2 σ_3 => if r_2 = 0 then some (0, σ_3) else bd (f_Parser_passSign 59 σ_3) fun r_5 σ_6 => if r_5 = 0 then some (0, σ_6) else f_Parser_parse_28 q (zI (c + 1 : Nat)) σ_6 := by
          show f_Parser_parse_28b (f_Parser_parse_28 q) (zI c) σx = _
          unfold f_Parser_parse_28b
          rw [e70, if_neg (by rw [zI_lt (by omega) (by omega) (by omega) (by omega)]; omega), a1.2.2.1.2.1, e0, if_neg (by rw [zI_eq (by omega) (by omega) (by omega) (by omega)]; omega), if_neg (by rw [zI_eq (by omega) (by omega) (by omega) (by omega)]; omega), zS]
          rfl
        rw [hX]
        rcases t_stmt hDR h1' h9' (by omega) with ⟨d', u', R', E', L', y, σx', σm', s', st', k1, k2, k3, k4, k5, k6, k7, k8⟩ | ⟨f, pl, σx', σm', k1, k2, k3, k4, k5⟩
        · rw [k1, bd_s, if_neg (by decide), k2, bd_s, if_neg (by decide), k3, bp_s]
          exact oPs_t k5 k6 (ih (c + 1) q q' d' u' R' E' L' s' st' σx' σm' (by omega) (by omega) (by omega) (by omega) k4 k7)
        · right
          refine ⟨f, pl, σx', σm', ?_, ?_, k3, k4, k5⟩
          · rcases k1 with k1 | ⟨y, k1, k1'⟩
            · rw [k1, bd_s, if_pos rfl]
            · rw [k1, bd_s, if_neg (by decide), k1', bd_s, if_pos rfl]
          · obtain ⟨q', rfl⟩ : ∃ r, q' = r + 1 := ⟨q' - 1, by omega⟩
            rw [k2, bp_s]
            exact f131_bad (FL_bad k3)
end
