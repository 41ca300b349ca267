-- ===== rule, set, undo =====
/-- the acts with one more -/
def hsP (a : Nat) (hs : Nat → Nat → Nat) (c : Nat → Nat) (j : Nat) : Nat → Nat := if j ≤ aB a then hs (j + (a - aB a)) else c
theorem hsP_l {a j : Nat} {hs : Nat → Nat → Nat} {c : Nat → Nat} (h : j ≤ aB a) : hsP a hs c j = hs (j + (a - aB a)) := if_pos h
theorem hsP_n {a : Nat} {hs : Nat → Nat → Nat} {c : Nat → Nat} : hsP a hs c (aB a + 1) = c := if_neg (by omega)
theorem aB_f {a : Nat} (ha : a ≤ 20) : aB a ≤ 19 ∧ aB a ≤ a ∧ aB a + (a - aB a) = a := by
  unfold aB
  split <;> omega
theorem hs_range {a : Nat} {hs ks : Nat → Nat → Nat} {σ : St} (hX : XH a hs ks σ) (s : Nat) : ∀ j, s + j ≤ a → hs s 6 ≤ hs (s + j) 6 ∧ hs (s + j) 6 ≤ hs s 6 + 32 * j := by
  intro j
  induction j with
  | zero => intro _; exact ⟨Nat.le_refl _, Nat.le_refl _⟩
  | succ j ih =>
    intro hj
    obtain ⟨i1, i2⟩ := ih (by omega)
    obtain ⟨k, -, -, h, -⟩ := hX.2.2.1 (s + j) (by omega)
    have e : s + (j + 1) = s + j + 1 := by omega
    rw [e]
    rcases h with ⟨h1, h⟩ | ⟨h1, h⟩ | ⟨h1, h⟩
    · rw [h 6 (by omega) (by omega)]
      omega
    · rw [h 6 (by omega) (by omega)]
      omega
    · have := h.2.2.2.2.2.2.1
      have := h.2.2.2.2.2.2.2
      omega
theorem XH_push {a k : Nat} {hs ks ks' : Nat → Nat → Nat} {c : Nat → Nat} {σ σ2 : St} (ha : a ≤ 20) (hX : XH a hs ks σ) (h23 : sI σ2 23 = zI (aB a + 1 : Nat)) (hc : xC7 c σ2) (hr : ∀ j, j < aB a → sA σ2 10 j = sA σ 10 (j + (a - aB a)) ∧ sA σ2 11 j = sA σ 11 (j + (a - aB a)) ∧ sA σ2 12 j = sA σ 12 (j + (a - aB a))) (h10 : sA σ2 10 (aB a) = zI k) (h11 : sA σ2 11 (aB a) = zI (hs a (oldI k))) (h12 : k = 4 → sA σ2 12 (aB a) = zI (c 6 - hs a 6 : Nat)) (hst : stp k (hs a) c) (hring : ∀ i, i < c 6 → hs (a - aB a) 6 ≤ i + 60 → sA σ2 13 (i % 700) = zI (kC (ks' i))) : XH (aB a + 1) (hsP a hs c) ks' σ2 := by
  obtain ⟨f1, f2, f3⟩ := aB_f ha
  refine ⟨h23, ?_, fun j hj => ?_, fun i hi hi2 => ?_⟩
  · rw [hsP_n]
    exact hc
  · by_cases cj : j = aB a
    · rw [cj, hsP_n, hsP_l (Nat.le_refl _), f3]
      exact ⟨k, h10, h11, hst, h12⟩
    · rw [hsP_l (show j ≤ aB a by omega), hsP_l (show j + 1 ≤ aB a by omega)]
      obtain ⟨r1, r2, r3⟩ := hr j (by omega)
      rw [r1, r2, r3]
      have e : j + 1 + (a - aB a) = j + (a - aB a) + 1 := by omega
      rw [e]
      exact hX.2.2.1 (j + (a - aB a)) (by omega)
  · rw [hsP_n] at hi
    rw [hsP_l (Nat.zero_le _), Nat.zero_add] at hi2
    exact hring i hi hi2
theorem mAt_b (a w j : Nat) : mAt a w j < 20 := Nat.mod_lt _ (by omega)
theorem MH_push {a w : Nat} {hs ks ks' : Nat → Nat → Nat} {c : Nat → Nat} {σ σ1 σ2 : St} (ha : a ≤ 20) (hM : MH a w hs ks σ) (h26 : sI σ1 26 = zI (aB a + 1 : Nat)) (h27 : sI σ1 27 = zI ((w + 1) % 20 : Nat)) (k1 : ∀ i, i < 7 → sA σ1 13 (307 * ((w + 1) % 20) + i) = sA σ 11 i) (k2 : ∀ i, i < 300 → sA σ1 13 (307 * ((w + 1) % 20) + 7 + i) = sA σ 12 i) (k3 : ∀ i, ¬ (307 * ((w + 1) % 20) ≤ i ∧ i < 307 * ((w + 1) % 20) + 307) → sA σ1 13 i = sA σ 13 i) (e26 : sI σ2 26 = sI σ1 26) (e27 : sI σ2 27 = sI σ1 27) (e13 : sA σ2 13 = sA σ1 13) (hc : mC (sA σ2 11) (sA σ2 12) c ks') (hks : ∀ i, i < hs a 6 → ks' i = ks i) (hmono : ∀ j, j ≤ a → hs j 6 ≤ hs a 6) : MH (aB a + 1) ((w + 1) % 20) (hsP a hs c) ks' σ2 := by
  obtain ⟨f1, f2, f3⟩ := aB_f ha
  have hw := hM.2.2.1
  have mono : ∀ {row bl row' bl' : Nat → Int32} {j : Nat}, j ≤ a → mC row bl (hs j) ks → (∀ k, k < 7 → row' k = row k) → (∀ k, k < 300 → bl' k = bl k) → mC row' bl' (hs j) ks' := by
    intro row bl row' bl' j hj h1 h2 h3
    refine ⟨fun k hk => by rw [h2 k (by omega)]; exact h1.1 k hk, by rw [h2 6 (by omega)]; exact h1.2.1, fun i j' hi hj' => ?_⟩
    have hm := hmono j hj
    rw [h3 _ (by omega), hks _ (by omega)]
    exact h1.2.2 i j' hi hj'
  refine ⟨by rw [e26, h26], by rw [e27, h27], Nat.mod_lt _ (by omega), ?_, fun j hj => ?_⟩
  · rw [hsP_n]
    exact hc
  · rw [e13, hsP_l (show j ≤ aB a by omega)]
    by_cases cj : j = aB a
    · have em : mAt (aB a + 1) ((w + 1) % 20) j = (w + 1) % 20 := by
        unfold mAt
        omega
      rw [em, cj, f3]
      exact mono (Nat.le_refl a) hM.2.2.2.1 k1 k2
    · have em : mAt (aB a + 1) ((w + 1) % 20) j = mAt a w (j + (a - aB a)) := by
        unfold mAt
        omega
      have ne : mAt a w (j + (a - aB a)) ≠ (w + 1) % 20 := by
        unfold mAt
        omega
      have mb := mAt_b a w (j + (a - aB a))
      rw [em]
      refine mono (by omega) (hM.2.2.2.2 (j + (a - aB a)) (by omega)) (fun k hk => ?_) (fun k hk => ?_)
      · show sA σ1 13 _ = sA σ 13 _
        exact k3 _ (by omega)
      · show sA σ1 13 _ = sA σ 13 _
        exact k3 _ (by omega)
theorem wfH_push {d : FD} {a : Nat} {hs ks ks' : Nat → Nat → Nat} {c : Nat → Nat} (hh : wfH d a hs ks) (hc : wfC d c) (hk : ∀ i, i < c 6 → wfK d (ks' i)) : wfH d (aB a + 1) (hsP a hs c) ks' := by
  obtain ⟨f1, f2, f3⟩ := aB_f hh.1
  refine ⟨by omega, fun j hj => ?_, fun i hi => ?_⟩
  · by_cases q : j ≤ aB a
    · rw [hsP_l q]
      exact hh.2.1 _ (by omega)
    · have : j = aB a + 1 := by omega
      rw [this, hsP_n]
      exact hc
  · rw [hsP_n] at hi
    exact hk i hi
/-- a core with one place changed -/
def c1 (c : Nat → Nat) (p v : Nat) (i : Nat) : Nat := if i = p then v else c i
theorem hs_mono2 {a : Nat} {hs ks : Nat → Nat → Nat} {σ : St} (hX : XH a hs ks σ) : ∀ j, j ≤ a → hs j 6 ≤ hs a 6 := by
  intro j hj
  have := hs_range hX j (a - j) (by omega)
  have e : j + (a - j) = a := by omega
  rw [e] at this
  exact this.1
/-- an act that changes one place of the core -/
theorem rel_act {σx σm σ1 σ2 τ1 τ2 : St} {k v : Nat} {d : FD} {a w : Nat} {hs ks : Nat → Nat → Nat} (hQ : rQ σx σm) (hw : wfD d) (hx : XD d σx) (hm : MD d σm) (hS : rS d σx σm) (hh : wfH d a hs ks) (hX : XH a hs ks σx) (hM : MH a w hs ks σm) (hk : k < 4)
    (q1 : f_Book_addAct (zI k) (zI (hs a (oldI k))) σx = some σ1) (p1 : f_M_keeps σm = some τ1)
    (qo : oS [19] [] [9] [] σ1 σ2) (po : oS [] [] [11] [] τ1 τ2) (hwc : wfC d (c1 (hs a) (oldI k) v)) (hcx : xC7 (c1 (hs a) (oldI k) v) σ2) (hcm : ∀ i, sA τ2 11 i = if i = oldI k then zI v else sA σm 11 i) : Rel σ2 τ2 := by
  have ha := hh.1
  obtain ⟨σ1', e1, o1, x23, xr, x10, x11, x12⟩ := x_addAct (k := zI k) (v := zI (hs a (oldI k))) ha hX.1
  rw [q1] at e1
  obtain rfl := Option.some.inj e1
  obtain ⟨τ1', e2, o2, m26, m27, k1, k2, k3⟩ := m_keeps ha hM.2.2.1 hM.1 hM.2.1
  rw [p1] at e2
  obtain rfl := Option.some.inj e2
  have hk6 : oldI k ≠ 6 := by unfold oldI; split <;> (try split) <;> omega
  have c6 : c1 (hs a) (oldI k) v 6 = hs a 6 := if_neg (fun e => hk6 e.symm)
  have st : stp k (hs a) (c1 (hs a) (oldI k) v) := by
    by_cases q : k < 3
    · refine .inl ⟨q, fun i hi hne => ?_⟩
      have : oldI k = 3 + k := if_pos q
      unfold c1
      rw [this, if_neg hne]
    · have q3 : k = 3 := by omega
      refine .inr (.inl ⟨q3, fun i hi hne => ?_⟩)
      have : oldI k = 2 := by rw [q3]; rfl
      unfold c1
      rw [this, if_neg hne]
  have oX : oS [19, 23] [] [9, 10, 11, 12] [] σx σ2 := oS_t (oS_w o1 (by decide) (by decide) (by decide) (by decide)) (oS_w qo (by decide) (by decide) (by decide) (by decide))
  have oM : oS [26, 27] [] [11, 13] [] σm τ2 := oS_t (oS_w o2 (by decide) (by decide) (by decide) (by decide)) (oS_w po (by decide) (by decide) (by decide) (by decide))
  have X' : XH (aB a + 1) (hsP a hs (c1 (hs a) (oldI k) v)) ks σ2 := by
    refine XH_push ha hX ?_ hcx (fun j hj => ?_) ?_ ?_ (fun e => by omega) st (fun i hi hi2 => ?_)
    · rw [qo.1 23 (by decide), x23]
    · rw [qo.2.2.1 10 (by decide), qo.2.2.1 11 (by decide), qo.2.2.1 12 (by decide)]
      exact xr j hj
    · rw [qo.2.2.1 10 (by decide)]
      exact x10
    · rw [qo.2.2.1 11 (by decide)]
      exact x11
    · rw [oX.2.2.1 13 (by decide)]
      rw [c6] at hi
      have := hs_mono hX (a - aB a) (by omega)
      exact hX.2.2.2 i hi (by omega)
  have M' : MH (aB a + 1) ((w + 1) % 20) (hsP a hs (c1 (hs a) (oldI k) v)) ks τ2 := by
    refine MH_push ha hM m26 m27 k1 k2 k3 (po.1 26 (by decide)) (po.1 27 (by decide)) (po.2.2.1 13 (by decide)) ?_ (fun i _ => rfl) (hs_mono2 hX)
    have r := hM.2.2.2.1
    refine ⟨fun i hi => ?_, ?_, ?_⟩
    · rw [hcm]
      unfold c1
      by_cases q : i = oldI k
      · rw [if_pos q, if_pos q]
      · rw [if_neg q, if_neg q]
        exact r.1 i hi
    · rw [hcm, if_neg (fun e => hk6 e.symm), c6]
      exact r.2.1
    · rw [c6, oM.2.2.1 12 (by decide)]
      exact r.2.2
  have H' : wfH d (aB a + 1) (hsP a hs (c1 (hs a) (oldI k) v)) ks := wfH_push hh hwc (fun i hi => hh.2.2 i (by rw [c6] at hi; exact hi))
  have hx' : XD d σ2 := XD_oS hx oX (by decide) (by decide)
  have hm' : MD d τ2 := MD_oS hm oM (by decide) (by decide)
  refine ⟨?_, d, hw, hx', hm', ?_, _, _, _, _, H', X', M'⟩
  · obtain ⟨hT, hF, hR, hI, hG, hO⟩ := hQ
    unfold rQ rT rF rR rI rG rO
    rw [oX.1 3 (by decide), oX.1 4 (by decide), oX.1 5 (by decide), oX.1 2 (by decide), oX.1 22 (by decide), oX.2.2.1 0 (by decide), oX.2.2.1 30 (by decide), oX.2.2.1 29 (by decide), oX.2.2.1 1 (by decide), oM.1 0 (by decide), oM.1 6 (by decide), oM.1 7 (by decide), oM.1 30 (by decide), oM.2.1 5 (by decide), oM.2.2.1 0 (by decide), oM.2.2.1 1 (by decide), oM.2.2.1 15 (by decide)]
    exact ⟨hT, hF, hR, hI, hG, hO⟩
  · unfold rS
    rw [oX.1 0 (by decide), oX.1 1 (by decide), oX.2.2.1 28 (by decide), oM.1 28 (by decide), oM.1 29 (by decide), oM.2.2.1 14 (by decide)]
    exact hS
theorem sim_rule : Sim_rule Rel := by
  intro a1 a2 σx σm h hl
  obtain ⟨z, h1, h2, rfl⟩ := zI_of a1
  obtain ⟨l, hl', rfl, -⟩ := yn hl
  have h' := h
  obtain ⟨hQ, d, hw, hx, hm, hS, a, w, hs, ks, hh, hX, hM⟩ := h
  have hr := hw.2.2.1
  have hc := hh.2.1 a (Nat.le_refl a)
  have hf := hc.2.2.1
  have hp : 2 ^ nR d ≤ 2 ^ 6 := Nat.pow_le_pow_right (by omega) hr
  unfold f_BH_rule f_M_rule
  rw [hx.2.2.1, m_ruleMany hm, bp_s]
  have i1 : f_M_isIn (zI z).toInt64 0 (zI (nR d) - 1).toInt64 σm = some (if 0 ≤ z ∧ z < nR d then zI 1 else zI 0) := by
    simp (disch := omega) only [zI_lit, zJ_lit, zI_neg, zJ_neg, zI_add, zI_sub, zI_mul, zJ_add, zJ_sub, zJ_mul, zI_lt, zI_le, zI_eq, zJ_lt, zJ_le, zJ_eq, zJ_w, zJ_n, in_z, zI_cl, zI_in, nz_z, nzJ_z, iMin_z, iMax_z, lg_cmp_lt, lg_cmp_le, lg_cmp_gt, lg_cmp_ge, lg_cmp_eq, lt_q, gd_q, bp_q, bd_q, Int.toNat_natCast, Int.toNat_zero, Int.toNat_one, Int.reduceToNat, ite_true, ite_false, bz, isB_i, isB0, isB1, lt_m1]
  rw [i1, bp_s]
  have lt0 : (zI z < (0 : Int32)) ↔ z < 0 := by
    have : (0 : Int32) = zI 0 := rfl
    rw [this, zI_lt (by omega) (by omega) (by omega) (by omega)]
  have le0 : (zI (nR d) ≤ zI z) ↔ (nR d : Int) ≤ z := by rw [zI_le (by omega) (by omega) (by omega) (by omega)]
  have no : ∃ r σx1 σm1, f_BH_rule_27 σx = some (r, σx1) ∧ f_M_rule_39 σm = some (r, σm1) ∧ Rel σx1 σm1 := ⟨_, _, _, rfl, rfl, rel_no (k := 3) (by omega) h'⟩
  by_cases c : 0 ≤ z ∧ z < nR d
  · rw [if_neg (fun e => by have := lt0.mp e; omega), if_neg (fun e => by have := le0.mp e; omega), if_neg (fun e => bz0.mp e c)]
    obtain ⟨k, rfl⟩ := Int.eq_ofNat_of_zero_le c.1
    have x19 : sI σx 19 = zI (hs a 2) := hX.2.1.2.2.1
    have m2 : sA σm 11 2 = zI (hs a 2) := hM.2.2.2.1.1 2 (by omega)
    have bit : (zI (hs a 2) >>> (zI (k : Int) &&& 31)) &&& 1 = zI (hs a 2 / 2 ^ k % 2 : Nat) := bit_z (by omega) (by omega)
    unfold f_Book_isInForce f_M_rule_35
    rw [cl2, x19, m2, bit]
    have b01 : hs a 2 / 2 ^ k % 2 < 2 := Nat.mod_lt _ (by omega)
    generalize hv : hs a 2 / 2 ^ k % 2 = v at b01
    have key : ∀ (r : Nat), r ≤ 1 → ∃ rr σx1 σm1, (if zI (r : Int) = zI (l : Int) then f_BH_rule_27 σx else bp (f_Book_turnRule (zI (k : Int)) σx) fun σ_4 => some ((1 : Int32), σ_4)) = some (rr, σx1) ∧ (if zI (r : Int) = zI (l : Int) then f_M_rule_39 σm else bp (f_M_keeps σm) fun σ_2 => lt (uA σ_2 11 (upd (sA σ_2 11) 2 ((sA σ_2 11 2) ^^^ (1 <<< (zI (k : Int) &&& 31))))) fun σ_3 => some ((1 : Int32), σ_3)) = some (rr, σm1) ∧ Rel σx1 σm1 := by
      intro r hr1
      by_cases g : zI (r : Int) = zI (l : Int)
      · rw [if_pos g, if_pos g]
        exact no
      · rw [if_neg g, if_neg g]
        unfold f_Book_turnRule
        have old : oldI 3 = 2 := rfl
        have e3 : (3 : Int32) = zI (3 : Nat) := rfl
        obtain ⟨σ1, e1, o1, -⟩ := x_addAct (k := 3) (v := sI σx 19) hh.1 hX.1
        obtain ⟨τ1, e2, o2, -⟩ := m_keeps hh.1 hM.2.2.1 hM.1 hM.2.1
        have s19 : sI σ1 19 = zI (hs a 2) := by rw [o1.1 19 (by decide), x19]
        have t11 : sA τ1 11 = sA σm 11 := o2.2.2.1 11 (by decide)
        have xr : zI (hs a 2) ^^^ zI (2 ^ k : Nat) = zI (hs a 2 ^^^ 2 ^ k : Nat) := by
          have : 2 ^ k ≤ 2 ^ 6 := Nat.pow_le_pow_right (by omega) (by omega)
          exact xor_nat (by omega) (by omega)
        have xb : hs a 2 ^^^ 2 ^ k < 2 ^ nR d := Nat.xor_lt_two_pow hf (Nat.pow_lt_pow_right (by omega) (by omega))
        rw [e1, e2, bp_s, bp_s, lt_s', bp_s, lt_s', s19, t11, m2, pow_z (by omega), xr]
        rw [x19] at e1
        refine ⟨_, _, _, rfl, rfl, rel_act (k := 3) (v := hs a 2 ^^^ 2 ^ k) hQ hw hx hm hS hh hX hM (by omega) e1 e2 (oS_uI (by decide) oS_r) (oS_uA (by decide) oS_r) ?_ ?_ ?_⟩
        · obtain ⟨w0, w1, w2, w3⟩ := hc
          exact ⟨w0, w1, xb, w3⟩
        · obtain ⟨g17, g18, g19, g90, g91, g92, g24⟩ := hX.2.1
          refine ⟨?_, ?_, rfl, ?_, ?_, ?_, ?_⟩
          · exact (o1.1 17 (by decide)).trans g17
          · exact (o1.1 18 (by decide)).trans g18
          · show sA σ1 9 0 = _
            rw [o1.2.2.1 9 (by decide)]
            exact g90
          · show sA σ1 9 1 = _
            rw [o1.2.2.1 9 (by decide)]
            exact g91
          · show sA σ1 9 2 = _
            rw [o1.2.2.1 9 (by decide)]
            exact g92
          · exact (o1.1 24 (by decide)).trans g24
        · intro i
          rfl
    have k1 := key 1 (by omega)
    have k0 := key 0 (by omega)
    by_cases cv : v = 1
    · have g1 : zI (v : Int) = (1 : Int32) := by rw [cv]; rfl
      rw [if_pos g1, if_pos g1, bp_s]
      exact k1
    · have cv0 : v = 0 := by omega
      have g1 : ¬ zI (v : Int) = (1 : Int32) := by rw [cv0]; decide
      rw [if_neg g1, if_neg g1, bp_s]
      exact k0
  · rw [if_pos (bz0.mpr c)]
    by_cases c2 : z < 0
    · rw [if_pos (lt0.mpr c2)]
      exact no
    · rw [if_neg (fun e => c2 (lt0.mp e)), if_pos (le0.mpr (by omega))]
      exact no
theorem sim_set : Sim_set Rel := by
  intro a1 a2 σx σm h
  obtain ⟨z, h1, h2, rfl⟩ := zI_of a1
  obtain ⟨y, h3, h4, rfl⟩ := zI_of a2
  have h' := h
  obtain ⟨hQ, d, hw, hx, hm, hS, a, w, hs, ks, hh, hX, hM⟩ := h
  have hc := hh.2.1 a (Nat.le_refl a)
  have no : ∃ r σx1 σm1, f_BH_set_27 σx = some (r, σx1) ∧ f_M_set_55 (zI z) (zI y) 0 σm = some (r, σm1) ∧ Rel σx1 σm1 := by
    unfold f_M_set_55
    rw [if_pos rfl]
    exact ⟨_, _, _, rfl, rfl, rel_no (k := 3) (by omega) h'⟩
  have e0 : (0 : Int32) = zI 0 := rfl
  have e1 : (1 : Int32) = zI 1 := rfl
  have e2 : (2 : Int32) = zI 2 := rfl
  have e3 : (3 : Int32) = zI 3 := rfl
  by_cases c : 0 ≤ z ∧ z < 3
  · obtain ⟨k, rfl⟩ := Int.eq_ofNat_of_zero_le c.1
    have hk : k < 3 := by omega
    have ok : oldI k = 3 + k := if_pos hk
    -- what both do when it is taken
    have yes : ∀ v : Nat, y = v → wfC d (c1 (hs a) (oldI k) v) → ∃ r σx1 σm1, (bd (f_Book_change (zI k) (zI y) σx) fun r_4 σ_5 => some (r_4, σ_5)) = some (r, σx1) ∧ f_M_set_55 (zI k) (zI y) 1 σm = some (r, σm1) ∧ Rel σx1 σm1 := by
      intro v hv hwc
      subst hv
      unfold f_Book_change f_M_set_55
      have x9 : sA σx 9 k = zI (hs a (3 + k)) := by
        obtain ⟨-, -, -, g90, g91, g92, -⟩ := hX.2.1
        rcases (show k = 0 ∨ k = 1 ∨ k = 2 by omega) with e | e | e
        · rw [e]; exact g90
        · rw [e]; exact g91
        · rw [e]; exact g92
      obtain ⟨σ1, q1, o1, -⟩ := x_addAct (k := zI k) (v := sA σx 9 k) hh.1 hX.1
      obtain ⟨τ1, q2, o2, -⟩ := m_keeps hh.1 hM.2.2.1 hM.1 hM.2.1
      have s9 : sA σ1 9 = sA σx 9 := o1.2.2.1 9 (by decide)
      have t11 : sA τ1 11 = sA σm 11 := o2.2.2.1 11 (by decide)
      have ek : (3 + zI (k : Int) : Int32) = zI ((3 + k : Nat) : Int) := by simp only [zI_lit, zI_add]; rfl
      have mk : sA σm 11 (3 + k) = zI (hs a (3 + k)) := hM.2.2.2.1.1 (3 + k) (by omega)
      rw [if_neg (by decide)]
      rw [x9] at q1
      simp only [ek, zI_in (a := (k : Int)) (n := 3) (by omega) (by omega) (by omega), zI_in (a := ((3 + k : Nat) : Int)) (n := 10) (by omega) (by omega) (by omega), gd_q, zI_cl (a := (k : Int)) (by omega) (by omega), zI_cl (a := ((3 + k : Nat) : Int)) (by omega) (by omega), Int.toNat_natCast, lt_q, q1, q2, bp_q, bd_q, s9, t11, x9, mk]
      rw [← ok] at q1
      refine ⟨_, _, _, rfl, rfl, rel_act (k := k) (v := v) hQ hw hx hm hS hh hX hM (by omega) q1 q2 (oS_uA (by decide) oS_r) (oS_uA (by decide) oS_r) hwc ?_ ?_⟩
      · obtain ⟨g17, g18, g19, g90, g91, g92, g24⟩ := hX.2.1
        rw [ok]
        refine ⟨?_, ?_, ?_, ?_, ?_, ?_, ?_⟩
        · show sI σ1 17 = zI (if 0 = 3 + k then v else hs a 0 : Nat)
          rw [o1.1 17 (by decide), if_neg (by omega)]
          exact g17
        · show sI σ1 18 = zI (if 1 = 3 + k then v else hs a 1 : Nat)
          rw [o1.1 18 (by decide), if_neg (by omega)]
          exact g18
        · show sI σ1 19 = zI (if 2 = 3 + k then v else hs a 2 : Nat)
          rw [o1.1 19 (by decide), if_neg (by omega)]
          exact g19
        · show upd (sA σx 9) k (zI v) 0 = zI (if 3 = 3 + k then v else hs a 3 : Nat)
          rw [upd_e]
          by_cases q : k = 0
          · rw [if_pos q.symm, if_pos (by omega)]
          · rw [if_neg (by omega), if_neg (by omega)]
            exact g90
        · show upd (sA σx 9) k (zI v) 1 = zI (if 4 = 3 + k then v else hs a 4 : Nat)
          rw [upd_e]
          by_cases q : k = 1
          · rw [if_pos q.symm, if_pos (by omega)]
          · rw [if_neg (by omega), if_neg (by omega)]
            exact g91
        · show upd (sA σx 9) k (zI v) 2 = zI (if 5 = 3 + k then v else hs a 5 : Nat)
          rw [upd_e]
          by_cases q : k = 2
          · rw [if_pos q.symm, if_pos (by omega)]
          · rw [if_neg (by omega), if_neg (by omega)]
            exact g92
        · show sI σ1 24 = zI (if 6 = 3 + k then v else hs a 6 : Nat)
          rw [o1.1 24 (by decide), if_neg (by omega)]
          exact g24
      · intro i
        rw [ok]
        rfl
    -- the bounds
    have key : ∀ lo hi : Nat, lo ≤ 100 → hi ≤ 100 → stV 3 (zI k) = zI lo → stV 4 (zI k) = zI hi → (∀ v : Nat, lo ≤ v → v ≤ hi → wfC d (c1 (hs a) (oldI k) v)) → ∃ r σx1 σm1, f_BH_set (zI k) (zI y) σx = some (r, σx1) ∧ f_M_set_55 (zI k) (zI y) (if (lo : Int) ≤ y ∧ y ≤ hi then zI 1 else zI 0) σm = some (r, σm1) ∧ Rel σx1 σm1 := by
      intro lo hi l1 l2 s3 s4 hwc
      unfold f_BH_set
      rw [s3, s4, zI_in (by omega) (by omega) (by omega), gd_t, gd_t]
      have g1 : ¬ zI (k : Int) < (0 : Int32) := by
        rw [e0, zI_lt (by omega) (by omega) (by omega) (by omega)]
        omega
      have g2 : ¬ (3 : Int32) ≤ zI (k : Int) := by
        rw [e3, zI_le (by omega) (by omega) (by omega) (by omega)]
        omega
      rw [if_neg g1, if_neg g2]
      by_cases cy : (lo : Int) ≤ y ∧ y ≤ hi
      · rw [if_neg (by rw [zI_lt (by omega) (by omega) (by omega) (by omega)]; omega), if_pos (by rw [zI_le (by omega) (by omega) (by omega) (by omega)]; omega), if_pos cy]
        obtain ⟨v, hv⟩ := Int.eq_ofNat_of_zero_le (show 0 ≤ y by omega)
        exact yes v hv (hwc v (by omega) (by omega))
      · rw [if_neg cy]
        by_cases q : y < lo
        · rw [if_pos (by rw [zI_lt (by omega) (by omega) (by omega) (by omega)]; omega)]
          exact no
        · rw [if_neg (by rw [zI_lt (by omega) (by omega) (by omega) (by omega)]; omega), if_neg (by rw [zI_le (by omega) (by omega) (by omega) (by omega)]; omega)]
          exact no
    obtain ⟨w0, w1, w2, w3, w4, w5, w6, w7, w8⟩ := hc
    have i0 : f_M_isIn (zI y).toInt64 1 99 σm = some (if 1 ≤ y ∧ y ≤ 99 then zI 1 else zI 0) := by simp (disch := omega) only [zI_lit, zJ_lit, zI_neg, zJ_neg, zI_add, zI_sub, zI_mul, zJ_add, zJ_sub, zJ_mul, zI_lt, zI_le, zI_eq, zJ_lt, zJ_le, zJ_eq, zJ_w, zJ_n, in_z, zI_cl, zI_in, nz_z, nzJ_z, iMin_z, iMax_z, lg_cmp_lt, lg_cmp_le, lg_cmp_gt, lg_cmp_ge, lg_cmp_eq, lt_q, gd_q, bp_q, bd_q, Int.toNat_natCast, Int.toNat_zero, Int.toNat_one, Int.reduceToNat, ite_true, ite_false, bz, isB_i, isB0, isB1]
    have i1 : f_M_isIn (zI y).toInt64 0 90 σm = some (if 0 ≤ y ∧ y ≤ 90 then zI 1 else zI 0) := by simp (disch := omega) only [zI_lit, zJ_lit, zI_neg, zJ_neg, zI_add, zI_sub, zI_mul, zJ_add, zJ_sub, zJ_mul, zI_lt, zI_le, zI_eq, zJ_lt, zJ_le, zJ_eq, zJ_w, zJ_n, in_z, zI_cl, zI_in, nz_z, nzJ_z, iMin_z, iMax_z, lg_cmp_lt, lg_cmp_le, lg_cmp_gt, lg_cmp_ge, lg_cmp_eq, lt_q, gd_q, bp_q, bd_q, Int.toNat_natCast, Int.toNat_zero, Int.toNat_one, Int.reduceToNat, ite_true, ite_false, bz, isB_i, isB0, isB1]
    have i2 : f_M_isIn (zI y).toInt64 1 9 σm = some (if 1 ≤ y ∧ y ≤ 9 then zI 1 else zI 0) := by simp (disch := omega) only [zI_lit, zJ_lit, zI_neg, zJ_neg, zI_add, zI_sub, zI_mul, zJ_add, zJ_sub, zJ_mul, zI_lt, zI_le, zI_eq, zJ_lt, zJ_le, zJ_eq, zJ_w, zJ_n, in_z, zI_cl, zI_in, nz_z, nzJ_z, iMin_z, iMax_z, lg_cmp_lt, lg_cmp_le, lg_cmp_gt, lg_cmp_ge, lg_cmp_eq, lt_q, gd_q, bp_q, bd_q, Int.toNat_natCast, Int.toNat_zero, Int.toNat_one, Int.reduceToNat, ite_true, ite_false, bz, isB_i, isB0, isB1]
    unfold f_M_set f_M_set_54
    rw [i0, i1, i2, bp_s, bp_s, bp_s]
    rcases (show k = 0 ∨ k = 1 ∨ k = 2 by omega) with e | e | e
    · subst e
      rw [if_pos (by decide)]
      exact key 1 99 (by omega) (by omega) rfl rfl (fun v g1 g2 => ⟨w0, w1, w2, g1, g2, w5, w6, w7, w8⟩)
    · subst e
      rw [if_neg (by decide), if_pos (by decide)]
      exact key 0 90 (by omega) (by omega) rfl rfl (fun v g1 g2 => ⟨w0, w1, w2, w3, w4, g2, w6, w7, w8⟩)
    · subst e
      obtain ⟨r, σx1, σm1, k1, k2, k3⟩ := key 1 9 (by omega) (by omega) rfl rfl (fun v g1 g2 => ⟨w0, w1, w2, w3, w4, w5, g1, g2, w8⟩)
      refine ⟨r, σx1, σm1, k1, ?_, k3⟩
      rw [← k2]
      rw [if_neg (by decide), if_neg (by decide), if_pos (by decide)]
      by_cases q : 1 ≤ y ∧ y ≤ 9
      · rw [if_neg (fun e => bz0.mp e q), if_pos (show ((1 : Nat) : Int) ≤ y ∧ y ≤ ((9 : Nat) : Int) by omega)]
        rfl
      · rw [if_pos (bz0.mpr q), if_neg (show ¬ (((1 : Nat) : Int) ≤ y ∧ y ≤ ((9 : Nat) : Int)) by omega)]
        rfl
  · have hxno : f_BH_set (zI z) (zI y) σx = f_BH_set_27 σx := by
      unfold f_BH_set
      by_cases q : z < 0
      · rw [if_pos (by rw [e0, zI_lt (by omega) (by omega) (by omega) (by omega)]; omega)]
      · rw [if_neg (by rw [e0, zI_lt (by omega) (by omega) (by omega) (by omega)]; omega), if_pos (by rw [e3, zI_le (by omega) (by omega) (by omega) (by omega)]; omega)]
    rw [hxno]
    unfold f_M_set f_M_set_54
    rw [if_neg (by rw [e0, zI_eq (by omega) (by omega) (by omega) (by omega)]; omega), if_neg (by rw [e1, zI_eq (by omega) (by omega) (by omega) (by omega)]; omega), if_neg (by rw [e2, zI_eq (by omega) (by omega) (by omega) (by omega)]; omega)]
    exact no
theorem undo_21 {w : Nat} {σ : St} (hw : w < 20) (e27 : sI σ 27 = zI w) : ∀ (m k q : Nat) (g : Nat → Int32), k + m = 7 → m < q → (∀ i, i < k → g i = sA σ 13 (307 * w + i)) → ∃ g', f_M_undo_21 q (zI k) (uA σ 11 g) = f_M_undo_56 FU 0 (uA σ 11 g') ∧ (∀ i, i < 7 → g' i = sA σ 13 (307 * w + i)) := by
  intro m
  induction m with
  | zero =>
    intro k q g h1 h2 h3
    obtain ⟨q, rfl⟩ : ∃ r, q = r + 1 := ⟨q - 1, by omega⟩
    have e7 : (7 : Int32) = zI (7 : Nat) := rfl
    refine ⟨g, ?_, fun i hi => h3 i (by omega)⟩
    show f_M_undo_21b (f_M_undo_21 q) (zI k) (uA σ 11 g) = _
    unfold f_M_undo_21b
    rw [e7, if_pos (by rw [zI_le (by omega) (by omega) (by omega) (by omega)]; omega)]
  | succ m ih =>
    intro k q g h1 h2 h3
    obtain ⟨q, rfl⟩ : ∃ r, q = r + 1 := ⟨q - 1, by omega⟩
    have e7 : (7 : Int32) = zI (7 : Nat) := rfl
    have ei : (307 * zI (w : Int) + zI (k : Int) : Int32) = zI ((307 * w + k : Nat) : Int) := by simp only [zI_lit, zI_mul, zI_add]; rfl
    have e27' : sI (uA σ 11 g) 27 = zI w := e27
    have st : f_M_undo_21 (q + 1) (zI k) (uA σ 11 g) = f_M_undo_21 q (zI (k + 1 : Nat)) (uA σ 11 (upd g k (sA σ 13 (307 * w + k)))) := by
      show f_M_undo_21b (f_M_undo_21 q) (zI k) (uA σ 11 g) = _
      unfold f_M_undo_21b
      rw [e7, if_neg (by rw [zI_le (by omega) (by omega) (by omega) (by omega)]; omega), e27', ei, zI_in (by omega) (by omega) (by omega), gd_t, zI_in (by omega) (by omega) (by omega), gd_t, zI_cl (by omega) (by omega), zI_cl (by omega) (by omega), Int.toNat_natCast, Int.toNat_natCast, zS, lt_s', lt_s', uA_uA, sA_eq]
      rfl
    rw [st]
    refine ih (k + 1) q _ (by omega) (by omega) (fun i hi => ?_)
    rw [upd_e]
    by_cases c : i = k
    · rw [if_pos c, c]
    · rw [if_neg c]
      exact h3 i (by omega)
theorem undo_56 {w : Nat} {σ : St} (hw : w < 20) (e27 : sI σ 27 = zI w) : ∀ (m k q : Nat) (g : Nat → Int32), k + m = 300 → m < q → (∀ i, i < k → g i = sA σ 13 (307 * w + 7 + i)) → ∃ g', f_M_undo_56 q (zI k) (uA σ 12 g) = some (1, uI (uI (uA σ 12 g') 27 (zI ((w + 19) % 20 : Nat))) 26 (sI σ 26 - 1)) ∧ (∀ i, i < 300 → g' i = sA σ 13 (307 * w + 7 + i)) := by
  intro m
  induction m with
  | zero =>
    intro k q g h1 h2 h3
    obtain ⟨q, rfl⟩ : ∃ r, q = r + 1 := ⟨q - 1, by omega⟩
    have e7 : (300 : Int32) = zI (300 : Nat) := rfl
    refine ⟨g, ?_, fun i hi => h3 i (by omega)⟩
    show f_M_undo_56b (f_M_undo_56 q) (zI k) (uA σ 12 g) = _
    unfold f_M_undo_56b
    have e27' : sI (uA σ 12 g) 27 = zI w := e27
    have ew : iR (zI (w : Int) + 20 - 1) 20 = zI ((w + 19) % 20 : Nat) := by
      have e20 : (20 : Int32) = zI (20 : Nat) := rfl
      have e1 : (1 : Int32) = zI (1 : Nat) := rfl
      rw [e20, e1, zI_add, zI_sub, zI_rem (by omega) (by omega) (by omega) (by omega)]
      congr 1
      omega
    rw [e7, if_pos (by rw [zI_le (by omega) (by omega) (by omega) (by omega)]; omega), e27', ew]
    rfl
  | succ m ih =>
    intro k q g h1 h2 h3
    obtain ⟨q, rfl⟩ : ∃ r, q = r + 1 := ⟨q - 1, by omega⟩
    have e7 : (300 : Int32) = zI (300 : Nat) := rfl
    have ei : (307 * zI (w : Int) + 7 + zI (k : Int) : Int32) = zI ((307 * w + 7 + k : Nat) : Int) := by simp only [zI_lit, zI_mul, zI_add]; rfl
    have e27' : sI (uA σ 12 g) 27 = zI w := e27
    have st : f_M_undo_56 (q + 1) (zI k) (uA σ 12 g) = f_M_undo_56 q (zI (k + 1 : Nat)) (uA σ 12 (upd g k (sA σ 13 (307 * w + 7 + k)))) := by
      show f_M_undo_56b (f_M_undo_56 q) (zI k) (uA σ 12 g) = _
      unfold f_M_undo_56b
      rw [e7, if_neg (by rw [zI_le (by omega) (by omega) (by omega) (by omega)]; omega), e27', ei, zI_in (by omega) (by omega) (by omega), gd_t, zI_in (by omega) (by omega) (by omega), gd_t, zI_cl (by omega) (by omega), zI_cl (by omega) (by omega), Int.toNat_natCast, Int.toNat_natCast, zS, lt_s', lt_s', uA_uA, sA_eq]
      rfl
    rw [st]
    refine ih (k + 1) q _ (by omega) (by omega) (fun i hi => ?_)
    rw [upd_e]
    by_cases c : i = k
    · rw [if_pos c, c]
    · rw [if_neg c]
      exact h3 i (by omega)
theorem x_undo {d : FD} {b : Nat} {hs ks : Nat → Nat → Nat} {σ : St} (hh : wfH d (b + 1) hs ks) (hX : XH (b + 1) hs ks σ) : ∃ σ1, f_Book_takeBack σ = some σ1 ∧ oS [17, 18, 19, 23, 24] [] [9] [] σ σ1 ∧ XH b hs ks σ1 := by
  have ha := hh.1
  have hc0 := hh.2.1 b (by omega)
  have hc1 := hh.2.1 (b + 1) (Nat.le_refl _)
  obtain ⟨x23, ⟨g17, g18, g19, g90, g91, g92, g24⟩, xa, xr⟩ := hX
  obtain ⟨k, k10, k11, kst, k12⟩ := xa b (by omega)
  unfold f_Book_takeBack
  have e00 : (0 : Int32) = zI (0 : Nat) := rfl
  have e3 : (3 : Int32) = zI (3 : Nat) := rfl
  have m1 : zI ((b + 1 : Nat) : Int) - 1 = zI b := by
    rw [zI_lit, zI_sub]
    congr 1
    omega
  have h6 : hs b 6 ≤ hs (b + 1) 6 := stp_6 kst
  -- the acts below stay
  have tailX : ∀ σ1 : St, sI σ1 23 = zI b → oS [17, 18, 19, 23, 24] [] [9] [] σ σ1 → xC7 (hs b) σ1 → XH b hs ks σ1 := by
    intro σ1 e o hc
    refine ⟨e, hc, fun j hj => ?_, fun i hi hi2 => ?_⟩
    · rw [o.2.2.1 10 (by decide), o.2.2.1 11 (by decide), o.2.2.1 12 (by decide)]
      exact xa j (by omega)
    · rw [o.2.2.1 13 (by decide)]
      exact xr i (by omega) hi2
  rw [x23, if_neg (by rw [e00, zI_eq (by omega) (by omega) (by omega) (by omega)]; omega), m1, lt_s']
  have s23 : sI (uI σ 23 (zI b)) 23 = zI b := rfl
  have s10 : sA (uI σ 23 (zI b)) 10 = sA σ 10 := rfl
  have s11 : sA (uI σ 23 (zI b)) 11 = sA σ 11 := rfl
  rw [s23, zI_in (by omega) (by omega) (by omega), gd_t, zI_cl (by omega) (by omega), Int.toNat_natCast, s10, s11, k10, k11, lt_s']
  rcases kst with ⟨h1, st⟩ | ⟨h1, st⟩ | ⟨h1, st⟩
  · have ok : oldI k = 3 + k := if_pos h1
    rw [if_neg (by rw [e3, zI_le (by omega) (by omega) (by omega) (by omega)]; omega), gd_t, zI_in (by omega) (by omega) (by omega), gd_t, zI_cl (by omega) (by omega), Int.toNat_natCast, lt_s', ok]
    refine ⟨_, rfl, oS_uA (by decide) (oS_uI (by decide) oS_r), tailX _ rfl (oS_uA (by decide) (oS_uI (by decide) oS_r)) ?_⟩
    have st0 := st 0 (by omega) (by omega)
    have st1 := st 1 (by omega) (by omega)
    have st2 := st 2 (by omega) (by omega)
    have st6 := st 6 (by omega) (by omega)
    rw [st0] at g17
    rw [st1] at g18
    rw [st2] at g19
    rw [st6] at g24
    refine ⟨g17, g18, g19, ?_, ?_, ?_, g24⟩
    · show upd (sA σ 9) k (zI (hs b (3 + k))) 0 = zI (hs b 3)
      rw [upd_e]
      by_cases q : 0 = k
      · rw [if_pos q, ← q]
      · rw [if_neg q, g90, st 3 (by omega) (by omega)]
    · show upd (sA σ 9) k (zI (hs b (3 + k))) 1 = zI (hs b 4)
      rw [upd_e]
      by_cases q : 1 = k
      · rw [if_pos q, ← q]
      · rw [if_neg q, g91, st 4 (by omega) (by omega)]
    · show upd (sA σ 9) k (zI (hs b (3 + k))) 2 = zI (hs b 5)
      rw [upd_e]
      by_cases q : 2 = k
      · rw [if_pos q, ← q]
      · rw [if_neg q, g92, st 5 (by omega) (by omega)]
  · subst h1
    rw [if_pos (by rw [e3, zI_le (by omega) (by omega) (by omega) (by omega)]; omega), if_pos (by decide), gd_t, lt_s']
    refine ⟨_, rfl, oS_uI (by decide) (oS_uI (by decide) oS_r), tailX _ rfl (oS_uI (by decide) (oS_uI (by decide) oS_r)) ?_⟩
    rw [st 0 (by omega) (by omega)] at g17
    rw [st 1 (by omega) (by omega)] at g18
    rw [st 3 (by omega) (by omega)] at g90
    rw [st 4 (by omega) (by omega)] at g91
    rw [st 5 (by omega) (by omega)] at g92
    rw [st 6 (by omega) (by omega)] at g24
    exact ⟨g17, g18, rfl, g90, g91, g92, g24⟩
  · subst h1
    obtain ⟨t0, t1, t2, t3, t4, t5, t6, t7⟩ := st
    have k12' := k12 rfl
    rw [if_pos (by rw [e3, zI_le (by omega) (by omega) (by omega) (by omega)]; omega), if_neg (by decide)]
    have a12 : ∀ u v, sA (uI (uI (uI σ 23 (zI b)) 17 u) 18 v) 12 = sA σ 12 := fun u v => rfl
    have a11 : ∀ u, sA (uI (uI σ 23 (zI b)) 17 u) 11 = sA σ 11 := fun u => rfl
    have a23 : ∀ u, sI (uI (uI σ 23 (zI b)) 17 u) 23 = zI b := fun u => rfl
    have a23' : ∀ u v, sI (uI (uI (uI σ 23 (zI b)) 17 u) 18 v) 23 = zI b := fun u v => rfl
    have a17 : sI (uI σ 23 (zI b)) 17 = sI σ 17 := rfl
    have a24 : ∀ u v, sI (uI (uI (uI σ 23 (zI b)) 17 u) 18 v) 24 = sI σ 24 := fun u v => rfl
    simp only [lt_q, a12, a11, a23, a23', a17, a24, zI_in (a := (b : Int)) (n := 20) (by omega) (by omega) (by omega), gd_q, zI_cl (a := (b : Int)) (by omega) (by omega), Int.toNat_natCast, k11, k12', g17, g24]
    refine ⟨_, rfl, oS_uI (by decide) (oS_uI (by decide) (oS_uI (by decide) (oS_uI (by decide) oS_r))), tailX _ rfl (oS_uI (by decide) (oS_uI (by decide) (oS_uI (by decide) (oS_uI (by decide) oS_r)))) ?_⟩
    rw [t2] at g19
    rw [t3] at g90
    rw [t4] at g91
    rw [t5] at g92
    refine ⟨?_, rfl, g19, g90, g91, g92, ?_⟩
    · show zI (hs (b + 1) 0) - 1 = zI (hs b 0)
      rw [t0, zI_lit, zI_sub]
      congr 1
      omega
    · show zI (hs (b + 1) 6) - zI ((hs (b + 1) 6 - hs b 6 : Nat) : Int) = zI (hs b 6)
      rw [zI_sub]
      congr 1
      omega
theorem sim_undo : Sim_undo Rel := by
  intro σx σm h
  have h' := h
  obtain ⟨hQ, d, hw, hx, hm, hS, a, w, hs, ks, hh, hX, hM⟩ := h
  unfold f_BH_undo f_M_undo
  rw [hX.1, hM.1]
  have e00 : (0 : Int32) = zI (0 : Nat) := rfl
  have ha := hh.1
  by_cases c : a = 0
  · subst c
    rw [if_pos (by decide), if_pos (by decide)]
    exact ⟨_, _, _, rfl, rfl, rel_no (k := 4) (by omega) h'⟩
  · have cc : ¬ zI (a : Int) = 0 := by
      rw [e00, zI_eq (by omega) (by omega) (by omega) (by omega)]
      omega
    rw [if_neg cc, if_neg cc]
    obtain ⟨b, rfl⟩ : ∃ b, a = b + 1 := ⟨a - 1, by omega⟩
    obtain ⟨σ1, q1, oX, X'⟩ := x_undo hh hX
    have hw2 := hM.2.2.1
    obtain ⟨g, g1, g2⟩ := undo_21 (σ := σm) hw2 hM.2.1 7 0 FU (sA σm 11) (by omega) (FU_gt (by omega)) (fun i hi => by omega)
    rw [uA_same] at g1
    obtain ⟨g', p1, p2⟩ := undo_56 (σ := uA σm 11 g) hw2 hM.2.1 300 0 FU (sA (uA σm 11 g) 12) (by omega) (FU_gt (by omega)) (fun i hi => by omega)
    rw [uA_same] at p1
    have g1' : f_M_undo_21 FU 0 σm = _ := g1
    have p1' : f_M_undo_56 FU 0 (uA σm 11 g) = _ := p1
    rw [q1, bp_s, g1', p1']
    have s26 : sI (uA σm 11 g) 26 = zI ((b + 1 : Nat) : Int) := hM.1
    have m1 : zI ((b + 1 : Nat) : Int) - 1 = zI b := by
      rw [zI_lit, zI_sub]
      congr 1
      omega
    rw [s26, m1]
    have em : mAt (b + 1) w b = w := by unfold mAt; omega
    have hB := hM.2.2.2.2 b (by omega)
    rw [em] at hB
    have oM : oS [26, 27] [] [11, 12] [] σm (uI (uI (uA (uA σm 11 g) 12 g') 27 (zI ((w + 19) % 20 : Nat))) 26 (zI b)) := oS_uI (by decide) (oS_uI (by decide) (oS_uA (by decide) (oS_uA (by decide) oS_r)))
    refine ⟨_, _, _, rfl, rfl, ?_, d, hw, XD_oS hx oX (by decide) (by decide), MD_oS hm oM (by decide) (by decide), ?_, b, (w + 19) % 20, hs, ks, ?_, X', ?_⟩
    · obtain ⟨hT, hF, hR, hI, hG, hO⟩ := hQ
      unfold rQ rT rF rR rI rG rO
      rw [oX.1 3 (by decide), oX.1 4 (by decide), oX.1 5 (by decide), oX.1 2 (by decide), oX.1 22 (by decide), oX.2.2.1 0 (by decide), oX.2.2.1 30 (by decide), oX.2.2.1 29 (by decide), oX.2.2.1 1 (by decide), oM.1 0 (by decide), oM.1 6 (by decide), oM.1 7 (by decide), oM.1 30 (by decide), oM.2.1 5 (by decide), oM.2.2.1 0 (by decide), oM.2.2.1 1 (by decide), oM.2.2.1 15 (by decide)]
      exact ⟨hT, hF, hR, hI, hG, hO⟩
    · unfold rS
      rw [oX.1 0 (by decide), oX.1 1 (by decide), oX.2.2.1 28 (by decide), oM.1 28 (by decide), oM.1 29 (by decide), oM.2.2.1 14 (by decide)]
      exact hS
    · have := hs_mono2 hX b (by omega)
      exact ⟨by omega, fun j hj => hh.2.1 j (by omega), fun i hi => hh.2.2 i (by omega)⟩
    · refine ⟨rfl, rfl, Nat.mod_lt _ (by omega), ?_, fun j hj => ?_⟩
      · refine ⟨fun k hk => ?_, ?_, fun i j hi hj => ?_⟩
        · show g k = _
          rw [g2 k (by omega)]
          exact hB.1 k hk
        · show g 6 = _
          rw [g2 6 (by omega)]
          exact hB.2.1
        · show g' (5 * i + j) = _
          rw [p2 _ (by omega)]
          exact hB.2.2 i j hi hj
      · have em2 : mAt b ((w + 19) % 20) j = mAt (b + 1) w j := by unfold mAt; omega
        rw [em2]
        exact hM.2.2.2.2 j (by omega)
