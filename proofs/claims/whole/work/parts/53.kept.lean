-- ===== kept, reach =====
theorem stp_6 {k : Nat} {c c' : Nat → Nat} (h : stp k c c') : c 6 ≤ c' 6 := by
  rcases h with ⟨h1, h⟩ | ⟨h1, h⟩ | ⟨h1, h⟩
  · rw [h 6 (by omega) (by omega)]
    exact Nat.le_refl _
  · rw [h 6 (by omega) (by omega)]
    exact Nat.le_refl _
  · exact h.2.2.2.2.2.2.1
theorem hs_mono {a : Nat} {hs ks : Nat → Nat → Nat} {σ : St} (hX : XH a hs ks σ) : ∀ j, j ≤ a → hs 0 6 ≤ hs j 6 := by
  intro j
  induction j with
  | zero => intro _; exact Nat.le_refl _
  | succ j ih =>
    intro hj
    obtain ⟨k, -, -, h, -⟩ := hX.2.2.1 j (by omega)
    exact Nat.le_trans (ih (by omega)) (stp_6 h)
/-- what is told of the kept blows -/
def kt (c : Nat → Nat) : Nat := min 60 (c 6)
def kI (c : Nat → Nat) (ks : Nat → Nat → Nat) (i : Nat) : Nat → Nat := ks (c 6 - kt c + i)
theorem kC_f {d : FD} {k : Nat → Nat} (h : wfK d k) (hd : wfD d) : kC k < 2147483648 ∧ kC k / 2 ^ 14 = k 0 ∧ kC k / 2 ^ 11 % 8 = k 1 ∧ kC k / 2 ^ 8 % 8 = k 2 ∧ kC k / 2 ^ 7 % 2 = k 3 ∧ kC k % 128 = k 4 := by
  obtain ⟨h0, h1, h2, h3, h4⟩ := h
  have := hd.2.1
  unfold kC
  simp only [Nat.reducePow]
  refine ⟨by omega, by omega, by omega, by omega, by omega, by omega⟩
section
variable {d : FD} {a w : Nat} {hs ks : Nat → Nat → Nat} {σx σm : St}
theorem x_toldB (hh : wfH d a hs ks) (hX : XH a hs ks σx) : f_Book_toldBlows σx = some (zI (kt (hs a))) := by
  have hc := hh.2.1 a (Nat.le_refl a)
  have hk := hc.2.2.2.2.2.2.2.2
  have h0 := hc.1
  unfold f_Book_toldBlows
  rw [hX.2.1.2.2.2.2.2.2]
  have e6 : (60 : Int32) = zI 60 := rfl
  rw [e6, iMin_z (by omega) (by omega) (by omega) (by omega)]
  unfold kt
  congr 2
  omega
theorem x_told {i j : Nat} (hw : wfD d) (hh : wfH d a hs ks) (hX : XH a hs ks σx) (hi : i < kt (hs a)) (hj : j ≤ 4) : f_Book_told (zI i) (zI j) σx = some (zI (kI (hs a) ks i j)) := by
  have hc := hh.2.1 a (Nat.le_refl a)
  have hk := hc.2.2.2.2.2.2.2.2
  have h0 := hc.1
  unfold f_Book_told
  have hkt : kt (hs a) ≤ 60 ∧ kt (hs a) ≤ hs a 6 := by unfold kt; omega
  rw [x_toldB hh hX, bp_s, hX.2.1.2.2.2.2.2.2, zI_sub, zI_add, lt_s']
  have e1 : ((hs a 6 : Int) - (kt (hs a) : Int) + (i : Int)) = ((hs a 6 - kt (hs a) + i : Nat) : Int) := by omega
  rw [e1]
  generalize hx : hs a 6 - kt (hs a) + i = x
  have e0 : (0 : Int32) = zI 0 := rfl
  have e7 : (700 : Int32) = zI 700 := rfl
  have hmono := hs_mono hX a (Nat.le_refl a)
  have hwk := hh.2.2 x (by omega)
  have hr : sA σx 13 (x % 700) = zI (kC (ks x)) := hX.2.2.2 x (by omega) (by unfold kt at hx hkt hi; omega)
  obtain ⟨f0, f1, f2, f3, f4, f5⟩ := kC_f hwk hw
  have e8 : ((x : Int) % 700).toNat = x % 700 := by omega
  rw [if_pos (by rw [e0, zI_le (by omega) (by omega) (by omega) (by omega)]; omega), e7, zI_rem (by omega) (by omega) (by omega) (by omega), zI_in (by omega) (by omega) (by omega), gd_t, zI_cl (by omega) (by omega), e8, hr, lt_s']
  have q14 : zI (kC (ks x)) >>> ((14 : Int32) &&& 31) = zI (ks x 0) := by rw [← f1]; exact shr_z (k := 14) f0 (by omega)
  have q11 : (zI (kC (ks x)) >>> ((11 : Int32) &&& 31)) &&& 7 = zI (ks x 1) := by
    have hd : kC (ks x) / 2 ^ 11 ≤ kC (ks x) := Nat.div_le_self _ _
    have e : zI (kC (ks x)) >>> ((11 : Int32) &&& 31) = _ := shr_z (k := 11) f0 (by omega)
    rw [e, ← f2]
    exact and_z 3 (by omega) (by omega)
  have q8 : (zI (kC (ks x)) >>> ((8 : Int32) &&& 31)) &&& 7 = zI (ks x 2) := by
    have hd : kC (ks x) / 2 ^ 8 ≤ kC (ks x) := Nat.div_le_self _ _
    have e : zI (kC (ks x)) >>> ((8 : Int32) &&& 31) = _ := shr_z (k := 8) f0 (by omega)
    rw [e, ← f3]
    exact and_z 3 (by omega) (by omega)
  have q7 : (zI (kC (ks x)) >>> ((7 : Int32) &&& 31)) &&& 1 = zI (ks x 3) := by
    have e : (zI (kC (ks x)) >>> ((7 : Int32) &&& 31)) &&& 1 = _ := bit_z (k := 7) f0 (by omega)
    rw [e, ← f4]
  have q0 : zI (kC (ks x)) &&& 127 = zI (ks x 4) := by
    rw [← f5]
    exact and_z 7 (by omega) (by omega)
  rw [q14, q11, q8, q7, q0]
  unfold kI
  rw [hx]
  match j, hj with
  | 0, _ => rfl
  | 1, _ => rfl
  | 2, _ => rfl
  | 3, _ => rfl
  | 4, _ => rfl
theorem m_told {i j : Nat} (hM : MH a w hs ks σm) (hi : i < kt (hs a)) (hj : j ≤ 4) : sA σm 12 (5 * i + j) = zI (kI (hs a) ks i j) := hM.2.2.2.1.2.2 i j hi (by omega)
end
theorem sim_kept : Sim_kept Rel := by
  intro a1 a2 σx σm h
  obtain ⟨z, h1, h2, rfl⟩ := zI_of a1
  obtain ⟨y, h3, h4, rfl⟩ := zI_of a2
  obtain ⟨hQ, d, hw, hx, hm, hS, a, w, hs, ks, hh, hX, hM⟩ := h
  have hkt : kt (hs a) ≤ 60 := by unfold kt; omega
  unfold f_BH_kept f_M_kept
  have m6 : sA σm 11 6 = zI (kt (hs a)) := hM.2.2.2.1.2.1
  rw [x_toldB hh hX, bp_s, cl6, m6]
  simp (disch := omega) only [zI_lit, zJ_lit, zI_neg, zJ_neg, zI_add, zI_sub, zI_mul, zJ_add, zJ_sub, zJ_mul, zI_lt, zI_le, zI_eq, zJ_lt, zJ_le, zJ_eq, zJ_w, zJ_n, in_z, zI_cl, zI_in, nz_z, nzJ_z, iMin_z, iMax_z, lg_cmp_lt, lg_cmp_le, lg_cmp_gt, lg_cmp_ge, lg_cmp_eq, lt_q, gd_q, bp_q, bd_q, Int.toNat_natCast, Int.toNat_zero, Int.toNat_one, Int.reduceToNat, ite_true, ite_false, bz, isB_i, isB0, isB1, lt_m1]
  by_cases c : 0 ≤ z ∧ z < kt (hs a)
  · rw [if_neg (show ¬ z < 0 by omega), if_neg (show ¬ (kt (hs a) : Int) ≤ z by omega), if_neg (show ¬ ¬ (0 ≤ z ∧ z < kt (hs a)) by omega)]
    by_cases c2 : 0 ≤ y ∧ y ≤ 4
    · rw [if_neg (show ¬ y < 0 by omega), if_pos (show y ≤ 4 by omega), if_neg (show ¬ ¬ (0 ≤ y ∧ y ≤ 4) by omega)]
      obtain ⟨i, rfl⟩ := Int.eq_ofNat_of_zero_le c.1
      obtain ⟨j, rfl⟩ := Int.eq_ofNat_of_zero_le c2.1
      rw [x_told hw hh hX (by omega) (by omega), bp_s]
      have e : (5 * (i : Int) + j).toNat = 5 * i + j := by omega
      simp (disch := omega) only [zI_lit, zJ_lit, zI_neg, zJ_neg, zI_add, zI_sub, zI_mul, zJ_add, zJ_sub, zJ_mul, zI_lt, zI_le, zI_eq, zJ_lt, zJ_le, zJ_eq, zJ_w, zJ_n, in_z, zI_cl, zI_in, nz_z, nzJ_z, iMin_z, iMax_z, lg_cmp_lt, lg_cmp_le, lg_cmp_gt, lg_cmp_ge, lg_cmp_eq, lt_q, gd_q, bp_q, bd_q, Int.toNat_natCast, Int.toNat_zero, Int.toNat_one, Int.reduceToNat, ite_true, ite_false, bz, isB_i, isB0, isB1, e]
      rw [m_told hM (by omega) (by omega)]
      exact ⟨_, rfl, rfl⟩
    · rw [if_pos c2]
      refine ⟨_, ?_, rfl⟩
      by_cases c3 : y < 0
      · rw [if_pos c3]
      · rw [if_neg c3, if_neg (by omega)]
  · rw [if_pos c]
    refine ⟨_, ?_, rfl⟩
    by_cases c3 : z < 0
    · rw [if_pos c3]
    · rw [if_neg c3, if_pos (by omega)]
/-- sums -/
def sm (f : Nat → Nat) : Nat → Nat → Nat
  | 0, _ => 0
  | j + 1, u => f u + sm f j (u + 1)
theorem sm_add (f g : Nat → Nat) : ∀ j u, sm (fun u => f u + g u) j u = sm f j u + sm g j u := by
  intro j
  induction j with
  | zero => intro u; rfl
  | succ j ih =>
    intro u
    unfold sm
    rw [ih (u + 1)]
    omega
theorem sm_0 : ∀ j u, sm (fun _ => 0) j u = 0 := by
  intro j
  induction j with
  | zero => intro u; rfl
  | succ j ih =>
    intro u
    unfold sm
    rw [ih (u + 1)]
theorem sm_one (t p : Nat) : ∀ j u, sm (fun v => if t = v then p else 0) j u = if u ≤ t ∧ t < u + j then p else 0 := by
  intro j
  induction j with
  | zero =>
    intro u
    rw [if_neg (by omega)]
    rfl
  | succ j ih =>
    intro u
    unfold sm
    rw [ih (u + 1)]
    by_cases c : t = u
    · rw [if_pos c, if_neg (by omega), if_pos (by omega)]
      rfl
    · rw [if_neg c, Nat.zero_add]
      by_cases c2 : u ≤ t ∧ t < u + (j + 1)
      · rw [if_pos c2, if_pos (by omega)]
      · rw [if_neg c2, if_neg (by omega)]
theorem sm_wc (tr : Nat → Nat) (p : Nat → Bool) (nt : Nat) : ∀ j o, (∀ k, o ≤ k → k < o + j → tr k < nt) → sm (fun u => wc (fun k => decide (tr k = u) && p k) j o) nt 0 = wc p j o := by
  intro j
  induction j with
  | zero =>
    intro o _
    exact sm_0 nt 0
  | succ j ih =>
    intro o h
    have e : (fun u => wc (fun k => decide (tr k = u) && p k) (j + 1) o) = (fun u => (if tr o = u then (if p o then 1 else 0) else 0) + wc (fun k => decide (tr k = u) && p k) j (o + 1)) := by
      funext u
      show (if (decide (tr o = u) && p o) = true then 1 else 0) + _ = _
      congr 1
      by_cases c : tr o = u
      · simp [c]
      · simp [c]
    rw [e, sm_add, ih (o + 1) (fun k h1 h2 => h k (by omega) (by omega)), sm_one, if_pos ⟨Nat.zero_le _, by have := h o (by omega) (by omega); omega⟩]
    rfl
section
variable {d : FD} {a w : Nat} {hs ks : Nat → Nat → Nat} {σx σm : St} {pm : Nat → Int} {x u : Nat}
def gR (c : Nat → Nat) (ks : Nat → Nat → Nat) (pm : Nat → Int) (x : Nat) (k : Nat) : Bool := decide (pm (kI c ks k 4) = x)
theorem x_at (hw : wfD d) (hh : wfH d a hs ks) (hX : XH a hs ks σx) (hp : ∀ h : Nat, h ≤ 99 → f_Fair_markOf (zI h) σx = some (zI (pm h)) ∧ f_M_past (zI h) σm = some (zI (pm h)) ∧ -1 ≤ pm h ∧ pm h < 6) (hx : x < 6) (hu : u < 8) :
    ∀ (m k cnt q : Nat), k + m = kt (hs a) → m < q → cnt ≤ k → f_BH_blowsAt_5 q (zI x) (zI u) (zI cnt) (zI k) σx = some (zI (cnt + wc (fun k => decide (kI (hs a) ks k 1 = u) && gR (hs a) ks pm x k) m k : Nat)) := by
  have hkt : kt (hs a) ≤ 60 ∧ kt (hs a) ≤ hs a 6 := by unfold kt; omega
  intro m
  induction m with
  | zero =>
    intro k cnt q h1 h2 h3
    obtain ⟨q, rfl⟩ : ∃ r, q = r + 1 := ⟨q - 1, by omega⟩
    unfold f_BH_blowsAt_5 f_BH_blowsAt_5b
    rw [x_toldB hh hX, bp_s, if_pos (by rw [zI_le (by omega) (by omega) (by omega) (by omega)]; omega)]
    rfl
  | succ m ih =>
    intro k cnt q h1 h2 h3
    obtain ⟨q, rfl⟩ : ∃ r, q = r + 1 := ⟨q - 1, by omega⟩
    unfold f_BH_blowsAt_5 f_BH_blowsAt_5b
    have t1 : f_Book_told (zI k) 1 σx = _ := x_told (i := k) (j := 1) hw hh hX (by omega) (by omega)
    have t4 : f_Book_told (zI k) 4 σx = _ := x_told (i := k) (j := 4) hw hh hX (by omega) (by omega)
    have hwk := hh.2.2 (hs a 6 - kt (hs a) + k) (by omega)
    have hk4 : kI (hs a) ks k 4 ≤ 99 := hwk.2.2.2.2
    have hk1 : kI (hs a) ks k 1 < nT d := hwk.2.1
    have hn := hw.2.1
    obtain ⟨p1, -, p3, p4⟩ := hp _ hk4
    rw [x_toldB hh hX, bp_s, if_neg (by rw [zI_le (by omega) (by omega) (by omega) (by omega)]; omega), t1, bp_s, t4, bp_s, p1, bp_s]
    simp only [zS, lt_q]
    unfold wc
    have A := ih (k + 1) cnt q (by omega) (by omega) (by omega)
    have B := ih (k + 1) (cnt + 1) q (by omega) (by omega) (by omega)
    by_cases c1 : kI (hs a) ks k 1 = u
    · rw [c1, if_pos rfl]
      by_cases c2 : pm (kI (hs a) ks k 4) = x
      · rw [c2, if_pos rfl, B]
        have : (decide (u = u) && gR (hs a) ks pm x k) = true := by unfold gR; simp [c2]
        rw [if_pos this, Nat.add_assoc]
      · rw [if_neg (by rw [zI_eq (by omega) (by omega) (by omega) (by omega)]; exact c2), A]
        have : ¬ (decide (u = u) && gR (hs a) ks pm x k) = true := by unfold gR; simp [c2]
        rw [if_neg this, Nat.zero_add]
    · rw [if_neg (by rw [zI_eq (by omega) (by omega) (by omega) (by omega)]; omega), A]
      have : ¬ (decide (kI (hs a) ks k 1 = u) && gR (hs a) ks pm x k) = true := by simp [c1]
      rw [if_neg this, Nat.zero_add]
theorem m_at (hw : wfD d) (hh : wfH d a hs ks) (hM : MH a w hs ks σm) (hp : ∀ h : Nat, h ≤ 99 → f_Fair_markOf (zI h) σx = some (zI (pm h)) ∧ f_M_past (zI h) σm = some (zI (pm h)) ∧ -1 ≤ pm h ∧ pm h < 6) (hx : x < 6) {v : Int} (hv : v = -1 ∨ (0 ≤ v ∧ v < 8)) {g : Nat → Bool} (hg : ∀ k, k < kt (hs a) → g k = ((decide (v = -1) || decide ((kI (hs a) ks k 1 : Int) = v)) && gR (hs a) ks pm x k)) :
    ∀ (m k cnt q : Nat), k + m = kt (hs a) → m < q → cnt ≤ k → f_M_reachedBy_5 q (zI x) (zI v) (zI cnt) (zI k) σm = some (zI (cnt + wc g m k : Nat)) := by
  have hkt : kt (hs a) ≤ 60 ∧ kt (hs a) ≤ hs a 6 := by unfold kt; omega
  have m6 : sA σm 11 6 = zI (kt (hs a)) := hM.2.2.2.1.2.1
  intro m
  induction m with
  | zero =>
    intro k cnt q h1 h2 h3
    obtain ⟨q, rfl⟩ : ∃ r, q = r + 1 := ⟨q - 1, by omega⟩
    unfold f_M_reachedBy_5 f_M_reachedBy_5b
    rw [cl6, m6, if_pos (by rw [zI_le (by omega) (by omega) (by omega) (by omega)]; omega)]
    rfl
  | succ m ih =>
    intro k cnt q h1 h2 h3
    obtain ⟨q, rfl⟩ : ∃ r, q = r + 1 := ⟨q - 1, by omega⟩
    unfold f_M_reachedBy_5 f_M_reachedBy_5b f_M_reachedBy_37
    have t1 := m_told (i := k) (j := 1) hM (by omega) (by omega)
    have t4 := m_told (i := k) (j := 4) hM (by omega) (by omega)
    have hwk := hh.2.2 (hs a 6 - kt (hs a) + k) (by omega)
    have hk4 : kI (hs a) ks k 4 ≤ 99 := hwk.2.2.2.2
    have hk1 : kI (hs a) ks k 1 < nT d := hwk.2.1
    have hn := hw.2.1
    obtain ⟨-, p1, p3, p4⟩ := hp _ hk4
    have i4 : (5 * zI (k : Int) + 4 : Int32) = zI ((5 * k + 4 : Nat) : Int) := by simp only [zI_lit, zI_mul, zI_add]; rfl
    have i1 : (5 * zI (k : Int) + 1 : Int32) = zI ((5 * k + 1 : Nat) : Int) := by simp only [zI_lit, zI_mul, zI_add]; rfl
    rw [cl6, m6, if_neg (by rw [zI_le (by omega) (by omega) (by omega) (by omega)]; omega), i4, i1, zI_in (by omega) (by omega) (by omega), gd_t, zI_in (by omega) (by omega) (by omega), gd_t, zI_cl (by omega) (by omega), zI_cl (by omega) (by omega), Int.toNat_natCast, Int.toNat_natCast, t4, t1, p1, bp_s]
    simp only [zS, lt_q]
    unfold wc
    have A := ih (k + 1) cnt q (by omega) (by omega) (by omega)
    have B := ih (k + 1) (cnt + 1) q (by omega) (by omega) (by omega)
    rw [hg k (by omega)]
    have em1 : (-1 : Int32) = zI (-1) := rfl
    have e1 : (zI v = (-1 : Int32)) ↔ v = -1 := by rw [em1, zI_eq (by omega) (by omega) (by omega) (by omega)]
    have e2 : (zI (kI (hs a) ks k 1) = zI v) ↔ (kI (hs a) ks k 1 : Int) = v := by rw [zI_eq (by omega) (by omega) (by omega) (by omega)]
    have e3 : (zI (pm (kI (hs a) ks k 4)) = zI x) ↔ pm (kI (hs a) ks k 4) = x := by rw [zI_eq (by omega) (by omega) (by omega) (by omega)]
    unfold gR
    by_cases c1 : v = -1 ∨ (kI (hs a) ks k 1 : Int) = v
    · have hB : ∀ {α : Type} (P Q : α), (if zI v = (-1 : Int32) then P else if zI (kI (hs a) ks k 1) = zI v then P else Q) = P := by
        intro α P Q
        by_cases c : v = -1
        · rw [if_pos (e1.mpr c)]
        · rw [if_neg (fun e => c (e1.mp e)), if_pos (e2.mpr (c1.resolve_left c))]
      rw [hB]
      have hb : (decide (v = -1) || decide ((kI (hs a) ks k 1 : Int) = v)) = true := by simpa using c1
      rw [hb, Bool.true_and]
      by_cases c2 : pm (kI (hs a) ks k 4) = x
      · rw [if_pos (e3.mpr c2), B, if_pos (decide_eq_true c2), Nat.add_assoc]
      · rw [if_neg (fun e => c2 (e3.mp e)), A, if_neg (fun e => c2 (of_decide_eq_true e)), Nat.zero_add]
    · rw [if_neg (fun e => c1 (.inl (e1.mp e))), if_neg (fun e => c1 (.inr (e2.mp e))), A]
      have hb : (decide (v = -1) || decide ((kI (hs a) ks k 1 : Int) = v)) = false := by simpa using c1
      rw [hb, Bool.false_and, if_neg (by decide), Nat.zero_add]
end
theorem wc_congr {f g : Nat → Bool} : ∀ j o, (∀ k, o ≤ k → k < o + j → f k = g k) → wc f j o = wc g j o := by
  intro j
  induction j with
  | zero => intro o _; rfl
  | succ j ih =>
    intro o h
    unfold wc
    rw [h o (by omega) (by omega), ih (o + 1) (fun k h1 h2 => h k (by omega) (by omega))]
section
variable {d : FD} {σx σm : St} {x : Nat} {f : Nat → Nat}
theorem r28 (hn : nT d ≤ 8) (hd : XD d σx) (hf : ∀ u, u < nT d → f_BH_blowsAt (zI x) (zI u) σx = some (zI (f u))) :
    ∀ (m u acc q : Nat), u + m = nT d → m < q → f_BH_reach_28 q (zI x) (zI acc) (zI u) σx = some (zI (acc + sm f m u : Nat)) := by
  intro m
  induction m with
  | zero =>
    intro u acc q h1 h2
    obtain ⟨q, rfl⟩ : ∃ r, q = r + 1 := ⟨q - 1, by omega⟩
    unfold f_BH_reach_28 f_BH_reach_28b
    rw [hd.2.1, if_pos (by rw [zI_le (by omega) (by omega) (by omega) (by omega)]; omega)]
    rfl
  | succ m ih =>
    intro u acc q h1 h2
    obtain ⟨q, rfl⟩ : ∃ r, q = r + 1 := ⟨q - 1, by omega⟩
    unfold f_BH_reach_28 f_BH_reach_28b
    rw [hd.2.1, if_neg (by rw [zI_le (by omega) (by omega) (by omega) (by omega)]; omega), hf u (by omega), bp_s, zI_add, ← Int.natCast_add, zS, lt_s', lt_s', ih (u + 1) (acc + f u) q (by omega) (by omega)]
    have e : sm f (m + 1) u = f u + sm f m (u + 1) := rfl
    rw [e, Nat.add_assoc]
theorem r66 (hn : nT d ≤ 8) (hd : XD d σx) (hm : MD d σm) (hb : ∀ u, f u ≤ 60) (hf : ∀ u, u < nT d → f_BH_blowsAt (zI x) (zI u) σx = some (zI (f u)) ∧ f_M_reachedBy (zI x) (zI u) σm = some (zI (f u))) :
    ∀ (m u b q q' : Nat) (who : Int32), u + m = nT d → m < q → m < q' → b ≤ 60 → ∃ r : Int32, f_BH_reach_66 q (zI x) (zI b) who (zI u) σx = some r ∧ f_M_reach_49 q' (zI x) who (zI b) (zI u) σm = some r := by
  intro m
  induction m with
  | zero =>
    intro u b q q' who h1 h2 h3 h4
    obtain ⟨q, rfl⟩ : ∃ r, q = r + 1 := ⟨q - 1, by omega⟩
    obtain ⟨q', rfl⟩ : ∃ r, q' = r + 1 := ⟨q' - 1, by omega⟩
    unfold f_BH_reach_66 f_BH_reach_66b f_M_reach_49 f_M_reach_49b
    have c : zI (nT d) ≤ zI (u : Int) := by
      rw [zI_le (by omega) (by omega) (by omega) (by omega)]
      omega
    rw [hd.2.1, m_trierMany hm, bp_s, if_pos c, if_pos c]
    exact ⟨_, rfl, rfl⟩
  | succ m ih =>
    intro u b q q' who h1 h2 h3 h4
    obtain ⟨q, rfl⟩ : ∃ r, q = r + 1 := ⟨q - 1, by omega⟩
    obtain ⟨q', rfl⟩ : ∃ r, q' = r + 1 := ⟨q' - 1, by omega⟩
    unfold f_BH_reach_66 f_BH_reach_66b f_M_reach_49 f_M_reach_49b
    have c : ¬ zI (nT d) ≤ zI (u : Int) := by
      rw [zI_le (by omega) (by omega) (by omega) (by omega)]
      omega
    obtain ⟨f1, f2⟩ := hf u (by omega)
    have := hb u
    rw [hd.2.1, m_trierMany hm, bp_s, if_neg c, if_neg c, f1, bp_s, f2, bp_s]
    simp only [zS, lt_q]
    by_cases g : f u ≤ b
    · rw [if_pos (by rw [zI_le (by omega) (by omega) (by omega) (by omega)]; omega), if_neg (by rw [zI_lt (by omega) (by omega) (by omega) (by omega)]; omega)]
      exact ih (u + 1) b q q' who (by omega) (by omega) (by omega) h4
    · rw [if_neg (by rw [zI_le (by omega) (by omega) (by omega) (by omega)]; omega), if_pos (by rw [zI_lt (by omega) (by omega) (by omega) (by omega)]; omega)]
      exact ih (u + 1) (f u) q q' _ (by omega) (by omega) (by omega) this
end
theorem sim_reach : Sim_reach Rel := by
  intro a1 a2 σx σm h
  obtain ⟨z, h1, h2, rfl⟩ := zI_of a1
  obtain ⟨y, h3, h4, rfl⟩ := zI_of a2
  obtain ⟨hQ, d, hw, hx, hm, hS, a, w, hs, ks, hh, hX, hM⟩ := h
  have hn := hw.1
  have hnt := hw.2.1
  have hkt : kt (hs a) ≤ 60 ∧ kt (hs a) ≤ hs a 6 := by unfold kt; omega
  obtain ⟨pm, hp⟩ : ∃ pm : Nat → Int, ∀ h : Nat, h ≤ 99 → f_Fair_markOf (zI h) σx = some (zI (pm h)) ∧ f_M_past (zI h) σm = some (zI (pm h)) ∧ -1 ≤ pm h ∧ pm h < 6 := by
    have : ∀ h : Nat, ∃ r : Int, h ≤ 99 → f_Fair_markOf (zI h) σx = some (zI r) ∧ f_M_past (zI h) σm = some (zI r) ∧ -1 ≤ r ∧ r < 6 := by
      intro h
      by_cases c : h ≤ 99
      · obtain ⟨r, q⟩ := past_both (z := (h : Int)) hw hx hm (by omega) (by omega)
        exact ⟨r, fun _ => q⟩
      · exact ⟨0, fun e => absurd e c⟩
    exact Classical.axiomOfChoice this
  unfold f_BH_reach f_M_reach
  rw [x_isMark hw hx h1 h2, cl3, hm.1]
  have i1 : f_M_isIn (zI z).toInt64 0 (zI (nM d) - 1).toInt64 σm = some (if 0 ≤ z ∧ z < nM d then zI 1 else zI 0) := by
    simp (disch := omega) only [zI_lit, zJ_lit, zI_neg, zJ_neg, zI_add, zI_sub, zI_mul, zJ_add, zJ_sub, zJ_mul, zI_lt, zI_le, zI_eq, zJ_lt, zJ_le, zJ_eq, zJ_w, zJ_n, in_z, zI_cl, zI_in, nz_z, nzJ_z, iMin_z, iMax_z, lg_cmp_lt, lg_cmp_le, lg_cmp_gt, lg_cmp_ge, lg_cmp_eq, lt_q, gd_q, bp_q, bd_q, Int.toNat_natCast, Int.toNat_zero, Int.toNat_one, Int.reduceToNat, ite_true, ite_false, bz, isB_i, isB0, isB1, lt_m1]
  have i2 : f_M_isIn (zI y).toInt64 0 1 σm = some (if 0 ≤ y ∧ y ≤ 1 then zI 1 else zI 0) := by
    simp (disch := omega) only [zI_lit, zJ_lit, zI_neg, zJ_neg, zI_add, zI_sub, zI_mul, zJ_add, zJ_sub, zJ_mul, zI_lt, zI_le, zI_eq, zJ_lt, zJ_le, zJ_eq, zJ_w, zJ_n, in_z, zI_cl, zI_in, nz_z, nzJ_z, iMin_z, iMax_z, lg_cmp_lt, lg_cmp_le, lg_cmp_gt, lg_cmp_ge, lg_cmp_eq, lt_q, gd_q, bp_q, bd_q, Int.toNat_natCast, Int.toNat_zero, Int.toNat_one, Int.reduceToNat, ite_true, ite_false, bz, isB_i, isB0, isB1]
  rw [i1, i2, bp_s, bp_s, bp_s]
  by_cases c : 0 ≤ z ∧ z < nM d
  · rw [if_neg (fun e => bz0.mp e c), if_neg (fun e => bz0.mp e c)]
    obtain ⟨x, rfl⟩ := Int.eq_ofNat_of_zero_le c.1
    have e00 : (0 : Int32) = zI (0 : Nat) := rfl
    have X : ∀ u, u < nT d → f_BH_blowsAt (zI x) (zI u) σx = some (zI (wc (fun k => decide (kI (hs a) ks k 1 = u) && gR (hs a) ks pm x k) (kt (hs a)) 0)) := by
      intro u hu
      have := x_at (x := x) (u := u) hw hh hX hp (by omega) (by omega) (kt (hs a)) 0 0 FU (by omega) (FU_gt (by omega)) (by omega)
      rw [Nat.zero_add] at this
      exact this
    have M : ∀ u, u < nT d → f_M_reachedBy (zI x) (zI u) σm = some (zI (wc (fun k => decide (kI (hs a) ks k 1 = u) && gR (hs a) ks pm x k) (kt (hs a)) 0)) := by
      intro u hu
      have := m_at (x := x) (v := u) (g := fun k => decide (kI (hs a) ks k 1 = u) && gR (hs a) ks pm x k) hw hh hM hp (by omega) (.inr (by omega)) (fun k _ => by
        have e1 : decide ((u : Int) = -1) = false := decide_eq_false (by omega)
        have e2 : decide ((kI (hs a) ks k 1 : Int) = u) = decide (kI (hs a) ks k 1 = u) := by
          by_cases q : kI (hs a) ks k 1 = u
          · rw [decide_eq_true q, decide_eq_true (by omega)]
          · rw [decide_eq_false q, decide_eq_false (by omega)]
        rw [e1, e2, Bool.false_or]) (kt (hs a)) 0 0 FU (by omega) (FU_gt (by omega)) (by omega)
      rw [Nat.zero_add] at this
      exact this
    by_cases c2 : 0 ≤ y ∧ y ≤ 1
    · rw [if_neg (fun e => bz0.mp e c2)]
      unfold f_BH_reach_19
      by_cases c3 : y = 0
      · subst c3
        have g0 : zI 0 = (0 : Int32) := rfl
        rw [if_pos g0, if_pos g0, if_pos g0]
        have R := r28 (x := x) hnt hx X (nT d) 0 0 FU (by omega) (FU_gt (by omega))
        rw [Nat.zero_add, sm_wc (fun k => kI (hs a) ks k 1) (gR (hs a) ks pm x) (nT d) (kt (hs a)) 0 (fun k _ hk => (hh.2.2 (hs a 6 - kt (hs a) + k) (by omega)).2.1)] at R
        have M2 := m_at (x := x) (v := -1) (g := gR (hs a) ks pm x) hw hh hM hp (by omega) (.inl rfl) (fun k _ => by
          have e1 : decide ((-1 : Int) = -1) = true := rfl
          rw [e1, Bool.true_or, Bool.true_and]) (kt (hs a)) 0 0 FU (by omega) (FU_gt (by omega)) (by omega)
        rw [Nat.zero_add] at M2
        have M2' : f_M_reachedBy (zI x) (-1) σm = _ := M2
        rw [M2', bp_s]
        exact ⟨_, R, rfl⟩
      · have c4 : y = 1 := by omega
        subst c4
        have g0 : ¬ zI 1 = (0 : Int32) := by decide
        have g1 : zI 1 = (1 : Int32) := rfl
        rw [if_neg g0, if_pos g1, if_neg g0, if_neg g0]
        obtain ⟨r, q1, q2⟩ := r66 (x := x) (σm := σm) hnt hx hm (f := fun u => wc (fun k => decide (kI (hs a) ks k 1 = u) && gR (hs a) ks pm x k) (kt (hs a)) 0) (fun u => Nat.le_trans (wc_b _ _ _) hkt.1) (fun u hu => ⟨X u hu, M u hu⟩) (nT d) 0 0 FU FU (-1) (by omega) (FU_gt (by omega)) (FU_gt (by omega)) (by omega)
        exact ⟨r, q1, q2⟩
    · rw [if_pos (bz0.mpr c2)]
      have e1 : (zI y = (0 : Int32)) ↔ y = 0 := by
        have : (0 : Int32) = zI 0 := rfl
        rw [this, zI_eq (by omega) (by omega) (by omega) (by omega)]
      have e2 : (zI y = (1 : Int32)) ↔ y = 1 := by
        have : (1 : Int32) = zI 1 := rfl
        rw [this, zI_eq (by omega) (by omega) (by omega) (by omega)]
      rw [if_neg (fun e => by have := e1.mp e; omega), if_neg (fun e => by have := e2.mp e; omega)]
      exact ⟨_, rfl, rfl⟩
  · rw [if_pos (bz0.mpr c), if_pos (bz0.mpr c)]
    exact ⟨_, rfl, rfl⟩
