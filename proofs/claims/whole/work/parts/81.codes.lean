-- ===== codes and what waits =====
def stkN (f : Nat → Int32) : List Nat → Prop
  | [] => True
  | v :: r => f r.length = zI v ∧ stkN f r
theorem stkN_c {f g : Nat → Int32} : ∀ {s : List Nat}, stkN f s → (∀ i, i < s.length → g i = f i) → stkN g s
  | [], _, _ => trivial
  | v :: r, h, hg => ⟨by rw [hg r.length (Nat.lt_succ_self _)]; exact h.1, stkN_c h.2 (fun i hi => hg i (Nat.lt_succ_of_lt hi))⟩
def wtM (W : List Nat) (σ : St) : Prop := sI σ 11 = zI W.length ∧ stkN (sA σ 7) W
def cM (L : List Nat) (σ : St) : Prop := sI σ 10 = zI L.length ∧ ∀ i, i < L.length → sA σ 6 i = zI (L.getD i 0)
def cX (L : List Nat) (σ : St) : Prop := sI σ 12 = zI L.length ∧ ∀ i, i < L.length → sA σ 7 i = zI (xC (L.getD i 0))
/-- what M's sums may touch -/
def eF (σ σ' : St) : Prop := oS [1, 3, 4, 5, 10, 11, 12, 13] [] [6, 7] [] σ σ' ∧ ∀ k, sA σ' 6 (1600 + k) = sA σ 6 (1600 + k)
theorem eF_r (σ : St) : eF σ σ := ⟨oS_r, fun _ => rfl⟩
theorem eF_t {σ σ' σ'' : St} (h : eF σ σ') (h2 : eF σ' σ'') : eF σ σ'' := ⟨oS_t h.1 h2.1, fun k => (h2.2 k).trans (h.2 k)⟩
theorem eF_o {I : List Nat} {σ σ' : St} (o : oS I [] [7] [] σ σ') (h : ∀ k, k ∈ I → k ∈ [1, 3, 4, 5, 10, 11, 12, 13]) : eF σ σ' := ⟨oS_w o h (by decide) (by decide) (by decide), fun k => by rw [o.2.2.1 6 (by decide)]⟩
theorem eF_i {I : List Nat} {σ σ' : St} (o : oS I [] [] [] σ σ') (h : ∀ k, k ∈ I → k ∈ [1, 3, 4, 5, 10, 11, 12, 13]) : eF σ σ' := eF_o (oS_w o (fun _ h => h) (by decide) (by decide) (by decide)) h
theorem wtM_o {W : List Nat} {I J A B : List Nat} {σ σ' : St} (h : wtM W σ) (o : oS I J A B σ σ') (hi : 11 ∉ I) (ha : 7 ∉ A) : wtM W σ' := ⟨by rw [o.1 11 hi]; exact h.1, by rw [o.2.2.1 7 ha]; exact h.2⟩
theorem cM_o {L : List Nat} {I J A B : List Nat} {σ σ' : St} (h : cM L σ) (o : oS I J A B σ σ') (hi : 10 ∉ I) (ha : 6 ∉ A) : cM L σ' := ⟨by rw [o.1 10 hi]; exact h.1, fun i hi' => by rw [o.2.2.1 6 ha]; exact h.2 i hi'⟩
theorem cX_o {L : List Nat} {I J A B : List Nat} {σ σ' : St} (h : cX L σ) (o : oS I J A B σ σ') (hi : 12 ∉ I) (ha : 7 ∉ A) : cX L σ' := ⟨by rw [o.1 12 hi]; exact h.1, fun i hi' => by rw [o.2.2.1 7 ha]; exact h.2 i hi'⟩
theorem getD_app {L : List Nat} {v i : Nat} : (L ++ [v]).getD i 0 = if i = L.length then v else L.getD i 0 := by
  rw [List.getD_eq_getElem?_getD, List.getD_eq_getElem?_getD]
  by_cases c : i < L.length
  · rw [List.getElem?_append_left c, if_neg (by omega)]
  · rw [List.getElem?_append_right (by omega)]
    by_cases c2 : i = L.length
    · rw [if_pos c2, c2, Nat.sub_self]
      rfl
    · rw [if_neg c2, List.getElem?_eq_none (show [v].length ≤ i - L.length by show 1 ≤ _; omega), List.getElem?_eq_none (show L.length ≤ i by omega)]
theorem m_code {L : List Nat} {c : Nat} {σ : St} (h : cM L σ) (hl : L.length < 1600) : ∃ σ1, f_M_code (zI c) σ = some σ1 ∧ cM (L ++ [c]) σ1 ∧ oS [10] [] [6] [] σ σ1 ∧ (∀ k, sA σ1 6 (1600 + k) = sA σ 6 (1600 + k)) := by
  have e0 : (0 + zI (L.length : Int) : Int32) = zI (L.length : Int) := by
    rw [zI_lit, zI_add]
    congr 1
    omega
  refine ⟨uI (uA σ 6 (upd (sA σ 6) L.length (zI c))) 10 (zI (L.length + 1 : Nat)), ?_, ⟨?_, fun i hi => ?_⟩, oS_uI (by decide) (oS_uA (by decide) oS_r), fun k => ?_⟩
  · unfold f_M_code
    have y : ∀ f, sI (uA σ 6 f) 10 = zI L.length := fun f => h.1
    rw [h.1, e0, zI_in (by omega) (by omega) (by omega), gd_t, zI_cl (by omega) (by omega), Int.toNat_natCast, lt_s', y, zS, lt_s']
  · rw [List.length_append]
    rfl
  · show upd (sA σ 6) L.length (zI c) i = _
    rw [upd_e, getD_app]
    by_cases q : i = L.length
    · rw [if_pos q, if_pos q]
    · rw [if_neg q, if_neg q]
      rw [List.length_append] at hi
      have hi' : i < L.length + 1 := hi
      exact h.2 i (by omega)
  · show upd (sA σ 6) L.length (zI c) (1600 + k) = _
    rw [upd_e, if_neg (by omega)]
theorem x_emit {L : List Nat} {c : Nat} {σ : St} (h : cX L σ) (hl : L.length < 1600) : ∃ σ1, f_Fair_emit (zI (xC c)) σ = some σ1 ∧ cX (L ++ [c]) σ1 ∧ oS [12] [] [7] [] σ σ1 := by
  have e16 : (1600 : Int32) = zI (1600 : Nat) := rfl
  refine ⟨uI (uA σ 7 (upd (sA σ 7) L.length (zI (xC c)))) 12 (zI (L.length + 1 : Nat)), ?_, ⟨?_, fun i hi => ?_⟩, oS_uI (by decide) (oS_uA (by decide) oS_r)⟩
  · unfold f_Fair_emit
    have y : ∀ f, sI (uA σ 7 f) 12 = zI L.length := fun f => h.1
    rw [h.1, e16, if_neg (by rw [zI_le (by omega) (by omega) (by omega) (by omega)]; omega), zI_in (by omega) (by omega) (by omega), gd_t, zI_cl (by omega) (by omega), Int.toNat_natCast, lt_s', y, zS, lt_s']
  · rw [List.length_append]
    rfl
  · show upd (sA σ 7) L.length (zI (xC c)) i = _
    rw [upd_e, getD_app]
    by_cases q : i = L.length
    · rw [if_pos q, if_pos q]
    · rw [if_neg q, if_neg q]
      rw [List.length_append] at hi
      have hi' : i < L.length + 1 := hi
      exact h.2 i (by omega)
/-- the state with v pushed -/
def psh (v : Nat) (k : Nat) (σ : St) : St := uI (uA σ 7 (upd (sA σ 7) k (zI v))) 11 (zI (k + 1 : Nat))
theorem psh_w {W : List Nat} {v : Nat} {σ : St} (h : wtM W σ) : wtM (v :: W) (psh v W.length σ) ∧ oS [11] [] [7] [] σ (psh v W.length σ) := by
  refine ⟨⟨rfl, ?_, stkN_c h.2 (fun i hi => ?_)⟩, oS_uI (by decide) (oS_uA (by decide) oS_r)⟩
  · show upd (sA σ 7) W.length (zI v) W.length = _
    rw [upd_e, if_pos rfl]
  · show upd (sA σ 7) W.length (zI v) i = _
    rw [upd_e, if_neg (by omega)]
theorem m_push {W : List Nat} {v : Nat} {σ : St} {α : Type} (h : wtM W σ) (hl : W.length < 1700) (K : St → Option α) : (gd (inB (sI σ 11) 1700) <| lt (uA σ 7 (upd (sA σ 7) (sI σ 11).toNatClampNeg (zI v))) fun σ_3 => lt (uI σ_3 11 ((sI σ_3 11) + 1)) fun σ_4 => K σ_4) = K (psh v W.length σ) := by
  have y : ∀ f, sI (uA σ 7 f) 11 = zI W.length := fun f => h.1
  rw [h.1, zI_in (by omega) (by omega) (by omega), gd_t, zI_cl (by omega) (by omega), Int.toNat_natCast, lt_s', y, zS, lt_s']
  rfl
theorem m_drops {W L : List Nat} {v : Nat} {σ : St} (h : wtM (v :: W) σ) (hc : cM L σ) (hl : L.length < 1600) (hw : W.length < 1700) : ∃ σ1, f_M_drops σ = some σ1 ∧ wtM W σ1 ∧ cM (L ++ [v]) σ1 ∧ oS [10, 11] [] [6] [] σ σ1 ∧ (∀ k, sA σ1 6 (1600 + k) = sA σ 6 (1600 + k)) := by
  have e1 : zI ((v :: W).length : Int) - 1 = zI (W.length : Int) := zP W.length
  have hc' : cM L (uI σ 11 (zI W.length)) := hc
  obtain ⟨σ1, a1, a2, a3, a4⟩ := m_code (c := v) hc' hl
  refine ⟨σ1, ?_, ⟨?_, ?_⟩, a2, oS_t (oS_uI (by decide) oS_r) (oS_w a3 (by decide) (by decide) (by decide) (by decide)), a4⟩
  · unfold f_M_drops
    have y : sI (uI σ 11 (zI W.length)) 11 = zI W.length := rfl
    have y7 : sA (uI σ 11 (zI W.length)) 7 W.length = zI v := h.2.1
    rw [h.1, e1, lt_s', y, zI_in (by omega) (by omega) (by omega), gd_t, zI_cl (by omega) (by omega), Int.toNat_natCast, y7, a1, bp_s]
  · rw [a3.1 11 (by decide)]
    rfl
  · rw [a3.2.2.1 7 (by decide)]
    exact h.2.2
theorem m_isOn {W : List Nat} {x : Nat} {σ : St} (h : wtM W σ) (hw : W.length ≤ 1700) (hx : x < 1000) (hall : ∀ v, v ∈ W → v < 1000) : f_M_isOn (zI x) σ = some (if W.head? = some x then 1 else 0) := by
  unfold f_M_isOn
  rw [h.1]
  cases W with
  | nil =>
    rw [if_pos (by decide), if_neg (by simp)]
  | cons v W =>
    have e0 : (0 : Int32) = zI (0 : Nat) := rfl
    have e1 : zI ((v :: W).length : Int) - 1 = zI (W.length : Int) := zP W.length
    have hl : (v :: W).length = W.length + 1 := rfl
    have hv := hall v (by simp)
    rw [if_neg (by rw [e0, zI_le (by omega) (by omega) (by omega) (by omega)]; omega), e1, zI_in (by omega) (by omega) (by omega), gd_t, zI_cl (by omega) (by omega), Int.toNat_natCast, h.2.1]
    have e : ((v :: W).head? = some x) ↔ v = x := by simp
    by_cases q : v = x
    · rw [if_pos (by rw [q]), if_pos (e.mpr q)]
    · rw [if_neg (by rw [zI_eq (by omega) (by omega) (by omega) (by omega)]; omega), if_neg (fun h => q (e.mp h))]
def isMk (v : Nat) : Bool := decide (20 ≤ v) && decide (v ≤ 24)
theorem m_isMark {v : Nat} (hv : v < 1000) (σ : St) : f_M_isMark (zI v) σ = some (if isMk v then 1 else 0) := by
  unfold f_M_isMark isMk
  have e20 : (20 : Int32) = zI (20 : Nat) := rfl
  have e24 : (24 : Int32) = zI (24 : Nat) := rfl
  rw [e20, e24]
  simp only [Bool.and_eq_true, decide_eq_true_eq]
  by_cases c : v < 20
  · rw [if_pos (by rw [zI_lt (by omega) (by omega) (by omega) (by omega)]; omega), if_neg (by omega)]
  · rw [if_neg (by rw [zI_lt (by omega) (by omega) (by omega) (by omega)]; omega)]
    by_cases c2 : 24 < v
    · rw [if_pos (by rw [zI_lt (by omega) (by omega) (by omega) (by omega)]; omega), if_neg (by omega)]
    · rw [if_neg (by rw [zI_lt (by omega) (by omega) (by omega) (by omega)]; omega), if_pos (by omega)]
/-- the mark that counts: above the base -/
def lastMk (bs : Nat) (W : List Nat) : Int := if W.length ≤ bs then -1 else match W with | [] => -1 | v :: _ => v
theorem stkN_app {f : Nat → Int32} : ∀ {P W : List Nat}, stkN f (P ++ W) → stkN f W
  | [], _, h => h
  | _ :: P, _, h => stkN_app (P := P) h.2
theorem m_waitsLast {bs : Nat} {W : List Nat} {σ : St} (h13 : sI σ 13 = zI bs) (hb : bs ≤ W.length) (hW : W.length ≤ 1700) (hm : W.length = bs ∨ ∃ v W1, W = v :: W1 ∧ isMk v = true) (hall : ∀ v, v ∈ W → v < 1000) : ∀ (P : List Nat) (q : Nat), P.length < q → (∀ v, v ∈ P → isMk v = false ∧ v < 1000) → (P ++ W).length ≤ 1700 → stkN (sA σ 7) (P ++ W) → f_M_waitsLast_7 q (zI (((P ++ W).length : Int) - 1)) σ = some (zI (lastMk bs W)) := by
  intro P
  induction P with
  | nil =>
    intro q hq hP hl hs
    obtain ⟨q, rfl⟩ : ∃ r, q = r + 1 := ⟨q - 1, by omega⟩
    show f_M_waitsLast_7b (f_M_waitsLast_7 q) (zI ((W.length : Int) - 1)) σ = _
    unfold f_M_waitsLast_7b f_M_waitsLast_34 lastMk
    rw [h13]
    rcases hm with hm | ⟨v, W1, rfl, hv⟩
    · rw [if_pos (by rw [zI_lt (by omega) (by omega) (by omega) (by omega)]; omega), if_pos (by rw [zI_lt (by omega) (by omega) (by omega) (by omega)]; omega), if_pos (by omega)]
      rfl
    · have hl1 : (v :: W1).length = W1.length + 1 := rfl
      have hvb := hall v (by simp)
      have e1 : ((v :: W1).length : Int) - 1 = (W1.length : Int) := by rw [hl1]; omega
      rw [e1]
      by_cases c : (v :: W1).length ≤ bs
      · rw [if_pos (by rw [zI_lt (by omega) (by omega) (by omega) (by omega)]; omega), if_pos (by rw [zI_lt (by omega) (by omega) (by omega) (by omega)]; omega), if_pos c]
        rfl
      · rw [if_neg (by rw [zI_lt (by omega) (by omega) (by omega) (by omega)]; omega), if_neg (by rw [zI_lt (by omega) (by omega) (by omega) (by omega)]; omega), if_neg c, zI_in (by omega) (by omega) (by omega), gd_t, gd_t, zI_cl (by omega) (by omega), Int.toNat_natCast]
        have hs1 : sA σ 7 W1.length = zI v := hs.1
        rw [hs1, m_isMark hvb, bp_s, hv, if_pos rfl, if_neg (by decide)]
  | cons u P ih =>
    intro q hq hP hl hs
    have hl1 : (u :: P).length = P.length + 1 := rfl
    obtain ⟨q, rfl⟩ : ∃ r, q = r + 1 := ⟨q - 1, by omega⟩
    have hu := hP u (by simp)
    have hl2 : (u :: P ++ W).length = (P ++ W).length + 1 := rfl
    have e1 : ((u :: P ++ W).length : Int) - 1 = ((P ++ W).length : Int) := by rw [hl2]; omega
    have hlW : W.length ≤ (P ++ W).length := by rw [List.length_append]; omega
    rw [e1]
    show f_M_waitsLast_7b (f_M_waitsLast_7 q) (zI ((P ++ W).length : Int)) σ = _
    unfold f_M_waitsLast_7b
    have hs1 : sA σ 7 (P ++ W).length = zI u := hs.1
    have em : zI ((P ++ W).length : Int) + (-1) = zI (((P ++ W).length : Int) - 1) := by
      rw [zI_lit, zI_neg, zI_add]
      rfl
    rw [h13, if_neg (by rw [zI_lt (by omega) (by omega) (by omega) (by omega)]; omega), zI_in (by omega) (by omega) (by omega), gd_t, zI_cl (by omega) (by omega), Int.toNat_natCast, hs1, m_isMark hu.2, bp_s, hu.1, if_pos (by decide), em, lt_s']
    exact ih q (by omega) (fun v hv => hP v (by simp [hv])) (by omega) hs.2
theorem m_waits {bs : Nat} {P W : List Nat} {σ : St} (h : wtM (P ++ W) σ) (h13 : sI σ 13 = zI bs) (hb : bs ≤ W.length) (hm : W.length = bs ∨ ∃ v W1, W = v :: W1 ∧ isMk v = true) (hall : ∀ v, v ∈ W → v < 1000) (hP : ∀ v, v ∈ P → isMk v = false ∧ v < 1000) (hl : (P ++ W).length ≤ 1700) : f_M_waitsLast σ = some (zI (lastMk bs W)) := by
  unfold f_M_waitsLast
  have hlW : W.length ≤ (P ++ W).length := by rw [List.length_append]; omega
  have hlP : P.length ≤ (P ++ W).length := by rw [List.length_append]; omega
  have e : zI ((P ++ W).length : Int) - 1 = zI (((P ++ W).length : Int) - 1) := by
    rw [zI_lit, zI_sub]
  rw [h.1, e, lt_s']
  exact m_waitsLast h13 hb (by omega) hm hall P FU (FU_gt (by omega)) hP hl h.2
theorem m_toMark {bs : Nat} {W : List Nat} (hb : bs ≤ W.length) (hm : W.length = bs ∨ ∃ v W1, W = v :: W1 ∧ isMk v = true) (hall : ∀ v, v ∈ W → v < 1000) : ∀ (P L : List Nat) (q : Nat) (σ : St), P.length < q → (∀ v, v ∈ P → isMk v = false ∧ v < 1000) → (P ++ W).length ≤ 1700 → L.length + P.length ≤ 1600 → wtM (P ++ W) σ → cM L σ → sI σ 13 = zI bs → ∃ σ1, f_M_dropsToMark_0 q σ = some σ1 ∧ wtM W σ1 ∧ cM (L ++ P) σ1 ∧ oS [10, 11] [] [6] [] σ σ1 ∧ (∀ k, sA σ1 6 (1600 + k) = sA σ 6 (1600 + k)) := by
  intro P
  induction P with
  | nil =>
    intro L q σ hq hP hl hl2 hw hc h13
    obtain ⟨q, rfl⟩ : ∃ r, q = r + 1 := ⟨q - 1, by omega⟩
    have hw' : wtM W σ := hw
    have hlW : W.length ≤ 1700 := hl
    refine ⟨σ, ?_, hw, by rw [List.append_nil]; exact hc, oS_r, fun _ => rfl⟩
    show f_M_dropsToMark_0b (f_M_dropsToMark_0 q) σ = _
    unfold f_M_dropsToMark_0b
    rw [hw'.1, h13]
    rcases hm with hm | ⟨v, W1, rfl, hv⟩
    · rw [if_pos (by rw [zI_le (by omega) (by omega) (by omega) (by omega)]; omega)]
    · have hl1 : (v :: W1).length = W1.length + 1 := rfl
      have hvb := hall v (by simp)
      have e1 : zI ((v :: W1).length : Int) - 1 = zI (W1.length : Int) := zP W1.length
      rw [e1, zI_in (by omega) (by omega) (by omega), gd_t, zI_cl (by omega) (by omega), Int.toNat_natCast, hw'.2.1, m_isMark hvb, bp_s, hv, if_neg (show ¬ ((if true = true then (1 : Int32) else 0) = 0) by decide), ite_self]
  | cons u P ih =>
    intro L q σ hq hP hl hl2 hw hc h13
    have hl1 : (u :: P).length = P.length + 1 := rfl
    obtain ⟨q, rfl⟩ : ∃ r, q = r + 1 := ⟨q - 1, by omega⟩
    have hu := hP u (by simp)
    have hl3 : (u :: P ++ W).length = (P ++ W).length + 1 := rfl
    have hlW : W.length ≤ (P ++ W).length := by rw [List.length_append]; omega
    have hw' : wtM (u :: (P ++ W)) σ := hw
    obtain ⟨σ1, a1, a2, a3, a4, a5⟩ := m_drops hw' hc (by omega) (by omega)
    obtain ⟨σ2, c1, c2, c3, c4, c5⟩ := ih (L ++ [u]) q σ1 (by omega) (fun v hv => hP v (by simp [hv])) (by omega) (by rw [List.length_append]; show L.length + 1 + P.length ≤ 1600; omega) a2 a3 (by rw [a4.1 13 (by decide)]; exact h13)
    refine ⟨σ2, ?_, c2, ?_, oS_t a4 c4, fun k => (c5 k).trans (a5 k)⟩
    · rw [← c1]
      show f_M_dropsToMark_0b (f_M_dropsToMark_0 q) σ = _
      unfold f_M_dropsToMark_0b
      have e1 : zI ((u :: P ++ W).length : Int) - 1 = zI ((P ++ W).length : Int) := zP (P ++ W).length
      have hs1 : sA σ 7 (P ++ W).length = zI u := hw.2.1
      rw [hw.1, h13, if_neg (by rw [zI_le (by omega) (by omega) (by omega) (by omega)]; omega), e1, zI_in (by omega) (by omega) (by omega), gd_t, zI_cl (by omega) (by omega), Int.toNat_natCast, hs1, m_isMark hu.2, bp_s, hu.1, if_pos (by decide), a1, bp_s]
    · have e : L ++ u :: P = L ++ [u] ++ P := by simp
      rw [e]
      exact c3
