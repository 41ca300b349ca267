theorem uI_id {σ : St} {k : Nat} {v : Int32} (h : sI σ k = v) : uI σ k v = σ := by
  obtain ⟨a, b, c, d⟩ := σ
  subst h
  show (upd a k (a k), b, c, d) = (a, b, c, d)
  have : upd a k (a k) = a := by
    funext j
    rw [upd_e]
    split
    · rename_i e; rw [e]
    · rfl
  rw [this]
theorem asks_bad {j : Nat} {σ : St} (h : ¬ sI σ 4 = 0) : f_M_asks j σ = some σ := by
  unfold f_M_asks
  rw [if_neg h]
theorem num_bad {x y : Int32} {σ : St} (h : ¬ sI σ 4 = 0) : f_M_number x y σ = some (0, σ) := by
  unfold f_M_number
  rw [if_neg h]
theorem takes_bad {j : Nat} {σ : St} (h : ¬ sI σ 4 = 0) : f_M_takes j σ = some (0, σ) := by
  unfold f_M_takes f_M_isHere
  rw [if_neg h, bd_s, if_pos rfl]
theorem sgn_bad {x : Int32} {σ : St} (h : ¬ sI σ 4 = 0) : f_M_asksSign x σ = some σ := by
  unfold f_M_asksSign
  rw [if_neg h]
section
variable {b : Nat → Nat} {n : Nat}
theorem p_word {s j : Nat} {st : Bool} {σx σm : St} (h : SY b n s st σx σm) (hj : j < 27) : (∃ σx' σm' s' st', f_Parser_passWord (zI j) σx = some (1, σx') ∧ f_M_asks j σm = some σm' ∧ SY b n s' st' σx' σm' ∧ oS [7, 8, 9, 10, 11] [] [] [] σx σx' ∧ oS [1, 3] [] [] [] σm σm' ∧ s < s') ∨ (∃ σx' σm', f_Parser_passWord (zI j) σx = some (0, σx') ∧ f_M_asks j σm = some σm' ∧ FL 1 s σx' σm' ∧ oS [4, 5] [] [] [] σx σx' ∧ oS [1, 3, 4, 5] [] [] [] σm σm') := by
  unfold f_Parser_passWord f_M_asks
  rw [if_pos h.2.2.2.2.1]
  rcases t_word h hj with ⟨σx', σm', s', st', h1, h2, h3, h4, h5, h6, h7, h8, h9⟩ | ⟨h1, h2, h3, h4, h5⟩
  · left
    refine ⟨σx', σm', s', st', ?_, ?_, h5, h6, h7, h8⟩
    · rw [h1, bp_s, if_neg (by decide), h2, bp_s]
    · rw [h4, bd_s, if_neg (by decide)]
  · right
    refine ⟨_, uI (uI (uI σm 1 (zI s)) 4 1) 5 (zI s), ?_, ?_, FL_wrong σx _, oS_uI (by decide) (oS_uI (by decide) oS_r), oS_uI (by decide) (oS_uI (by decide) (oS_uI (by decide) oS_r))⟩
    · rw [h1, bp_s, if_pos rfl, x_wrong h.2.2.1, bd_s]
      rfl
    · rw [h3, bd_s, if_pos rfl]
      have : sI (uI σm 1 (zI s)) 1 = zI s := rfl
      rw [this, m_fail 1 _ h4.2.2.2.2.1, bp_s]
theorem p_sign {s c : Nat} {st : Bool} {σx σm : St} (h : SY b n s st σx σm) (hc : isSg c) : (∃ σx' σm' s' st', f_Parser_passSign (zI c) σx = some (1, σx') ∧ f_M_asksSign (zI c) σm = some σm' ∧ SY b n s' st' σx' σm' ∧ oS [7, 8, 9, 10, 11] [] [] [] σx σx' ∧ oS [1, 3] [] [] [] σm σm' ∧ s < s') ∨ (∃ σx' σm', f_Parser_passSign (zI c) σx = some (0, σx') ∧ f_M_asksSign (zI c) σm = some σm' ∧ FL 1 s σx' σm' ∧ oS [4, 5] [] [] [] σx σx' ∧ oS [1, 3, 4, 5] [] [] [] σm σm') := by
  unfold f_M_asksSign
  rw [if_pos h.2.2.2.2.1]
  rcases t_sign h hc with ⟨σx', σm', s', st', h1, h2, h3, h4, h5, h6, h7, h8, h9⟩ | ⟨h1, h2, h3, h4⟩
  · left
    refine ⟨σx', σm', s', st', x_pass h1 h2, ?_, h4, h5, h6, h7⟩
    rw [h3, bd_s, if_neg (by decide)]
  · right
    refine ⟨_, uI (uI (uI σm 1 (zI s)) 4 1) 5 (zI s), x_passNo h1 (x_wrong h.2.2.1), ?_, FL_wrong σx _, oS_uI (by decide) (oS_uI (by decide) oS_r), oS_uI (by decide) (oS_uI (by decide) (oS_uI (by decide) oS_r))⟩
    rw [h2, bd_s, if_pos rfl]
    have : sI (uI σm 1 (zI s)) 1 = zI s := rfl
    rw [this, m_fail 1 _ h3.2.2.2.2.1, bp_s]
end
/-- where M keeps X's setting i -/
def tI (i : Nat) : Nat := [0, 3, 1, 2, 4, 5, 6, 7, 8].getD i 0
def sLo (i : Nat) : Nat := [1, 0, 1, 1, 0, 0, 0, 0, 0].getD i 0
def sHi (i : Nat) : Nat := [99, 90, 9, 4, 99, 20, 9, 9, 9].getD i 0
theorem sL_x : ∀ i : Fin 9, stV 3 (zI (i.val : Nat)) = zI (sLo i.val : Nat) ∧ stV 4 (zI (i.val : Nat)) = zI (sHi i.val : Nat) ∧ sLo i.val ≤ 9999 ∧ sHi i.val ≤ 9999 := by decide
theorem tI_i : ∀ i j : Fin 9, tI i.val = tI j.val → i = j := by decide
theorem tI_b : ∀ i : Fin 9, tI i.val < 9 := by decide
def fE (E : Nat → Nat) (k : Nat) : Nat := if k = 0 then 0 else E (k - 1)
def xD (d : FD) (u : Nat → Nat) (R : Nat) (E : Nat → Nat) (L : List Nat) (σ : St) : Prop := xN d σ ∧ (∀ k, k < nM d → sA σ 3 k = zI (mH d k)) ∧ (∀ t j, t < nT d → j < 6 → sA σ 5 (6 * t + j) = zI (tV d t j)) ∧ (∀ i, i < 9 → sA σ 6 i = zI (u i)) ∧ sI σ 15 = zI R ∧ (∀ k, k < R → sA σ 8 k = zI (E k)) ∧ cX L σ
def mD (d : FD) (u : Nat → Nat) (R : Nat) (E : Nat → Nat) (L : List Nat) (σ : St) : Prop := mN d σ ∧ (∀ k, k < nM d → sA σ 3 k = zI (mH d k)) ∧ (∀ t j, t < nT d → j < 6 → sA σ 4 (6 * t + j) = zI (tV d t j)) ∧ (∀ i, i < 9 → sA σ 5 (tI i) = zI (u i)) ∧ sA σ 2 2 = zI R ∧ (∀ k, k < R → sA σ 8 k = zI (fE E k) ∧ sA σ 9 k = zI (E k)) ∧ cM L σ
def wfDr (d : FD) (u : Nat → Nat) (R : Nat) (E : Nat → Nat) (L : List Nat) (s : Nat) : Prop := wfD d ∧ (∀ i, i < 9 → sLo i ≤ u i ∧ u i ≤ sHi i) ∧ R ≤ 6 ∧ (∀ k, k < R → E k ≤ L.length ∧ tOk (fun i => L.getD i 0) (fE E k) (E k)) ∧ fE E R = L.length ∧ L.length ≤ s
theorem xD_o {d : FD} {u : Nat → Nat} {R : Nat} {E : Nat → Nat} {L : List Nat} {I J A B : List Nat} {σ σ' : St} (h : xD d u R E L σ) (o : oS I J A B σ σ') (hi : ∀ k, k ∈ [12, 13, 14, 15] → k ∉ I) (ha : ∀ k, k ∈ [2, 3, 4, 5, 6, 7, 8] → k ∉ A) : xD d u R E L σ' := by
  obtain ⟨h1, h2, h3, h4, h5, h6, h7⟩ := h
  unfold xD
  rw [o.1 15 (hi _ (by decide)), o.2.2.1 3 (ha _ (by decide)), o.2.2.1 5 (ha _ (by decide)), o.2.2.1 6 (ha _ (by decide)), o.2.2.1 8 (ha _ (by decide))]
  exact ⟨xN_o h1 o (hi _ (by decide)) (hi _ (by decide)) (ha _ (by decide)) (ha _ (by decide)), h2, h3, h4, h5, h6, cX_o h7 o (hi _ (by decide)) (ha _ (by decide))⟩
theorem mD_o {d : FD} {u : Nat → Nat} {R : Nat} {E : Nat → Nat} {L : List Nat} {I J A B : List Nat} {σ σ' : St} (h : mD d u R E L σ) (o : oS I J A B σ σ') (hi : 10 ∉ I) (ha : ∀ k, k ∈ [2, 3, 4, 5, 6, 8, 9] → k ∉ A) (hb : 0 ∉ B) : mD d u R E L σ' := by
  obtain ⟨h1, h2, h3, h4, h5, h6, h7⟩ := h
  unfold mD
  rw [o.2.2.1 2 (ha _ (by decide)), o.2.2.1 3 (ha _ (by decide)), o.2.2.1 4 (ha _ (by decide)), o.2.2.1 5 (ha _ (by decide)), o.2.2.1 8 (ha _ (by decide)), o.2.2.1 9 (ha _ (by decide))]
  exact ⟨mN_o h1 o (ha _ (by decide)) hb, h2, h3, h4, h5, h6, cM_o h7 o hi (ha _ (by decide))⟩
def pX (σ σ' : St) : Prop := oS [4, 5, 7, 8, 9, 10, 11, 12, 13, 14, 15, 16] [] [2, 3, 4, 5, 6, 7, 8] [] σ σ'
/-- M's standing halves are the same -/
def uH (σ σ' : St) : Prop := (∀ k, sA σ' 2 (3 + k) = sA σ 2 (3 + k)) ∧ (∀ k, sA σ' 3 (6 + k) = sA σ 3 (6 + k)) ∧ (∀ k, sA σ' 4 (48 + k) = sA σ 4 (48 + k)) ∧ (∀ k, sA σ' 5 (9 + k) = sA σ 5 (9 + k)) ∧ (∀ k, sA σ' 6 (1600 + k) = sA σ 6 (1600 + k)) ∧ (∀ k, sA σ' 8 (6 + k) = sA σ 8 (6 + k)) ∧ (∀ k, sA σ' 9 (6 + k) = sA σ 9 (6 + k)) ∧ (∀ k, sB σ' 0 (16 + k) = sB σ 0 (16 + k))
def pM (σ σ' : St) : Prop := oS [1, 3, 4, 5, 8, 9, 10, 11, 12, 13] [] [2, 3, 4, 5, 6, 7, 8, 9] [0] σ σ' ∧ uH σ σ'
theorem uH_r (σ : St) : uH σ σ := ⟨fun _ => rfl, fun _ => rfl, fun _ => rfl, fun _ => rfl, fun _ => rfl, fun _ => rfl, fun _ => rfl, fun _ => rfl⟩
theorem uH_t {σ σ' σ'' : St} (h : uH σ σ') (g : uH σ' σ'') : uH σ σ'' := ⟨fun k => (g.1 k).trans (h.1 k), fun k => (g.2.1 k).trans (h.2.1 k), fun k => (g.2.2.1 k).trans (h.2.2.1 k), fun k => (g.2.2.2.1 k).trans (h.2.2.2.1 k), fun k => (g.2.2.2.2.1 k).trans (h.2.2.2.2.1 k), fun k => (g.2.2.2.2.2.1 k).trans (h.2.2.2.2.2.1 k), fun k => (g.2.2.2.2.2.2.1 k).trans (h.2.2.2.2.2.2.1 k), fun k => (g.2.2.2.2.2.2.2 k).trans (h.2.2.2.2.2.2.2 k)⟩
theorem pM_t {σ σ' σ'' : St} (h : pM σ σ') (g : pM σ' σ'') : pM σ σ'' := ⟨oS_t h.1 g.1, uH_t h.2 g.2⟩
theorem pX_t {σ σ' σ'' : St} (h : pX σ σ') (g : pX σ' σ'') : pX σ σ'' := oS_t h g
theorem pM_r (σ : St) : pM σ σ := ⟨oS_r, uH_r σ⟩
theorem pX_r (σ : St) : pX σ σ := oS_r
theorem pM_i {I : List Nat} {σ σ' : St} (o : oS I [] [] [] σ σ') (h : ∀ k, k ∈ I → k ∈ [1, 3, 4, 5, 8, 9, 10, 11, 12, 13]) : pM σ σ' := by
  refine ⟨oS_w o h (by decide) (by decide) (by decide), ?_⟩
  have a := o.2.2.1
  have c := o.2.2.2
  refine ⟨fun k => ?_, fun k => ?_, fun k => ?_, fun k => ?_, fun k => ?_, fun k => ?_, fun k => ?_, fun k => ?_⟩
  · rw [a 2 (by decide)]
  · rw [a 3 (by decide)]
  · rw [a 4 (by decide)]
  · rw [a 5 (by decide)]
  · rw [a 6 (by decide)]
  · rw [a 8 (by decide)]
  · rw [a 9 (by decide)]
  · rw [c 0 (by decide)]
theorem pM_e {σ σ' : St} (h : eF σ σ') : pM σ σ' := by
  obtain ⟨o, g⟩ := h
  refine ⟨oS_w o (by decide) (by decide) (by decide) (by decide), ?_⟩
  have a := o.2.2.1
  have c := o.2.2.2
  refine ⟨fun k => ?_, fun k => ?_, fun k => ?_, fun k => ?_, g, fun k => ?_, fun k => ?_, fun k => ?_⟩
  · rw [a 2 (by decide)]
  · rw [a 3 (by decide)]
  · rw [a 4 (by decide)]
  · rw [a 5 (by decide)]
  · rw [a 8 (by decide)]
  · rw [a 9 (by decide)]
  · rw [c 0 (by decide)]
theorem pM_A {σ : St} {r i : Nat} {v : Int32} (hr : (r = 2 ∧ i < 3) ∨ (r = 3 ∧ i < 6) ∨ (r = 4 ∧ i < 48) ∨ (r = 5 ∧ i < 9) ∨ (r = 8 ∧ i < 6) ∨ (r = 9 ∧ i < 6)) : pM σ (uA σ r (upd (sA σ r) i v)) := by
  refine ⟨oS_uA ?_ oS_r, ?_⟩
  · have : r = 2 ∨ r = 3 ∨ r = 4 ∨ r = 5 ∨ r = 8 ∨ r = 9 := by omega
    rcases this with rfl | rfl | rfl | rfl | rfl | rfl <;> decide
  · have key : ∀ q m, (q = r → i < m) → ∀ k, sA (uA σ r (upd (sA σ r) i v)) q (m + k) = sA σ q (m + k) := by
      intro q m hq k
      rw [sA_uA]
      by_cases e : q = r
      · subst e
        rw [if_pos rfl, upd_e, if_neg (by have := hq rfl; omega)]
      · rw [if_neg e]
    exact ⟨key 2 3 (by omega), key 3 6 (by omega), key 4 48 (by omega), key 5 9 (by omega), key 6 1600 (by omega), key 8 6 (by omega), key 9 6 (by omega), fun _ => rfl⟩
theorem pM_B {σ : St} {i : Nat} {v : Int64} (hi : i < 16) : pM σ (uB σ 0 (vp_updL (sB σ 0) i v)) := by
  refine ⟨oS_uB (by decide) oS_r, fun _ => rfl, fun _ => rfl, fun _ => rfl, fun _ => rfl, fun _ => rfl, fun _ => rfl, fun _ => rfl, fun k => ?_⟩
  rw [sB_uB, if_pos rfl, updL_e, if_neg (by omega)]
theorem pX_s {σ σ' : St} (o : oS [7, 8, 9, 10, 11] [] [] [] σ σ') : pX σ σ' := oS_w o (by decide) (by decide) (by decide) (by decide)
theorem pX_f {σ σ' : St} (o : oS [4, 5] [] [] [] σ σ') : pX σ σ' := oS_w o (by decide) (by decide) (by decide) (by decide)
theorem pX_F {σ σ' : St} (o : xF σ σ') : pX σ σ' := oS_w o (by decide) (by decide) (by decide) (by decide)
def addM (d : FD) (h v z : Nat) : FD := (nM d + 1, nT d, nR d, fun k => if k = nM d then h else mH d k, tV d, sV d, cD d, cE d, fun a k => if a = 0 ∧ k = nM d then v else nV d a k, fun a k => if a = 0 ∧ k = nM d then z else nN d a k)
def addT (d : FD) (t : Nat → Nat) (v z : Nat) : FD := (nM d, nT d + 1, nR d, mH d, fun k j => if k = nT d then t j else tV d k j, sV d, cD d, cE d, fun a k => if a = 1 ∧ k = nT d then v else nV d a k, fun a k => if a = 1 ∧ k = nT d then z else nN d a k)
theorem wf_addM {d : FD} {h v z : Nat} (hw : wfD d) (hl : nM d < 6) (h1 : 1 ≤ h) (h2 : h ≤ 99) (hn : wfN v z) : wfD (addM d h v z) := by
  obtain ⟨w1, w2, w3, w4, w5, w6, w7, w8, w9⟩ := hw
  refine ⟨hl, w2, w3, fun k hk => ?_, w5, w6, w7, fun k hk => ?_, fun k hk => ?_⟩
  · have hk' : k < nM d + 1 := hk
    show 1 ≤ (if k = nM d then h else mH d k) ∧ (if k = nM d then h else mH d k) ≤ 99
    split
    · exact ⟨h1, h2⟩
    · exact w4 k (by omega)
  · have hk' : k < nM d + 1 := hk
    show wfN (if 0 = 0 ∧ k = nM d then v else nV d 0 k) (if 0 = 0 ∧ k = nM d then z else nN d 0 k)
    by_cases e : k = nM d
    · rw [if_pos ⟨rfl, e⟩, if_pos ⟨rfl, e⟩]; exact hn
    · rw [if_neg (fun g => e g.2), if_neg (fun g => e g.2)]; exact w8 k (by omega)
  · show wfN (if 1 = 0 ∧ k = nM d then v else nV d 1 k) (if 1 = 0 ∧ k = nM d then z else nN d 1 k)
    rw [if_neg (by omega), if_neg (by omega)]
    exact w9 k hk
theorem wf_addT {d : FD} {t : Nat → Nat} {v z : Nat} (hw : wfD d) (hl : nT d < 8) (ht : wfT t) (hn : wfN v z) : wfD (addT d t v z) := by
  obtain ⟨w1, w2, w3, w4, w5, w6, w7, w8, w9⟩ := hw
  refine ⟨w1, hl, w3, w4, fun k hk => ?_, w6, w7, fun k hk => ?_, fun k hk => ?_⟩
  · have hk' : k < nT d + 1 := hk
    show wfT (fun j => if k = nT d then t j else tV d k j)
    by_cases e : k = nT d
    · simp only [if_pos e]; exact ht
    · simp only [if_neg e]; exact w5 k (by omega)
  · show wfN (if 0 = 1 ∧ k = nT d then v else nV d 0 k) (if 0 = 1 ∧ k = nT d then z else nN d 0 k)
    rw [if_neg (by omega), if_neg (by omega)]
    exact w8 k hk
  · have hk' : k < nT d + 1 := hk
    show wfN (if 1 = 1 ∧ k = nT d then v else nV d 1 k) (if 1 = 1 ∧ k = nT d then z else nN d 1 k)
    by_cases e : k = nT d
    · rw [if_pos ⟨rfl, e⟩, if_pos ⟨rfl, e⟩]; exact hn
    · rw [if_neg (fun g => e g.2), if_neg (fun g => e g.2)]; exact w9 k (by omega)
theorem full_y {i c : Nat} {σ : St} {x : Int32} (hi : i < 6) (h : sA σ 2 i = zI c) (h4 : sI σ 4 = 0) : f_M_isFull (zI i) (zI c) x σ = some (1, uI (uI σ 4 5) 5 x) := by
  unfold f_M_isFull f_M_isFull_23
  rw [if_pos h4, zI_in (by omega) (by omega) (by omega), gd_t, zI_cl (by omega) (by omega), Int.toNat_natCast, h, if_pos rfl, m_fail _ _ h4, bp_s]
  exact if_neg (show ¬ ((5 : Int32) = 0) by decide)
theorem full_n {i c k : Nat} {σ : St} {x : Int32} (hi : i < 6) (h : sA σ 2 i = zI c) (hc : c ≤ 100) (hk : k ≤ 100) (hne : c ≠ k) (h4 : sI σ 4 = 0) : f_M_isFull (zI i) (zI k) x σ = some (0, σ) := by
  unfold f_M_isFull f_M_isFull_23
  rw [if_pos h4, zI_in (by omega) (by omega) (by omega), gd_t, zI_cl (by omega) (by omega), Int.toNat_natCast, h, if_neg (by rw [zI_eq (by omega) (by omega) (by omega) (by omega)]; omega), if_pos h4]
def DR (b : Nat → Nat) (n : Nat) (d : FD) (u : Nat → Nat) (R : Nat) (E : Nat → Nat) (L : List Nat) (s : Nat) (st : Bool) (σx σm : St) : Prop := SY b n s st σx σm ∧ xD d u R E L σx ∧ mD d u R E L σm ∧ wfDr d u R E L s ∧ sI σx 4 = 0 ∧ sI σx 5 = zI (-1) ∧ sI σm 5 = zI (-1)
def oBad (r : Option (Int32 × St)) (m : Option St) (σx σm : St) : Prop := ∃ (f pl : Nat) (σx' σm' : St), r = some (0, σx') ∧ m = some σm' ∧ FL f pl σx' σm' ∧ pX σx σx' ∧ pM σm σm'
def oSt (b : Nat → Nat) (n s : Nat) (r : Option (Int32 × St)) (m : Option St) (σx σm : St) : Prop := (∃ (d : FD) (u : Nat → Nat) (R : Nat) (E : Nat → Nat) (L : List Nat) (σx' σm' : St) (s' : Nat) (st' : Bool), r = some (1, σx') ∧ m = some σm' ∧ DR b n d u R E L s' st' σx' σm' ∧ pX σx σx' ∧ pM σm σm' ∧ sI σm' 9 = sI σm 9 ∧ s < s') ∨ oBad r m σx σm
theorem wfDr_s {d : FD} {u : Nat → Nat} {R : Nat} {E : Nat → Nat} {L : List Nat} {s s' : Nat} (h : wfDr d u R E L s) (hs : s ≤ s') : wfDr d u R E L s' := ⟨h.1, h.2.1, h.2.2.1, h.2.2.2.1, h.2.2.2.2.1, Nat.le_trans h.2.2.2.2.2 hs⟩
theorem m1_e : (-1 : Int32) = zI (-1) := rfl
theorem x_addM {d : FD} {u : Nat → Nat} {R : Nat} {E : Nat → Nat} {L : List Nat} {σ : St} {h v z : Nat} (hx : xD d u R E L σ) : xD (addM d h v z) u R E L (uI (uA (uA σ 2 (upd (sA σ 2) (nM d) (zI (nP v z)))) 3 (upd (sA σ 3) (nM d) (zI h))) 13 (zI (nM d + 1 : Nat))) := by
  obtain ⟨⟨n1, n2, n3, n4⟩, h2, h3, h4, h5, h6, h7⟩ := hx
  refine ⟨⟨rfl, n2, fun k hk => ?_, fun k hk => ?_⟩, fun k hk => ?_, h3, h4, h5, h6, h7⟩
  · have hk' : k < nM d + 1 := hk
    show upd (sA σ 2) (nM d) (zI (nP v z)) k = zI (nP (if 0 = 0 ∧ k = nM d then v else nV d 0 k) (if 0 = 0 ∧ k = nM d then z else nN d 0 k))
    rw [upd_e]
    by_cases e : k = nM d
    · rw [if_pos e, if_pos ⟨rfl, e⟩, if_pos ⟨rfl, e⟩]
    · rw [if_neg e, if_neg (fun g => e g.2), if_neg (fun g => e g.2)]; exact n3 k (by omega)
  · show sA σ 4 k = zI (nP (if 1 = 0 ∧ k = nM d then v else nV d 1 k) (if 1 = 0 ∧ k = nM d then z else nN d 1 k))
    rw [if_neg (by omega), if_neg (by omega)]
    exact n4 k hk
  · have hk' : k < nM d + 1 := hk
    show upd (sA σ 3) (nM d) (zI h) k = zI (if k = nM d then h else mH d k : Nat)
    rw [upd_e]
    by_cases e : k = nM d
    · rw [if_pos e, if_pos e]
    · rw [if_neg e, if_neg e]; exact h2 k (by omega)
theorem m_addM {d : FD} {u : Nat → Nat} {R : Nat} {E : Nat → Nat} {L : List Nat} {σ : St} {h v z : Nat} (hx : mD d u R E L σ) (hl : nM d < 6) : mD (addM d h v z) u R E L (uA (uA (uB σ 0 (vp_updL (sB σ 0) (nM d) (zJ v))) 3 (upd (sA σ 3) (nM d) (zI h))) 2 (upd (sA σ 2) 0 (zI (nM d + 1 : Nat)))) := by
  obtain ⟨⟨n1, n2, n3, n4⟩, h2, h3, h4, h5, h6, h7⟩ := hx
  refine ⟨⟨rfl, n2, fun k hk => ?_, fun k hk => ?_⟩, fun k hk => ?_, h3, h4, h5, h6, h7⟩
  · have hk' : k < nM d + 1 := hk
    show vp_updL (sB σ 0) (nM d) (zJ v) k = zJ (if 0 = 0 ∧ k = nM d then v else nV d 0 k : Nat)
    rw [updL_e]
    by_cases e : k = nM d
    · rw [if_pos e, if_pos ⟨rfl, e⟩]
    · rw [if_neg e, if_neg (fun g => e g.2)]; exact n3 k (by omega)
  · show vp_updL (sB σ 0) (nM d) (zJ v) (8 + k) = zJ (if 1 = 0 ∧ k = nM d then v else nV d 1 k : Nat)
    rw [updL_e, if_neg (by omega), if_neg (by omega)]
    exact n4 k hk
  · have hk' : k < nM d + 1 := hk
    show upd (sA σ 3) (nM d) (zI h) k = zI (if k = nM d then h else mH d k : Nat)
    rw [upd_e]
    by_cases e : k = nM d
    · rw [if_pos e, if_pos e]
    · rw [if_neg e, if_neg e]; exact h2 k (by omega)
section
variable {b : Nat → Nat} {n : Nat}
theorem t_mark {d : FD} {u : Nat → Nat} {R : Nat} {E : Nat → Nat} {L : List Nat} {s : Nat} {st : Bool} {σx σm : St} (h : DR b n d u R E L s st σx σm) (h1 : sI σm 1 = zI s) (hw : kd b n s st = 1 ∧ wAt b n s 0) : ∃ σm1, f_M_takes 0 σm = some (1, σm1) ∧ oSt b n s (f_Parser_readMark σx) (f_M_markTold (zI s) σm1) σx σm := by
  obtain ⟨a1, a2, a3, a4, a5, a6, a7⟩ := h
  obtain ⟨σx1, σm1, s1, st1, w1, w2, w3, w3', w4, w5, w6, w7, w8⟩ := t_word' a1 (by omega) hw
  rw [uI_id h1] at w4
  refine ⟨σm1, w4, ?_⟩
  have b4 : sI σm1 4 = 0 := w5.2.2.2.2.1
  have wd := a4.1
  have w6' := wd.1
  have mD1 : mD d u R E L σm1 := mD_o a3 w7 (by decide) (by decide) (by decide)
  have xD1 : xD d u R E L σx1 := xD_o a2 w6 (by decide) (by decide)
  have hm2 : sA σm1 2 0 = zI (nM d) := mD1.1.1
  have hx13 : sI σx 13 = zI (nM d) := a2.1.1
  have e6 : (6 : Int32) = zI (6 : Nat) := rfl
  have e0 : (0 : Int32) = zI (0 : Nat) := rfl
  unfold f_Parser_readMark f_M_markTold
  rw [hx13, lt_s']
  by_cases c : nM d = 6
  · right
    rw [c] at hm2
    refine ⟨5, s, uI (uI σx 4 5) 5 (zI s), uI (uI σm1 4 5) 5 (zI s), ?_, ?_, ⟨by omega, by omega, rfl, rfl, rfl, rfl⟩, pX_f (oS_uI (by decide) (oS_uI (by decide) oS_r)), pM_t (pM_i w7 (by decide)) (pM_i (oS_uI (I := [4, 5]) (by decide) (oS_uI (by decide) oS_r)) (by decide))⟩
    · rw [e6, if_neg (by rw [zI_lt (by omega) (by omega) (by omega) (by omega)]; omega), a1.2.2.1.1, x_tell, bd_s]
      rfl
    · have := full_y (i := 0) (x := zI s) (by omega) hm2 b4
      have f0 : f_M_isFull 0 6 (zI s) σm1 = some (1, uI (uI σm1 4 5) 5 (zI s)) := this
      rw [f0, bd_s, if_neg (by decide)]
  · have f0 : f_M_isFull 0 6 (zI s) σm1 = some (0, σm1) := full_n (i := 0) (k := 6) (x := zI s) (by omega) hm2 (by omega) (by omega) c b4
    rw [e6, if_pos (by rw [zI_lt (by omega) (by omega) (by omega) (by omega)]; omega), w2, bp_s, ← e6, f0, bd_s, if_pos rfl, cl0, hm2, lt_s']
    rcases t_name wd w5 xD1.1 mD1.1 with ⟨v, z, σx2, σm2, s2, st2, q1, q2, q3, q4, q5, q6, q7⟩ | ⟨f, pl, r, σx2, σm2, q1, q2, q3, q4, q5⟩
    · have hv := nP_h q3
      rw [q1, q2, bd_s, bd_s, m1_e, if_neg (by rw [zI_eq (by omega) (by omega) (by omega) (by omega)]; omega)]
      have mD2 := mD_o mD1 q6 (by decide) (by decide) (by decide)
      have xD2 := xD_o xD1 q5 (by decide) (by decide)
      rcases p_word (j := 1) q4 (by omega) with ⟨σx3, σm3, s3, st3, r1, r2, r3, r4, r5, r6⟩ | ⟨σx3, σm3, r1, r2, r3, r4, r5⟩
      · have r1' : f_Parser_passWord 1 σx2 = some (1, σx3) := r1
        rw [r1', r2, bd_s, bp_s, if_neg (by decide)]
        have mD3 := mD_o mD2 r5 (by decide) (by decide) (by decide)
        have xD3 := xD_o xD2 r4 (by decide) (by decide)
        rcases t_number (lo := 1) (hi := 99) r3 (by omega) (by omega) with ⟨g, σx4, σm4, s4, st4, p1, p2, p3, p4, p5, p6, p7, p8, p9⟩ | ⟨f, pl, r, σx4, σm4, p1, p2, p3, p4, p5⟩
        · have p1' : f_Parser_passNumber 1 99 σx3 = some (zI g, σx4) := p1
          have p2' : f_M_number 1 99 σm3 = some (zI g, σm4) := p2
          have mD4 := mD_o mD3 p5 (by decide) (by decide) (by decide)
          have xD4 := xD_o xD3 p4 (by decide) (by decide)
          have b44 : sI σm4 4 = 0 := p3.2.2.2.2.1
          rw [p1', p2', bd_s, bd_s, if_neg (by rw [zI_eq (by omega) (by omega) (by omega) (by omega)]; omega), if_pos b44]
          have oX : oS [7, 8, 9, 10, 11] [] [] [] σx σx4 := oS_t w6 (oS_t q5 (oS_t r4 p4))
          have oM : oS [1, 3, 8] [] [] [] σm σm4 := oS_t (oS_w w7 (by decide) (by decide) (by decide) (by decide)) (oS_t q6 (oS_t (oS_w r5 (by decide) (by decide) (by decide) (by decide)) (oS_w p5 (by decide) (by decide) (by decide) (by decide))))
          left
          have k13 : sI σx4 13 = zI (nM d) := xD4.1.1
          have k2 : sA σm4 2 0 = zI (nM d) := mD4.1.1
          refine ⟨addM d g v z, u, R, E, L, _, _, s4, st4, ?_, ?_, ⟨?_, x_addM xD4, m_addM mD4 (by omega), ?_, ?_, ?_, ?_⟩, ?_, ?_, ?_, by omega⟩
          · rw [zI_in (by omega) (by omega) (by omega), zI_cl (by omega) (by omega), Int.toNat_natCast]
            simp only [lt_q, gd_q]
            have : sI (uA (uA σx4 2 (upd (sA σx4 2) (nM d) (zI (nP v z)))) 3 (upd (sA (uA σx4 2 (upd (sA σx4 2) (nM d) (zI (nP v z)))) 3) (nM d) (zI g))) 13 = zI (nM d) := k13
            rw [this, zS]
            rfl
          · rw [zI_in (a := nM d) (n := 32) (by omega) (by omega) (by omega), zI_in (a := nM d) (n := 12) (by omega) (by omega) (by omega), zI_cl (by omega) (by omega), Int.toNat_natCast]
            simp only [lt_q, gd_q]
            have : ∀ (f : Nat → Int64) (g : Nat → Int32), sA (uA (uB σm4 0 f) 3 g) 2 0 = zI (nM d) := fun f g => k2
            rw [this, zS]
            rfl
          · refine SY_o p3 (oS_uI (I := [13]) (J := []) (A := [2, 3]) (B := []) (by decide) (oS_uA (by decide) (oS_uA (by decide) oS_r))) (oS_uA (I := []) (J := []) (A := [2, 3]) (B := [0]) (by decide) (oS_uA (by decide) (oS_uB (by decide) oS_r))) (by decide) (by decide) (by decide) (by decide)
          · obtain ⟨y1, y2, y3, y4, y5, y6⟩ := a4
            exact ⟨wf_addM y1 (by omega) p7 p8 q3, y2, y3, y4, y5, by omega⟩
          · show sI σx4 4 = 0
            rw [oX.1 4 (by decide)]; exact a5
          · show sI σx4 5 = zI (-1)
            rw [oX.1 5 (by decide)]; exact a6
          · show sI σm4 5 = zI (-1)
            rw [oM.1 5 (by decide)]; exact a7
          · exact pX_t (pX_s oX) (oS_uI (by decide) (oS_uA (by decide) (oS_uA (by decide) oS_r)))
          · exact pM_t (pM_i oM (by decide)) (pM_t (pM_t (pM_B (by omega)) (pM_A (σ := uB σm4 0 (vp_updL (sB σm4 0) (nM d) (zJ v))) (r := 3) (i := nM d) (v := zI g) (by omega))) (pM_A (σ := uA (uB σm4 0 (vp_updL (sB σm4 0) (nM d) (zJ v))) 3 (upd (sA σm4 3) (nM d) (zI g))) (r := 2) (i := 0) (by omega)))
          · show sI σm4 9 = sI σm 9
            rw [oM.1 9 (by decide)]
        · right
          have p1' : f_Parser_passNumber 1 99 σx3 = some (zI (-1), σx4) := p1
          have p2' : f_M_number 1 99 σm3 = some (r, σm4) := p2
          refine ⟨f, pl, σx4, σm4, ?_, ?_, p3, pX_t (pX_s (oS_t w6 (oS_t q5 r4))) (pX_f p4), pM_t (pM_i (oS_t (oS_w w7 (by decide) (by decide) (by decide) (by decide)) (oS_t q6 (oS_w r5 (by decide) (by decide) (by decide) (by decide)))) (by decide)) (pM_i p5 (by decide))⟩
          · rw [p1', bd_s, if_pos rfl]
          · rw [p2', bd_s, if_neg (FL_bad p3)]
      · right
        have r1' : f_Parser_passWord 1 σx2 = some (0, σx3) := r1
        refine ⟨1, s2, σx3, σm3, ?_, ?_, r3, pX_t (pX_s (oS_t w6 q5)) (pX_f r4), pM_t (pM_i (oS_t (oS_w w7 (by decide) (by decide) (by decide) (by decide)) q6) (by decide)) (pM_i r5 (by decide))⟩
        · rw [r1', bd_s, if_pos rfl]
        · rw [r2, bp_s, num_bad (FL_bad r3), bd_s, if_neg (FL_bad r3)]
    · right
      refine ⟨f, pl, σx2, σm2, ?_, ?_, q3, pX_t (pX_s w6) (pX_f q4), pM_t (pM_i w7 (by decide)) (pM_i q5 (by decide))⟩
      · rw [q1, bd_s, m1_e, if_pos rfl]
      · rw [q2, bd_s, asks_bad (FL_bad q3), bp_s, num_bad (FL_bad q3), bd_s, if_neg (FL_bad q3)]
end
