def tLo (i : Nat) : Nat := [1, 0, 0, 0, 0].getD i 0
def tHi (i : Nat) : Nat := [99, 5, 20, 99, 99].getD i 0
theorem tL_x : ∀ i : Fin 5, stV 0 (zI (i.val : Nat)) = zI (tLo i.val : Nat) ∧ stV 1 (zI (i.val : Nat)) = zI (tHi i.val : Nat) ∧ tLo i.val ≤ 9999 ∧ tHi i.val ≤ 9999 := by decide
def tr6 (v0 v1 v2 v3 v4 l : Nat) (j : Nat) : Nat := [v0, v1, v2, v3, v4, l].getD j 0
theorem x_addT {d : FD} {u : Nat → Nat} {R : Nat} {E : Nat → Nat} {L : List Nat} {I : List Nat} {σ σ' : St} {t : Nat → Nat} {v z : Nat} (hx : xD d u R E L σ) (o : oS I [] [5] [] σ σ') (hi : ∀ k, k ∈ [12, 13, 14, 15] → k ∉ I) (hr : ∀ k, k < 6 * nT d → sA σ' 5 k = sA σ 5 k) (ht : ∀ j, j < 6 → sA σ' 5 (6 * nT d + j) = zI (t j)) : xD (addT d t v z) u R E L (uI (uA σ' 4 (upd (sA σ' 4) (nT d) (zI (nP v z)))) 14 (zI (nT d + 1 : Nat))) := by
  obtain ⟨⟨n1, n2, n3, n4⟩, h2, h3, h4, h5, h6, h7⟩ := hx
  have hc := cX_o h7 o (hi _ (by decide)) (by decide)
  rw [← o.1 13 (hi _ (by decide))] at n1
  rw [← o.1 15 (hi _ (by decide))] at h5
  rw [← o.2.2.1 2 (by decide)] at n3
  rw [← o.2.2.1 4 (by decide)] at n4
  rw [← o.2.2.1 3 (by decide)] at h2
  rw [← o.2.2.1 6 (by decide)] at h4
  rw [← o.2.2.1 8 (by decide)] at h6
  refine ⟨⟨n1, rfl, fun k hk => ?_, fun k hk => ?_⟩, h2, fun k j hk hj => ?_, h4, h5, h6, hc⟩
  · show sA σ' 2 k = zI (nP (if 0 = 1 ∧ k = nT d then v else nV d 0 k) (if 0 = 1 ∧ k = nT d then z else nN d 0 k))
    rw [if_neg (by omega), if_neg (by omega)]
    exact n3 k hk
  · have hk' : k < nT d + 1 := hk
    show upd (sA σ' 4) (nT d) (zI (nP v z)) k = zI (nP (if 1 = 1 ∧ k = nT d then v else nV d 1 k) (if 1 = 1 ∧ k = nT d then z else nN d 1 k))
    rw [upd_e]
    by_cases e : k = nT d
    · rw [if_pos e, if_pos ⟨rfl, e⟩, if_pos ⟨rfl, e⟩]
    · rw [if_neg e, if_neg (fun g => e g.2), if_neg (fun g => e g.2)]; exact n4 k (by omega)
  · have hk' : k < nT d + 1 := hk
    show sA σ' 5 (6 * k + j) = zI (if k = nT d then t j else tV d k j : Nat)
    by_cases e : k = nT d
    · rw [if_pos e, e]; exact ht j hj
    · rw [if_neg e, hr _ (by omega)]; exact h3 k j (by omega) hj
theorem m_addT {d : FD} {u : Nat → Nat} {R : Nat} {E : Nat → Nat} {L : List Nat} {I : List Nat} {σ σ' : St} {t : Nat → Nat} {v z : Nat} (hx : mD d u R E L σ) (hl : nM d ≤ 6) (o : oS I [] [2, 4] [0] σ σ') (hi : 10 ∉ I) (g2 : sA σ' 2 = upd (sA σ 2) 1 (zI (nT d + 1 : Nat))) (gB : sB σ' 0 = vp_updL (sB σ 0) (8 + nT d) (zJ v)) (hr : ∀ k, k < 6 * nT d → sA σ' 4 k = sA σ 4 k) (ht : ∀ j, j < 6 → sA σ' 4 (6 * nT d + j) = zI (t j)) : mD (addT d t v z) u R E L σ' := by
  obtain ⟨⟨n1, n2, n3, n4⟩, h2, h3, h4, h5, h6, h7⟩ := hx
  have hc := cM_o h7 o hi (by decide)
  rw [← o.2.2.1 3 (by decide)] at h2
  rw [← o.2.2.1 5 (by decide)] at h4
  rw [← o.2.2.1 8 (by decide), ← o.2.2.1 9 (by decide)] at h6
  refine ⟨⟨?_, ?_, fun k hk => ?_, fun k hk => ?_⟩, h2, fun k j hk hj => ?_, h4, ?_, h6, hc⟩
  · rw [g2, upd_e, if_neg (by omega)]; exact n1
  · rw [g2, upd_e, if_pos rfl]; rfl
  · have hk' : k < nM d := hk
    show sB σ' 0 k = zJ (if 0 = 1 ∧ k = nT d then v else nV d 0 k : Nat)
    rw [gB, updL_e, if_neg (by omega), if_neg (by omega)]
    exact n3 k hk
  · have hk' : k < nT d + 1 := hk
    show sB σ' 0 (8 + k) = zJ (if 1 = 1 ∧ k = nT d then v else nV d 1 k : Nat)
    rw [gB, updL_e]
    by_cases e : k = nT d
    · rw [if_pos (by omega), if_pos ⟨rfl, e⟩]
    · rw [if_neg (by omega), if_neg (fun g => e g.2)]; exact n4 k (by omega)
  · have hk' : k < nT d + 1 := hk
    show sA σ' 4 (6 * k + j) = zI (if k = nT d then t j else tV d k j : Nat)
    by_cases e : k = nT d
    · rw [if_pos e, e]; exact ht j hj
    · rw [if_neg e, hr _ (by omega)]; exact h3 k j (by omega) hj
  · rw [g2, upd_e, if_neg (by omega)]; exact h5
theorem t127_bad {x2 : Int32} {x3 : Int64} {x5 x6 x7 x8 x9 t0 : Int32} {σ : St} (h : ¬ sI σ 4 = 0) : f_M_trierTold_127 x2 x3 x5 x6 x7 x8 x9 t0 σ = some σ := by
  unfold f_M_trierTold_127
  rw [if_neg h]
def rw6 (f : Nat → Int32) (T : Nat) (y0 y1 y2 y3 y4 y5 : Int32) : Nat → Int32 := upd (upd (upd (upd (upd (upd f (6 * T) y0) (6 * T + 1) y1) (6 * T + 2) y2) (6 * T + 3) y3) (6 * T + 4) y4) (6 * T + 5) y5
theorem rw6_l {f : Nat → Int32} {T k : Nat} {y0 y1 y2 y3 y4 y5 : Int32} (h : k < 6 * T) : rw6 f T y0 y1 y2 y3 y4 y5 k = f k := by
  unfold rw6
  rw [upd_e, if_neg (by omega), upd_e, if_neg (by omega), upd_e, if_neg (by omega), upd_e, if_neg (by omega), upd_e, if_neg (by omega), upd_e, if_neg (by omega)]
theorem rw6_h {f : Nat → Int32} {T k : Nat} {y0 y1 y2 y3 y4 y5 : Int32} (h : 6 * T + 6 ≤ k) : rw6 f T y0 y1 y2 y3 y4 y5 k = f k := by
  unfold rw6
  rw [upd_e, if_neg (by omega), upd_e, if_neg (by omega), upd_e, if_neg (by omega), upd_e, if_neg (by omega), upd_e, if_neg (by omega), upd_e, if_neg (by omega)]
theorem rw6_t {f : Nat → Int32} {T v0 v1 v2 v3 v4 l : Nat} : ∀ j, j < 6 → rw6 f T (zI v0) (zI v1) (zI v2) (zI v3) (zI v4) (zI l) (6 * T + j) = zI (tr6 v0 v1 v2 v3 v4 l j) := by
  intro j hj
  have : j = 0 ∨ j = 1 ∨ j = 2 ∨ j = 3 ∨ j = 4 ∨ j = 5 := by omega
  unfold rw6 tr6
  simp only [upd_e]
  rcases this with rfl | rfl | rfl | rfl | rfl | rfl
  · rw [if_neg (by omega), if_neg (by omega), if_neg (by omega), if_neg (by omega), if_neg (by omega), if_pos (by omega)]; rfl
  · rw [if_neg (by omega), if_neg (by omega), if_neg (by omega), if_neg (by omega), if_pos (by omega)]; rfl
  · rw [if_neg (by omega), if_neg (by omega), if_neg (by omega), if_pos (by omega)]; rfl
  · rw [if_neg (by omega), if_neg (by omega), if_pos (by omega)]; rfl
  · rw [if_neg (by omega), if_pos (by omega)]; rfl
  · rw [if_pos (by omega)]; rfl
theorem m_127 {T : Nat} {x3 : Int64} {y0 y1 y2 y3 y4 y5 : Int32} {σ : St} (hT : T < 8) (h2 : sA σ 2 1 = zI T) (h4 : sI σ 4 = 0) : ∃ σ', f_M_trierTold_127 (zI (6 * T : Nat)) x3 y0 y1 y2 y3 y4 y5 σ = some σ' ∧ oS [] [] [2, 4] [0] σ σ' ∧ sA σ' 2 = upd (sA σ 2) 1 (zI (T + 1 : Nat)) ∧ sB σ' 0 = vp_updL (sB σ 0) (8 + T) x3 ∧ sA σ' 4 = rw6 (sA σ 4) T y0 y1 y2 y3 y4 y5 := by
  refine ⟨uA (uA (uB σ 0 (vp_updL (sB σ 0) (8 + T) x3)) 4 (rw6 (sA σ 4) T y0 y1 y2 y3 y4 y5)) 2 (upd (sA σ 2) 1 (zI (T + 1 : Nat))), ?_, oS_uA (by decide) (oS_uA (by decide) (oS_uB (by decide) oS_r)), rfl, rfl, rfl⟩
  unfold f_M_trierTold_127
  have e8 : (8 : Int32) + zI (T : Int) = zI (8 + T : Nat) := by rw [zI_lit, zI_add]; rfl
  have a1 : zI ((6 * T : Nat) : Int) + 1 = zI (6 * T + 1 : Nat) := by rw [zI_lit, zI_add]; rfl
  have a2 : zI ((6 * T : Nat) : Int) + 2 = zI (6 * T + 2 : Nat) := by rw [zI_lit, zI_add]; rfl
  have a3 : zI ((6 * T : Nat) : Int) + 3 = zI (6 * T + 3 : Nat) := by rw [zI_lit, zI_add]; rfl
  have a4 : zI ((6 * T : Nat) : Int) + 4 = zI (6 * T + 4 : Nat) := by rw [zI_lit, zI_add]; rfl
  have a5 : zI ((6 * T : Nat) : Int) + 5 = zI (6 * T + 5 : Nat) := by rw [zI_lit, zI_add]; rfl
  have i0 : ∀ k, k < 96 → inB (zI (k : Nat)) 96 = true := fun k hk => zI_in (by omega) (by omega) (by omega)
  have c0 : ∀ k : Nat, k < 96 → (zI (k : Nat)).toNatClampNeg = k := fun k hk => by rw [zI_cl (by omega) (by omega), Int.toNat_natCast]
  rw [if_pos h4, cl1, h2, e8, a1, a2, a3, a4, a5, zI_in (a := (8 + T : Nat)) (by omega) (by omega) (by omega), i0 _ (by omega), i0 _ (by omega), i0 _ (by omega), i0 _ (by omega), i0 _ (by omega), i0 _ (by omega), c0 _ (by omega), c0 _ (by omega), c0 _ (by omega), c0 _ (by omega), c0 _ (by omega), c0 _ (by omega), c0 _ (by omega)]
  simp only [gd_q, lt_q]
  have : ∀ (f : Nat → Int64) (g0 g1 g2 g3 g4 g5 : Nat → Int32), sA (uA (uA (uA (uA (uA (uA (uB σ 0 f) 4 g0) 4 g1) 4 g2) 4 g3) 4 g4) 4 g5) 2 1 = zI T := fun _ _ _ _ _ _ _ => h2
  rw [this, zS]
  have uu : ∀ (τ : St) (f g : Nat → Int32), uA (uA τ 4 f) 4 g = uA τ 4 g := by
    intro τ f g
    obtain ⟨a, b, c, d⟩ := τ
    have : va_up (va_up c 4 f) 4 g = va_up c 4 g := by
      funext j
      unfold va_up
      by_cases e : j = 4
      · simp only [if_pos e]
      · simp only [if_neg e]
    show (a, b, va_up (va_up c 4 f) 4 g, d) = (a, b, va_up c 4 g, d)
    rw [this]
  simp only [uu]
  rfl
section
variable {b : Nat → Nat} {n : Nat}
theorem tr_step {s j t q : Nat} {x2 : Int32} {st : Bool} {σx σm : St} (h : SY b n s st σx σm) (hj : j < 5) (ht : t < 8) : (∃ (v : Nat) (σx' σmA σm' : St) (s' : Nat) (st' : Bool), f_Parser_readTrier_48 (q + 1) (zI t) x2 (zI j) σx = f_Parser_readTrier_48 q (zI t) x2 (zI (j + 1 : Nat)) σx' ∧ f_M_asks (3 + j) σm = some σmA ∧ f_M_number (zI (tLo j : Nat)) (zI (tHi j : Nat)) σmA = some (zI v, σm') ∧ SY b n s' st' σx' σm' ∧ oS [7, 8, 9, 10, 11] [] [5] [] σx σx' ∧ sA σx' 5 = upd (sA σx 5) (6 * t + j) (zI v) ∧ oS [1, 3] [] [] [] σm σm' ∧ s < s' ∧ tLo j ≤ v ∧ v ≤ tHi j) ∨ (∃ (f pl : Nat) (r : Int32) (σx' σmA σm' : St), f_Parser_readTrier_48 (q + 1) (zI t) x2 (zI j) σx = some (0, σx') ∧ f_M_asks (3 + j) σm = some σmA ∧ f_M_number (zI (tLo j : Nat)) (zI (tHi j : Nat)) σmA = some (r, σm') ∧ FL f pl σx' σm' ∧ pX σx σx' ∧ pM σm σm') := by
  have hL := tL_x ⟨j, hj⟩
  have l1 : stV 0 (zI (j : Int)) = zI (tLo j : Nat) := hL.1
  have l2 : stV 1 (zI (j : Int)) = zI (tHi j : Nat) := hL.2.1
  have l3 : tLo j ≤ 9999 := hL.2.2.1
  have l4 : tHi j ≤ 9999 := hL.2.2.2
  have e5 : (5 : Int32) = zI (5 : Nat) := rfl
  have e3 : (3 : Int32) + zI (j : Int) = zI (3 + j : Nat) := by rw [zI_lit, zI_add]; rfl
  have ei : zI (t : Int) * 6 + zI (j : Int) = zI (6 * t + j : Nat) := by
    rw [zI_lit, zI_mul, zI_add]
    congr 1
    omega
  have hd : f_Parser_readTrier_48 (q + 1) (zI t) x2 (zI j) σx = bd (f_Parser_passWord (zI (3 + j : Nat)) σx) fun r_6 σ_7 => if r_6 = 0 then some (0, σ_7) else bd (f_Parser_passNumber (zI (tLo j : Nat)) (zI (tHi j : Nat)) σ_7) fun r_11 σ_12 => if r_11 = (-1) then some (0, σ_12) else f_Parser_readTrier_48 q (zI t) x2 (zI (j + 1 : Nat)) (uA σ_12 5 (upd (sA σ_12 5) (6 * t + j) r_11)) := by
    show f_Parser_readTrier_48b (f_Parser_readTrier_48 q) (zI t) x2 (zI j) σx = _
    unfold f_Parser_readTrier_48b
    rw [e5, if_neg (by rw [zI_le (by omega) (by omega) (by omega) (by omega)]; omega), e3, zI_in (a := j) (n := 5) (by omega) (by omega) (by omega), ei, zI_in (by omega) (by omega) (by omega), zI_cl (by omega) (by omega), Int.toNat_natCast, l1, l2, zS]
    simp only [gd_q, lt_q]
  rw [hd]
  rcases p_word (j := 3 + j) h (by omega) with ⟨σx3, σm3, s3, st3, r1, r2, r3, r4, r5, r6⟩ | ⟨σx3, σm3, r1, r2, r3, r4, r5⟩
  · rw [r1, bd_s, if_neg (by decide), r2]
    rcases t_number (lo := tLo j) (hi := tHi j) r3 l3 l4 with ⟨g, σx4, σm4, s4, st4, p1, p2, p3, p4, p5, p6, p7, p8, p9⟩ | ⟨f, pl, r, σx4, σm4, p1, p2, p3, p4, p5⟩
    · left
      have hr4 := r4.2.2.1 5 (by decide)
      have hp4 := p4.2.2.1 5 (by decide)
      refine ⟨g, uA σx4 5 (upd (sA σx4 5) (6 * t + j) (zI g)), σm3, σm4, s4, st4, ?_, rfl, p2, ?_, ?_, ?_, oS_t r5 p5, by omega, p7, p8⟩
      · rw [p1, bd_s, m1_e, if_neg (by rw [zI_eq (by omega) (by omega) (by omega) (by omega)]; omega)]
      · exact SY_o p3 (oS_uA (I := []) (J := []) (A := [5]) (B := []) (by decide) oS_r) (oS_r (I := []) (J := []) (A := []) (B := [])) (by decide) (by decide) (by decide) (by decide)
      · exact oS_uA (by decide) (oS_w (oS_t r4 p4) (by decide) (by decide) (by decide) (by decide))
      · rw [sA_uA, if_pos rfl, hp4, hr4]
    · right
      refine ⟨f, pl, r, σx4, σm3, σm4, ?_, rfl, p2, p3, pX_t (pX_s r4) (pX_f p4), pM_t (pM_i r5 (by decide)) (pM_i p5 (by decide))⟩
      rw [p1, bd_s, m1_e, if_pos rfl]
  · right
    refine ⟨1, s, 0, σx3, σm3, σm3, ?_, r2, num_bad (FL_bad r3), r3, pX_f r4, pM_i r5 (by decide)⟩
    rw [r1, bd_s, if_pos rfl]
theorem pX_5 {σ σ' : St} (o : oS [7, 8, 9, 10, 11] [] [5] [] σ σ') : pX σ σ' := oS_w o (by decide) (by decide) (by decide) (by decide)
theorem t_trier {d : FD} {u : Nat → Nat} {R : Nat} {E : Nat → Nat} {L : List Nat} {s : Nat} {st : Bool} {σx σm : St} (h : DR b n d u R E L s st σx σm) (h1 : sI σm 1 = zI s) (hw : kd b n s st = 1 ∧ wAt b n s 2) : ∃ σm1, f_M_takes 2 σm = some (1, σm1) ∧ oSt b n s (f_Parser_readTrier σx) (f_M_trierTold (zI s) σm1) σx σm := by
  obtain ⟨a1, a2, a3, a4, a5, a6, a7⟩ := h
  obtain ⟨σx1, σm1, s1, st1, w1, w2, w3, w3', w4, w5, w6, w7, w8⟩ := t_word' a1 (by omega) hw
  rw [uI_id h1] at w4
  refine ⟨σm1, w4, ?_⟩
  have b4 : sI σm1 4 = 0 := w5.2.2.2.2.1
  have wd := a4.1
  have w6' := wd.2.1
  have w6'' := wd.1
  have mD1 : mD d u R E L σm1 := mD_o a3 w7 (by decide) (by decide) (by decide)
  have xD1 : xD d u R E L σx1 := xD_o a2 w6 (by decide) (by decide)
  have hm2 : sA σm1 2 1 = zI (nT d) := mD1.1.2.1
  have hx14 : sI σx 14 = zI (nT d) := a2.1.2.1
  have e8 : (8 : Int32) = zI (8 : Nat) := rfl
  have m6 : (6 : Int32) * zI (nT d : Int) = zI (6 * nT d : Nat) := by rw [zI_lit, zI_mul]; rfl
  unfold f_Parser_readTrier f_M_trierTold
  rw [hx14, lt_s']
  by_cases c : nT d = 8
  · right
    rw [c] at hm2
    refine ⟨5, s, uI (uI σx 4 5) 5 (zI s), uI (uI σm1 4 5) 5 (zI s), ?_, ?_, ⟨by omega, by omega, rfl, rfl, rfl, rfl⟩, pX_f (oS_uI (by decide) (oS_uI (by decide) oS_r)), pM_t (pM_i w7 (by decide)) (pM_i (oS_uI (I := [4, 5]) (by decide) (oS_uI (by decide) oS_r)) (by decide))⟩
    · rw [e8, if_neg (by rw [zI_lt (by omega) (by omega) (by omega) (by omega)]; omega), a1.2.2.1.1, x_tell, bd_s]
      rfl
    · have := full_y (i := 1) (x := zI s) (by omega) hm2 b4
      have f0 : f_M_isFull 1 8 (zI s) σm1 = some (1, uI (uI σm1 4 5) 5 (zI s)) := this
      rw [f0, bd_s, if_neg (by decide)]
  · have f0 : f_M_isFull 1 8 (zI s) σm1 = some (0, σm1) := full_n (i := 1) (k := 8) (x := zI s) (by omega) hm2 (by omega) (by omega) c b4
    rw [e8, if_pos (by rw [zI_lt (by omega) (by omega) (by omega) (by omega)]; omega), w2, bp_s, ← e8, f0, bd_s, if_pos rfl, cl1, hm2, m6, lt_s']
    rcases t_name wd w5 xD1.1 mD1.1 with ⟨v, z, σx2, σm2, s2, st2, q1, q2, q3, q4, q5, q6, q7⟩ | ⟨f, pl, r, σx2, σm2, q1, q2, q3, q4, q5⟩
    · have hv := nP_h q3
      rw [q1, q2, bd_s, bd_s, m1_e, if_neg (by rw [zI_eq (by omega) (by omega) (by omega) (by omega)]; omega)]
      have mD2 := mD_o mD1 q6 (by decide) (by decide) (by decide)
      have xD2 := xD_o xD1 q5 (by decide) (by decide)
      have oX2 : oS [7, 8, 9, 10, 11] [] [5] [] σx σx2 := oS_w (oS_t w6 q5) (by decide) (by decide) (by decide) (by decide)
      have oM2 : oS [1, 3, 8] [] [] [] σm σm2 := oS_t (oS_w w7 (by decide) (by decide) (by decide) (by decide)) q6
      have hFU : ∃ q, FU = q + 1 + 1 + 1 + 1 + 1 + 1 := ⟨FU - 6, by have := FU_gt (m := 6) (by omega); omega⟩
      obtain ⟨q, hq⟩ := hFU
      rw [hq]
      have z0 : (0 : Int32) = zI (0 : Nat) := rfl
      rcases tr_step (j := 0) (t := nT d) (q := q + 1 + 1 + 1 + 1 + 1) (x2 := zI (nP v z)) q4 (by omega) (by omega) with ⟨v0, y0, τ0, m0, S0, T0, A0, B0, C0, D0, E0, F0, G0, H0, I0, J0⟩ | ⟨f, pl, r, y0, τ0, m0, A0, B0, C0, D0, E0, F0⟩
      rotate_left
      · right
        have hb := FL_bad D0
        refine ⟨f, pl, y0, m0, ?_, ?_, D0, pX_t (pX_5 oX2) E0, pM_t (pM_i oM2 (by decide)) F0⟩
        · have X0 : f_Parser_readTrier_48 (q + 1 + 1 + 1 + 1 + 1 + 1) (zI (nT d)) (zI (nP v z)) (zI (0 : Nat)) σx2 = some (0, y0) := A0
          exact X0
        · have N0 : f_M_number 1 99 τ0 = some (r, m0) := C0
          have K0 : f_M_asks 3 σm2 = some τ0 := B0
          rw [K0, bp_s, N0, bd_s]
          rw [asks_bad hb, bp_s, num_bad hb, bd_s, asks_bad hb, bp_s, num_bad hb, bd_s, asks_bad hb, bp_s, num_bad hb, bd_s, asks_bad hb, bp_s, num_bad hb, bd_s]
          rw [takes_bad hb, bd_s, if_pos rfl, t127_bad hb]
      rcases tr_step (j := 1) (t := nT d) (q := q + 1 + 1 + 1 + 1) (x2 := zI (nP v z)) D0 (by omega) (by omega) with ⟨v1, y1, τ1, m1, S1, T1, A1, B1, C1, D1, E1, F1, G1, H1, I1, J1⟩ | ⟨f, pl, r, y1, τ1, m1, A1, B1, C1, D1, E1, F1⟩
      rotate_left
      · right
        have hb := FL_bad D1
        refine ⟨f, pl, y1, m1, ?_, ?_, D1, pX_t (pX_5 (oS_t oX2 E0)) E1, pM_t (pM_i (oS_t oM2 (oS_w G0 (by decide) (by decide) (by decide) (by decide))) (by decide)) F1⟩
        · have X0 : f_Parser_readTrier_48 (q + 1 + 1 + 1 + 1 + 1 + 1) (zI (nT d)) (zI (nP v z)) (zI (0 : Nat)) σx2 = some (0, y1) := A0.trans (A1)
          exact X0
        · have N0 : f_M_number 1 99 τ0 = some (zI v0, m0) := C0
          have K0 : f_M_asks 3 σm2 = some τ0 := B0
          have N1 : f_M_number 0 5 τ1 = some (r, m1) := C1
          have K1 : f_M_asks 4 m0 = some τ1 := B1
          rw [K0, bp_s, N0, bd_s, K1, bp_s, N1, bd_s]
          rw [asks_bad hb, bp_s, num_bad hb, bd_s, asks_bad hb, bp_s, num_bad hb, bd_s, asks_bad hb, bp_s, num_bad hb, bd_s]
          rw [takes_bad hb, bd_s, if_pos rfl, t127_bad hb]
      rcases tr_step (j := 2) (t := nT d) (q := q + 1 + 1 + 1) (x2 := zI (nP v z)) D1 (by omega) (by omega) with ⟨v2, y2, τ2, m2, S2, T2, A2, B2, C2, D2, E2, F2, G2, H2, I2, J2⟩ | ⟨f, pl, r, y2, τ2, m2, A2, B2, C2, D2, E2, F2⟩
      rotate_left
      · right
        have hb := FL_bad D2
        refine ⟨f, pl, y2, m2, ?_, ?_, D2, pX_t (pX_5 (oS_t (oS_t oX2 E0) E1)) E2, pM_t (pM_i (oS_t (oS_t oM2 (oS_w G0 (by decide) (by decide) (by decide) (by decide))) (oS_w G1 (by decide) (by decide) (by decide) (by decide))) (by decide)) F2⟩
        · have X0 : f_Parser_readTrier_48 (q + 1 + 1 + 1 + 1 + 1 + 1) (zI (nT d)) (zI (nP v z)) (zI (0 : Nat)) σx2 = some (0, y2) := A0.trans (A1.trans (A2))
          exact X0
        · have N0 : f_M_number 1 99 τ0 = some (zI v0, m0) := C0
          have K0 : f_M_asks 3 σm2 = some τ0 := B0
          have N1 : f_M_number 0 5 τ1 = some (zI v1, m1) := C1
          have K1 : f_M_asks 4 m0 = some τ1 := B1
          have N2 : f_M_number 0 20 τ2 = some (r, m2) := C2
          have K2 : f_M_asks 5 m1 = some τ2 := B2
          rw [K0, bp_s, N0, bd_s, K1, bp_s, N1, bd_s, K2, bp_s, N2, bd_s]
          rw [asks_bad hb, bp_s, num_bad hb, bd_s, asks_bad hb, bp_s, num_bad hb, bd_s]
          rw [takes_bad hb, bd_s, if_pos rfl, t127_bad hb]
      rcases tr_step (j := 3) (t := nT d) (q := q + 1 + 1) (x2 := zI (nP v z)) D2 (by omega) (by omega) with ⟨v3, y3, τ3, m3, S3, T3, A3, B3, C3, D3, E3, F3, G3, H3, I3, J3⟩ | ⟨f, pl, r, y3, τ3, m3, A3, B3, C3, D3, E3, F3⟩
      rotate_left
      · right
        have hb := FL_bad D3
        refine ⟨f, pl, y3, m3, ?_, ?_, D3, pX_t (pX_5 (oS_t (oS_t (oS_t oX2 E0) E1) E2)) E3, pM_t (pM_i (oS_t (oS_t (oS_t oM2 (oS_w G0 (by decide) (by decide) (by decide) (by decide))) (oS_w G1 (by decide) (by decide) (by decide) (by decide))) (oS_w G2 (by decide) (by decide) (by decide) (by decide))) (by decide)) F3⟩
        · have X0 : f_Parser_readTrier_48 (q + 1 + 1 + 1 + 1 + 1 + 1) (zI (nT d)) (zI (nP v z)) (zI (0 : Nat)) σx2 = some (0, y3) := A0.trans (A1.trans (A2.trans (A3)))
          exact X0
        · have N0 : f_M_number 1 99 τ0 = some (zI v0, m0) := C0
          have K0 : f_M_asks 3 σm2 = some τ0 := B0
          have N1 : f_M_number 0 5 τ1 = some (zI v1, m1) := C1
          have K1 : f_M_asks 4 m0 = some τ1 := B1
          have N2 : f_M_number 0 20 τ2 = some (zI v2, m2) := C2
          have K2 : f_M_asks 5 m1 = some τ2 := B2
          have N3 : f_M_number 0 99 τ3 = some (r, m3) := C3
          have K3 : f_M_asks 6 m2 = some τ3 := B3
          rw [K0, bp_s, N0, bd_s, K1, bp_s, N1, bd_s, K2, bp_s, N2, bd_s, K3, bp_s, N3, bd_s]
          rw [asks_bad hb, bp_s, num_bad hb, bd_s]
          rw [takes_bad hb, bd_s, if_pos rfl, t127_bad hb]
      rcases tr_step (j := 4) (t := nT d) (q := q + 1) (x2 := zI (nP v z)) D3 (by omega) (by omega) with ⟨v4, y4, τ4, m4, S4, T4, A4, B4, C4, D4, E4, F4, G4, H4, I4, J4⟩ | ⟨f, pl, r, y4, τ4, m4, A4, B4, C4, D4, E4, F4⟩
      rotate_left
      · right
        have hb := FL_bad D4
        refine ⟨f, pl, y4, m4, ?_, ?_, D4, pX_t (pX_5 (oS_t (oS_t (oS_t (oS_t oX2 E0) E1) E2) E3)) E4, pM_t (pM_i (oS_t (oS_t (oS_t (oS_t oM2 (oS_w G0 (by decide) (by decide) (by decide) (by decide))) (oS_w G1 (by decide) (by decide) (by decide) (by decide))) (oS_w G2 (by decide) (by decide) (by decide) (by decide))) (oS_w G3 (by decide) (by decide) (by decide) (by decide))) (by decide)) F4⟩
        · have X0 : f_Parser_readTrier_48 (q + 1 + 1 + 1 + 1 + 1 + 1) (zI (nT d)) (zI (nP v z)) (zI (0 : Nat)) σx2 = some (0, y4) := A0.trans (A1.trans (A2.trans (A3.trans (A4))))
          exact X0
        · have N0 : f_M_number 1 99 τ0 = some (zI v0, m0) := C0
          have K0 : f_M_asks 3 σm2 = some τ0 := B0
          have N1 : f_M_number 0 5 τ1 = some (zI v1, m1) := C1
          have K1 : f_M_asks 4 m0 = some τ1 := B1
          have N2 : f_M_number 0 20 τ2 = some (zI v2, m2) := C2
          have K2 : f_M_asks 5 m1 = some τ2 := B2
          have N3 : f_M_number 0 99 τ3 = some (zI v3, m3) := C3
          have K3 : f_M_asks 6 m2 = some τ3 := B3
          have N4 : f_M_number 0 99 τ4 = some (r, m4) := C4
          have K4 : f_M_asks 7 m3 = some τ4 := B4
          rw [K0, bp_s, N0, bd_s, K1, bp_s, N1, bd_s, K2, bp_s, N2, bd_s, K3, bp_s, N3, bd_s, K4, bp_s, N4, bd_s]
          rw [takes_bad hb, bd_s, if_pos rfl, t127_bad hb]
      have X0 : f_Parser_readTrier_48 (q + 1 + 1 + 1 + 1 + 1 + 1) (zI (nT d)) (zI (nP v z)) 0 σx2 = f_Parser_readTrier_48 (q + 1) (zI (nT d)) (zI (nP v z)) (zI (5 : Nat)) y4 := A0.trans (A1.trans (A2.trans (A3.trans A4)))
      have N0 : f_M_number 1 99 τ0 = some (zI v0, m0) := C0
      have K0 : f_M_asks 3 σm2 = some τ0 := B0
      have N1 : f_M_number 0 5 τ1 = some (zI v1, m1) := C1
      have K1 : f_M_asks 4 m0 = some τ1 := B1
      have N2 : f_M_number 0 20 τ2 = some (zI v2, m2) := C2
      have K2 : f_M_asks 5 m1 = some τ2 := B2
      have N3 : f_M_number 0 99 τ3 = some (zI v3, m3) := C3
      have K3 : f_M_asks 6 m2 = some τ3 := B3
      have N4 : f_M_number 0 99 τ4 = some (zI v4, m4) := C4
      have K4 : f_M_asks 7 m3 = some τ4 := B4
      rw [X0, K0, bp_s, N0, bd_s, K1, bp_s, N1, bd_s, K2, bp_s, N2, bd_s, K3, bp_s, N3, bd_s, K4, bp_s, N4, bd_s]
      have oX7 : oS [7, 8, 9, 10, 11] [] [5] [] σx y4 := (oS_t (oS_t (oS_t (oS_t (oS_t oX2 E0) E1) E2) E3) E4)
      have oM7 : oS [1, 3, 8] [] [] [] σm m4 := (oS_t (oS_t (oS_t (oS_t (oS_t oM2 (oS_w G0 (by decide) (by decide) (by decide) (by decide))) (oS_w G1 (by decide) (by decide) (by decide) (by decide))) (oS_w G2 (by decide) (by decide) (by decide) (by decide))) (oS_w G3 (by decide) (by decide) (by decide) (by decide))) (oS_w G4 (by decide) (by decide) (by decide) (by decide)))
      have oX6 : oS [7, 8, 9, 10, 11] [] [5] [] σx2 y4 := oS_t E0 (oS_t E1 (oS_t E2 (oS_t E3 E4)))
      have oM6 : oS [1, 3] [] [] [] σm2 m4 := oS_t G0 (oS_t G1 (oS_t G2 (oS_t G3 G4)))

      have x5 : f_Parser_readTrier_48 (q + 1) (zI (nT d)) (zI (nP v z)) (zI (5 : Nat)) y4 = bp (f_Reader_isWord 8 y4) fun r_2 => if r_2 = 0 then f_Parser_readTrier_132 (zI (nT d)) (zI (nP v z)) r_2 y4 else bp (f_Reader_step y4) fun σ_4 => f_Parser_readTrier_132 (zI (nT d)) (zI (nP v z)) r_2 σ_4 := by
        show f_Parser_readTrier_48b (f_Parser_readTrier_48 q) _ _ _ y4 = _
        unfold f_Parser_readTrier_48b
        rw [if_pos (by decide)]
      have ei : zI (nT d : Int) * 6 + 5 = zI (6 * nT d + 5 : Nat) := by
        rw [zI_lit, zI_lit, zI_mul, zI_add]
        congr 1
        omega
      have x132 : ∀ (l : Nat) (σ : St), l ≤ 1 → f_Parser_readTrier_132 (zI (nT d)) (zI (nP v z)) (zI l) σ = f_Parser_readTrier_154 (zI (nT d)) (zI (nP v z)) (zI l) (zI (6 * nT d + 5 : Nat)) σ := by
        intro l σ hl
        unfold f_Parser_readTrier_132
        have : l = 0 ∨ l = 1 := by omega
        rcases this with rfl | rfl
        · rw [if_pos (by rfl), ei]; rfl
        · rw [if_neg (by decide), ei]; rfl
      have b44 : sI m4 4 = 0 := D4.2.2.2.2.1
      -- the end, with or without the word
      have fin : ∀ (l : Nat) (σx8 σm8 : St) (s8 : Nat) (st8 : Bool), l ≤ 1 → SY b n s8 st8 σx8 σm8 → s < s8 → oS [7, 8, 9, 10, 11] [] [] [] y4 σx8 → oS [1, 3] [] [] [] m4 σm8 → oSt b n s (f_Parser_readTrier_132 (zI (nT d)) (zI (nP v z)) (zI l) σx8) (f_M_trierTold_127 (zI (6 * nT d : Nat)) (zJ v) (zI v0) (zI v1) (zI v2) (zI v3) (zI v4) (zI l) σm8) σx σm := by
        intro l σx8 σm8 s8 st8 hl hS h8 o8 p8
        left
        have b48 : sI σm8 4 = 0 := hS.2.2.2.2.1
        have oMa : oS [1, 3] [] [] [] σm2 σm8 := oS_t oM6 p8
        have mD8 := mD_o mD2 oMa (by decide) (by decide) (by decide)
        obtain ⟨σm9, g1, g2, g3, g4, g5⟩ := m_127 (x3 := zJ v) (y0 := zI v0) (y1 := zI v1) (y2 := zI v2) (y3 := zI v3) (y4 := zI v4) (y5 := zI l) (σ := σm8) (T := nT d) (by omega) mD8.1.2.1 b48
        have oXa : oS [7, 8, 9, 10, 11] [] [5] [] σx2 σx8 := oS_t oX6 (oS_w o8 (by decide) (by decide) (by decide) (by decide))
        have r58 : sA σx8 5 = upd (upd (upd (upd (upd (sA σx2 5) (6 * nT d) (zI v0)) (6 * nT d + 1) (zI v1)) (6 * nT d + 2) (zI v2)) (6 * nT d + 3) (zI v3)) (6 * nT d + 4) (zI v4) := by
          rw [o8.2.2.1 5 (by decide), F4, F3, F2, F1, F0]
          rfl
        have r59 : upd (sA σx8 5) (6 * nT d + 5) (zI l) = rw6 (sA σx2 5) (nT d) (zI v0) (zI v1) (zI v2) (zI v3) (zI v4) (zI l) := by
          rw [r58]
          rfl
        have oXb : oS [7, 8, 9, 10, 11] [] [5] [] σx2 (uA σx8 5 (upd (sA σx8 5) (6 * nT d + 5) (zI l))) := oS_uA (by decide) oXa
        have xD9 := x_addT (t := tr6 v0 v1 v2 v3 v4 l) (v := v) (z := z) xD2 oXb (by decide) (fun k hk => by rw [sA_uA, if_pos rfl, r59]; exact rw6_l hk) (fun j hj => by rw [sA_uA, if_pos rfl, r59]; exact rw6_t j hj)
        have mD9 : mD (addT d (tr6 v0 v1 v2 v3 v4 l) v z) u R E L σm9 := m_addT mD8 w6'' g2 (by decide) g3 g4 (fun k hk => by rw [g5]; exact rw6_l hk) (fun j hj => by rw [g5]; exact rw6_t j hj)
        have oMx : oS [1, 3, 8] [] [] [] σm σm8 := oS_t oM7 (oS_w p8 (by decide) (by decide) (by decide) (by decide))
        have oXx : oS [7, 8, 9, 10, 11] [] [5] [] σx σx8 := oS_t oX7 (oS_w o8 (by decide) (by decide) (by decide) (by decide))
        have k14 : sI σx8 14 = zI (nT d) := by rw [oXx.1 14 (by decide)]; exact hx14
        refine ⟨addT d (tr6 v0 v1 v2 v3 v4 l) v z, u, R, E, L, uI (uA (uA σx8 5 (upd (sA σx8 5) (6 * nT d + 5) (zI l))) 4 (upd (sA (uA σx8 5 (upd (sA σx8 5) (6 * nT d + 5) (zI l))) 4) (nT d) (zI (nP v z)))) 14 (zI (nT d + 1 : Nat)), σm9, s8, st8, ?_, g1, ⟨?_, xD9, mD9, ?_, ?_, ?_, ?_⟩, ?_, ?_, ?_, h8⟩
        · rw [x132 l σx8 hl]
          unfold f_Parser_readTrier_154
          rw [zI_in (a := (6 * nT d + 5 : Nat)) (by omega) (by omega) (by omega), zI_in (a := nT d) (by omega) (by omega) (by omega), zI_cl (by omega) (by omega), zI_cl (by omega) (by omega), Int.toNat_natCast, Int.toNat_natCast]
          simp only [gd_q, lt_q]
          have : ∀ (f g : Nat → Int32), sI (uA (uA σx8 5 f) 4 g) 14 = zI (nT d) := fun f g => k14
          rw [this, zS]
        · exact SY_o hS (oS_uI (I := [14]) (J := []) (A := [4, 5]) (B := []) (by decide) (oS_uA (by decide) (oS_uA (by decide) oS_r))) g2 (by decide) (by decide) (by decide) (by decide)
        · obtain ⟨z1, z2, z3, z4, z5, z6⟩ := a4
          have J0' : v0 ≤ 99 := J0
          have I0' : 1 ≤ v0 := I0
          have J1' : v1 ≤ 5 := J1
          have J2' : v2 ≤ 20 := J2
          have J3' : v3 ≤ 99 := J3
          have J4' : v4 ≤ 99 := J4
          refine ⟨wf_addT z1 (by omega) ⟨I0', J0', J1', J2', J3', J4', hl⟩ q3, z2, z3, z4, z5, by omega⟩
        · show sI σx8 4 = 0
          rw [oXx.1 4 (by decide)]; exact a5
        · show sI σx8 5 = zI (-1)
          rw [oXx.1 5 (by decide)]; exact a6
        · rw [g2.1 5 (by decide), oMx.1 5 (by decide)]; exact a7
        · exact pX_t (pX_5 oXx) (oS_uI (by decide) (oS_uA (by decide) (oS_uA (by decide) oS_r)))
        · refine pM_t (pM_i oMx (by decide)) ⟨oS_w g2 (by decide) (by decide) (by decide) (by decide), ?_⟩
          refine ⟨fun k => ?_, fun k => ?_, fun k => ?_, fun k => ?_, fun k => ?_, fun k => ?_, fun k => ?_, fun k => ?_⟩
          · rw [g3, upd_e, if_neg (by omega)]
          · rw [g2.2.2.1 3 (by decide)]
          · rw [g5, rw6_h (by omega)]
          · rw [g2.2.2.1 5 (by decide)]
          · rw [g2.2.2.1 6 (by decide)]
          · rw [g2.2.2.1 8 (by decide)]
          · rw [g2.2.2.1 9 (by decide)]
          · rw [g4, updL_e, if_neg (by omega)]
        · rw [g2.1 9 (by decide), oMx.1 9 (by decide)]
      rw [x5]
      rcases t_word (j := 8) D4 (by omega) with ⟨σx8, σm8, s8, st8, k1, k2, k3, k4, k5, k6, k7, k8, k9⟩ | ⟨k1, k2, k3, k4, k5⟩
      · have k1' : f_Reader_isWord 8 y4 = some 1 := k1
        rw [k1', bp_s, if_neg (by decide), k2, bp_s, k4, bd_s, if_neg (by decide)]
        exact fin 1 σx8 σm8 s8 st8 (by omega) k5 (by omega) k6 k7
      · have k1' : f_Reader_isWord 8 y4 = some 0 := k1
        rw [k1', bp_s, if_pos rfl, k3, bd_s, if_pos rfl]
        exact fin 0 y4 _ S4 T4 (by omega) k4 (by omega) oS_r (oS_uI (by decide) oS_r)
    · right
      have hb := FL_bad q3
      refine ⟨f, pl, σx2, σm2, ?_, ?_, q3, pX_t (pX_s w6) (pX_f q4), pM_t (pM_i w7 (by decide)) (pM_i q5 (by decide))⟩
      · rw [q1, bd_s, m1_e, if_pos rfl]
      · rw [q2, bd_s, asks_bad hb, bp_s, num_bad hb, bd_s, asks_bad hb, bp_s, num_bad hb, bd_s, asks_bad hb, bp_s, num_bad hb, bd_s, asks_bad hb, bp_s, num_bad hb, bd_s, asks_bad hb, bp_s, num_bad hb, bd_s, takes_bad hb, bd_s, if_pos rfl, t127_bad hb]
end
theorem cR_c {cd cd' : Nat → Nat} : ∀ (m i : Nat) (s : List Bool), (∀ k, i ≤ k → k < i + m → cd k = cd' k) → cR cd i m s = cR cd' i m s := by
  intro m
  induction m with
  | zero => intro i s _; rfl
  | succ m ih =>
    intro i s h
    show (cT (cd i) s).bind (cR cd (i + 1) m) = (cT (cd' i) s).bind (cR cd' (i + 1) m)
    rw [h i (by omega) (by omega)]
    congr 1
    funext t
    exact ih (i + 1) t (fun k h1 h2 => h k (by omega) (by omega))
theorem cR_L : ∀ (C A : List Nat) (s : List Bool), cR (fun i => (A ++ C).getD i 0) A.length C.length s = cTL C s := by
  intro C
  induction C with
  | nil => intro A s; rfl
  | cons c C ih =>
    intro A s
    have e : A ++ c :: C = (A ++ [c]) ++ C := by rw [List.append_assoc]; rfl
    have e2 : (A ++ c :: C).getD A.length 0 = c := by
      rw [List.getD_eq_getElem?_getD, List.getElem?_append_right (Nat.le_refl _), Nat.sub_self]
      rfl
    show (cT ((A ++ c :: C).getD A.length 0) s).bind (cR (fun i => (A ++ c :: C).getD i 0) (A.length + 1) C.length) = (cT c s).bind (cTL C)
    rw [e2]
    congr 1
    funext t
    have := ih (A ++ [c]) t
    rw [List.length_append] at this
    rw [e]
    exact this
theorem tOk_x {L C : List Nat} {f e : Nat} (h : tOk (fun i => L.getD i 0) f e) (he : e ≤ L.length) : tOk (fun i => (L ++ C).getD i 0) f e := by
  obtain ⟨h1, h2, h3⟩ := h
  refine ⟨h1, h2, ?_⟩
  rw [← h3]
  refine cR_c _ _ _ (fun k k1 k2 => ?_)
  show (L ++ C).getD k 0 = L.getD k 0
  rw [List.getD_eq_getElem?_getD, List.getD_eq_getElem?_getD, List.getElem?_append_left (by omega)]
theorem wf_addR {d : FD} {u : Nat → Nat} {R : Nat} {E : Nat → Nat} {L C : List Nat} {s s' : Nat} (h : wfDr d u R E L s) (hR : R < 6) (hC : cTL C [] = some [true]) (hl : (L ++ C).length ≤ s') (hs : s' ≤ 1600) : wfDr d u (R + 1) (fun k => if k = R then (L ++ C).length else E k) (L ++ C) s' := by
  obtain ⟨h1, h2, h3, h4, h5, h6⟩ := h
  have hf : ∀ k, k ≤ R → fE (fun k => if k = R then (L ++ C).length else E k) k = fE E k := by
    intro k hk
    unfold fE
    by_cases e : k = 0
    · rw [if_pos e, if_pos e]
    · rw [if_neg e, if_neg e]
      show (if k - 1 = R then (L ++ C).length else E (k - 1)) = E (k - 1)
      rw [if_neg (by omega)]
  have hll : L.length ≤ (L ++ C).length := by rw [List.length_append]; omega
  refine ⟨h1, h2, hR, fun k hk => ?_, ?_, hl⟩
  · rw [hf k (by omega)]
    show (if k = R then (L ++ C).length else E k) ≤ (L ++ C).length ∧ tOk (fun i => (L ++ C).getD i 0) (fE E k) (if k = R then (L ++ C).length else E k)
    by_cases e : k = R
    · rw [if_pos e, e, h5]
      refine ⟨Nat.le_refl _, hll, by omega, ?_⟩
      have : (L ++ C).length - L.length = C.length := by rw [List.length_append]; omega
      rw [this, cR_L]
      exact hC
    · rw [if_neg e]
      obtain ⟨g1, g2⟩ := h4 k (by omega)
      exact ⟨by omega, tOk_x g2 g1⟩
  · unfold fE
    rw [if_neg (by omega)]
    show (if R + 1 - 1 = R then (L ++ C).length else E (R + 1 - 1)) = _
    rw [if_pos (by omega)]
theorem x_addR {d : FD} {u : Nat → Nat} {R : Nat} {E : Nat → Nat} {L L' : List Nat} {σ σ' : St} (hx : xD d u R E L σ) (o : oS [7, 8, 9, 10, 11, 12] [] [7] [] σ σ') (hc : cX L' σ') : xD d u (R + 1) (fun k => if k = R then L'.length else E k) L' (uI (uA σ' 8 (upd (sA σ' 8) R (zI L'.length))) 15 (zI (R + 1 : Nat))) := by
  obtain ⟨h1, h2, h3, h4, h5, h6, h7⟩ := hx
  have h1' := xN_o h1 o (by decide) (by decide) (by decide) (by decide)
  rw [← o.2.2.1 3 (by decide)] at h2
  rw [← o.2.2.1 5 (by decide)] at h3
  rw [← o.2.2.1 6 (by decide)] at h4
  rw [← o.2.2.1 8 (by decide)] at h6
  refine ⟨h1', h2, h3, h4, rfl, fun k hk => ?_, hc⟩
  show upd (sA σ' 8) R (zI L'.length) k = zI (if k = R then L'.length else E k : Nat)
  rw [upd_e]
  by_cases e : k = R
  · rw [if_pos e, if_pos e]
  · rw [if_neg e, if_neg e]; exact h6 k (by omega)
theorem m_addR {d : FD} {u : Nat → Nat} {R : Nat} {E : Nat → Nat} {L L' : List Nat} {I : List Nat} {σ σ' : St} (hx : mD d u R E L σ) (o : oS I [] [2, 6, 7, 8, 9] [] σ σ') (g2 : sA σ' 2 = upd (sA σ 2) 2 (zI (R + 1 : Nat))) (g8 : sA σ' 8 = upd (sA σ 8) R (zI L.length)) (g9 : sA σ' 9 = upd (sA σ 9) R (zI L'.length)) (hc : cM L' σ') (hf : fE E R = L.length) : mD d u (R + 1) (fun k => if k = R then L'.length else E k) L' σ' := by
  obtain ⟨⟨n1, n2, n3, n4⟩, h2, h3, h4, h5, h6, h7⟩ := hx
  have hf' : ∀ k, k ≤ R → fE (fun k => if k = R then L'.length else E k) k = fE E k := by
    intro k hk
    unfold fE
    by_cases e : k = 0
    · rw [if_pos e, if_pos e]
    · rw [if_neg e, if_neg e]
      show (if k - 1 = R then L'.length else E (k - 1)) = E (k - 1)
      rw [if_neg (by omega)]
  rw [← o.2.2.2 0 (by decide)] at n3 n4
  rw [← o.2.2.1 3 (by decide)] at h2
  rw [← o.2.2.1 4 (by decide)] at h3
  rw [← o.2.2.1 5 (by decide)] at h4
  refine ⟨⟨?_, ?_, n3, n4⟩, h2, h3, h4, ?_, fun k hk => ?_, hc⟩
  · rw [g2, upd_e, if_neg (by omega)]; exact n1
  · rw [g2, upd_e, if_neg (by omega)]; exact n2
  · rw [g2, upd_e, if_pos rfl]
  · rw [hf' k (by omega), g8, g9, upd_e, upd_e]
    show _ ∧ _ = zI (if k = R then L'.length else E k : Nat)
    by_cases e : k = R
    · rw [if_pos e, if_pos e, if_pos e, e, hf]; exact ⟨rfl, rfl⟩
    · rw [if_neg e, if_neg e, if_neg e]; exact h6 k (by omega)
theorem m_52 {R : Nat} {σ : St} (hR : R < 6) : f_M_ruleTold_52 (zI R) σ = some (uA (uA σ 9 (upd (sA σ 9) R (sI σ 10))) 2 (upd (sA σ 2) 2 (sA σ 2 2 + 1))) := by
  unfold f_M_ruleTold_52
  rw [zI_in (by omega) (by omega) (by omega), gd_t, zI_cl (by omega) (by omega), Int.toNat_natCast, cl2]
  rfl
theorem p_52 {R : Nat} {σ : St} (hR : R < 6) : pM σ (uA (uA σ 9 (upd (sA σ 9) R (sI σ 10))) 2 (upd (sA σ 2) 2 (sA σ 2 2 + 1))) := pM_t (pM_A (σ := σ) (r := 9) (i := R) (by omega)) (pM_A (σ := uA σ 9 (upd (sA σ 9) R (sI σ 10))) (r := 2) (i := 2) (by omega))
/-- a rule, by X -/
def xLean (σ : St) : Option (Int32 × St) :=
  bd (f_Parser_beginRule σ) fun r_21 σ_22 =>
  if r_21 = 0 then
    some (0, σ_22)
  else
    bd (f_Parser_readTest (f_Parser_readFact 8) 0 σ_22) fun r_24 σ_25 =>
    if r_24 = 0 then
      some (0, σ_25)
    else
      bd (f_Parser_endRule σ_25) fun r_27 σ_28 =>
      if r_27 = 0 then
        some (0, σ_28)
      else
        some (1, σ_28)
section
variable {b : Nat → Nat} {n : Nat}
theorem t_rule {d : FD} {u : Nat → Nat} {R : Nat} {E : Nat → Nat} {L : List Nat} {s : Nat} {st : Bool} {σx σm : St} (h : DR b n d u R E L s st σx σm) (h1 : sI σm 1 = zI s) (hw : kd b n s st = 1 ∧ wAt b n s 9) : ∃ σm1, f_M_takes 9 σm = some (1, σm1) ∧ oSt b n s (xLean σx) (f_M_ruleTold (zI s) σm1) σx σm := by
  obtain ⟨a1, a2, a3, a4, a5, a6, a7⟩ := h
  obtain ⟨σx1, σm1, s1, st1, w1, w2, w3, w3', w4, w5, w6, w7, w8⟩ := t_word' a1 (by omega) hw
  rw [uI_id h1] at w4
  refine ⟨σm1, w4, ?_⟩
  have b4 : sI σm1 4 = 0 := w5.2.2.2.2.1
  have w6' := a4.2.2.1
  have mD1 : mD d u R E L σm1 := mD_o a3 w7 (by decide) (by decide) (by decide)
  have xD1 : xD d u R E L σx1 := xD_o a2 w6 (by decide) (by decide)
  have hm2 : sA σm1 2 2 = zI R := mD1.2.2.2.2.1
  have hx15 : sI σx 15 = zI R := a2.2.2.2.2.1
  have e6 : (6 : Int32) = zI (6 : Nat) := rfl
  have g0 : ∀ y : St, gd (isB 0) (some ((0 : Int32), y)) = some (0, y) := fun _ => rfl
  have g1 : ∀ y : St, gd (isB 1) (some ((1 : Int32), y)) = some (1, y) := fun _ => rfl
  unfold xLean f_Parser_beginRule f_M_ruleTold
  rw [hx15]
  by_cases c : R = 6
  · right
    rw [c] at hm2
    refine ⟨5, s, uI (uI σx 4 5) 5 (zI s), uI (uI σm1 4 5) 5 (zI s), ?_, ?_, ⟨by omega, by omega, rfl, rfl, rfl, rfl⟩, pX_f (oS_uI (by decide) (oS_uI (by decide) oS_r)), pM_t (pM_i w7 (by decide)) (pM_i (oS_uI (I := [4, 5]) (by decide) (oS_uI (by decide) oS_r)) (by decide))⟩
    · rw [e6, if_neg (by rw [zI_lt (by omega) (by omega) (by omega) (by omega)]; omega), a1.2.2.1.1, x_tell, bd_s, g0, bd_s, if_pos rfl]
    · have := full_y (i := 2) (x := zI s) (by omega) hm2 b4
      have f0 : f_M_isFull 2 6 (zI s) σm1 = some (1, uI (uI σm1 4 5) 5 (zI s)) := this
      rw [f0, bd_s, if_neg (by decide)]
  · have f0 : f_M_isFull 2 6 (zI s) σm1 = some (0, σm1) := full_n (i := 2) (k := 6) (x := zI s) (by omega) hm2 (by omega) (by omega) c b4
    rw [e6, if_pos (by rw [zI_lt (by omega) (by omega) (by omega) (by omega)]; omega), w2, bp_s, ← e6, f0, bd_s, if_pos rfl, cl2, hm2, lt_s']
    have hcl : ∀ σ : St, f_M_clears σ = some (uI (uI (uI σ 11 0) 12 0) 13 0) := fun σ => rfl
    rcases p_word (j := 10) w5 (by omega) with ⟨σx2, σm2, s2, st2, r1, r2, r3, r4, r5, r6⟩ | ⟨σx2, σm2, r1, r2, r3, r4, r5⟩
    · have r1' : f_Parser_passWord 10 σx1 = some (1, σx2) := r1
      rw [r1', r2, bd_s, g1, bd_s, bp_s, if_neg (show ¬ (1 : Int32) = 0 by decide), zI_in (a := R) (n := 12) (by omega) (by omega) (by omega), gd_t, zI_cl (by omega) (by omega), Int.toNat_natCast, lt_s', hcl, bp_s]
      have mD2 := mD_o mD1 r5 (by decide) (by decide) (by decide)
      have xD2 := xD_o xD1 r4 (by decide) (by decide)
      have h10 : sI σm2 10 = zI L.length := mD2.2.2.2.2.2.2.1
      rw [h10]
      have oτ : oS [11, 12, 13] [] [8] [] σm2 (uI (uI (uI (uA σm2 8 (upd (sA σm2 8) R (zI L.length))) 11 0) 12 0) 13 0) := oS_uI (by decide) (oS_uI (by decide) (oS_uI (by decide) (oS_uA (by decide) oS_r)))
      have pτ : pM σm2 (uI (uI (uI (uA σm2 8 (upd (sA σm2 8) R (zI L.length))) 11 0) 12 0) 13 0) := pM_t (pM_A (σ := σm2) (r := 8) (i := R) (by omega)) (pM_i (I := [11, 12, 13]) (oS_uI (by decide) (oS_uI (by decide) (oS_uI (by decide) oS_r))) (by decide))
      have τ8 : sA (uI (uI (uI (uA σm2 8 (upd (sA σm2 8) R (zI L.length))) 11 0) 12 0) 13 0) 8 = upd (sA σm2 8) R (zI L.length) := rfl
      have τ11 : sI (uI (uI (uI (uA σm2 8 (upd (sA σm2 8) R (zI L.length))) 11 0) 12 0) 13 0) 11 = zI (0 : Nat) := rfl
      have τ12 : sI (uI (uI (uI (uA σm2 8 (upd (sA σm2 8) R (zI L.length))) 11 0) 12 0) 13 0) 12 = zI (0 : Nat) := rfl
      have τ13 : sI (uI (uI (uI (uA σm2 8 (upd (sA σm2 8) R (zI L.length))) 11 0) 12 0) 13 0) 13 = zI (0 : Nat) := rfl
      generalize uI (uI (uI (uA σm2 8 (upd (sA σm2 8) R (zI L.length))) 11 0) 12 0) 13 0 = τ at oτ pτ τ8 τ11 τ12 τ13 ⊢
      have hSτ : SY b n s2 st2 σx2 τ := SY_o r3 (oS_r (I := []) (J := []) (A := []) (B := [])) oτ (by decide) (by decide) (by decide) (by decide)
      have hll := a4.2.2.2.2.2
      have hER : ER b n 0 0 0 L L [] s2 st2 σx2 τ := ⟨hSτ, xD2.2.2.2.2.2.2, cM_o mD2.2.2.2.2.2.2 oτ (by decide) (by decide), ⟨τ11, trivial⟩, τ13, τ12, by show L.length + 0 + 1 + 0 < s2; omega, fun v hv => absurd hv (List.not_mem_nil)⟩
      rw [if_pos hSτ.2.2.2.2.1]
      have oXa : oS [7, 8, 9, 10, 11] [] [] [] σx σx2 := oS_t w6 r4
      have oMa : oS [1, 3] [] [] [] σm σm2 := oS_t w7 r5
      rcases t_tests hER with ⟨C, σx3, σm3, s3, st3, k1, k2, k3, k4, k5, k6, k7⟩ | ⟨f, pl, σx3, σm3, k1, k2, k3, k4, k5⟩
      · left
        have k1' : f_Parser_readTest (f_Parser_readFact 8) 0 σx2 = some (1, σx3) := k1
        obtain ⟨e1, e2, e3, e4, e5, e6', e7, e8⟩ := k3
        have hs3 : s3 ≤ n ∧ n ≤ 1600 := ⟨e1.2.2.1.2.2.1.1, e1.1.1⟩
        have h12 : sI σx3 12 = zI (L ++ C).length := e2.1
        have h10' : sI σm3 10 = zI (L ++ C).length := e3.1
        have k5' : oS [7, 8, 9, 10, 11, 12] [] [7] [] σx2 σx3 := k5
        have h15 : sI σx3 15 = zI R := by rw [k5'.1 15 (by decide)]; exact xD2.2.2.2.2.1
        have q2 : sA σm3 2 = sA σm2 2 := by rw [k6.1.1.2.2.1 2 (by decide), oτ.2.2.1 2 (by decide)]
        have q22 : sA σm3 2 2 = zI R := by rw [q2]; exact mD2.2.2.2.2.1
        have oF : oS [1, 3, 4, 5, 10, 11, 12, 13] [] [2, 6, 7, 8, 9] [] σm2 (uA (uA σm3 9 (upd (sA σm3 9) R (sI σm3 10))) 2 (upd (sA σm3 2) 2 (sA σm3 2 2 + 1))) := oS_uA (by decide) (oS_uA (by decide) (oS_t (oS_w oτ (by decide) (by decide) (by decide) (by decide)) (oS_w k6.1.1 (by decide) (by decide) (by decide) (by decide))))
        refine ⟨d, u, R + 1, (fun k => if k = R then (L ++ C).length else E k), L ++ C, uI (uA σx3 8 (upd (sA σx3 8) R (zI (L ++ C).length))) 15 (zI (R + 1 : Nat)), uA (uA σm3 9 (upd (sA σm3 9) R (sI σm3 10))) 2 (upd (sA σm3 2) 2 (sA σm3 2 2 + 1)), s3, st3, ?_, ?_, ⟨?_, x_addR xD2 k5' e2, ?_, ?_, ?_, ?_, ?_⟩, ?_, ?_, ?_, by omega⟩
        · have hend : f_Parser_endRule σx3 = some (1, uI (uA σx3 8 (upd (sA σx3 8) R (zI (L ++ C).length))) 15 (zI (R + 1 : Nat))) := by
            unfold f_Parser_endRule
            rw [h15, e6, if_pos (by rw [zI_lt (by omega) (by omega) (by omega) (by omega)]; omega), zI_in (a := R) (n := 6) (by omega) (by omega) (by omega), gd_t, zI_cl (by omega) (by omega), Int.toNat_natCast, h12]
            simp only [lt_q]
            have : ∀ f, sI (uA σx3 8 f) 15 = zI R := fun f => h15
            rw [this, zS]
          rw [k1', bd_s, if_neg (show ¬ (1 : Int32) = 0 by decide), hend, bd_s, if_neg (show ¬ (1 : Int32) = 0 by decide)]
        · rw [k2, bp_s, m_52 (by omega)]
        · exact SY_o e1 (oS_uI (I := [15]) (J := []) (A := [8]) (B := []) (by decide) (oS_uA (by decide) oS_r)) (oS_uA (I := []) (J := []) (A := [2, 9]) (B := []) (by decide) (oS_uA (by decide) oS_r)) (by decide) (by decide) (by decide) (by decide)
        · refine m_addR mD2 oF ?_ ?_ ?_ e3 a4.2.2.2.2.1
          · rw [sA_uA, if_pos rfl, q22, zS, q2]
          · show sA σm3 8 = _
            rw [k6.1.1.2.2.1 8 (by decide), τ8]
          · show upd (sA σm3 9) R (sI σm3 10) = _
            rw [h10', k6.1.1.2.2.1 9 (by decide), oτ.2.2.1 9 (by decide)]
        · exact wf_addR a4 (by omega) k4 (by have : (L ++ C).length + 0 + 1 + 0 < s3 := e7; omega) (by omega)
        · show sI σx3 4 = 0
          rw [k5'.1 4 (by decide), oXa.1 4 (by decide)]; exact a5
        · show sI σx3 5 = zI (-1)
          rw [k5'.1 5 (by decide), oXa.1 5 (by decide)]; exact a6
        · show sI σm3 5 = zI (-1)
          rw [k6.2, oτ.1 5 (by decide), oMa.1 5 (by decide)]; exact a7
        · exact pX_t (pX_t (pX_s oXa) (oS_w k5' (by decide) (by decide) (by decide) (by decide))) (oS_uI (by decide) (oS_uA (by decide) oS_r))
        · exact pM_t (pM_t (pM_i oMa (by decide)) pτ) (pM_t (pM_e k6.1) (p_52 (by omega)))
        · show sI σm3 9 = sI σm 9
          rw [k6.1.1.1 9 (by decide), oτ.1 9 (by decide), oMa.1 9 (by decide)]
      · right
        have k1' : f_Parser_readTest (f_Parser_readFact 8) 0 σx2 = some (0, σx3) := k1
        refine ⟨f, pl, σx3, uA (uA σm3 9 (upd (sA σm3 9) R (sI σm3 10))) 2 (upd (sA σm3 2) 2 (sA σm3 2 2 + 1)), ?_, ?_, FL_o k3 (oS_r (I := []) (J := []) (A := []) (B := [])) (oS_uA (I := []) (J := []) (A := [2, 9]) (B := []) (by decide) (oS_uA (by decide) oS_r)) (by decide) (by decide) (by decide) (by decide), pX_t (pX_s oXa) (pX_F k4), pM_t (pM_t (pM_i oMa (by decide)) pτ) (pM_t (pM_e k5) (p_52 (by omega)))⟩
        · rw [k1', bd_s, if_pos rfl]
        · rw [k2, bp_s, m_52 (by omega)]
    · right
      have r1' : f_Parser_passWord 10 σx1 = some (0, σx2) := r1
      rw [r1', r2, bd_s, g0, bd_s, bp_s, if_pos (show (0 : Int32) = 0 from rfl), zI_in (a := R) (n := 12) (by omega) (by omega) (by omega), gd_t, zI_cl (by omega) (by omega), Int.toNat_natCast, lt_s', hcl, bp_s]
      have oτ : oS [11, 12, 13] [] [8] [] σm2 (uI (uI (uI (uA σm2 8 (upd (sA σm2 8) R (sI σm2 10))) 11 0) 12 0) 13 0) := oS_uI (by decide) (oS_uI (by decide) (oS_uI (by decide) (oS_uA (by decide) oS_r)))
      have pτ : pM σm2 (uI (uI (uI (uA σm2 8 (upd (sA σm2 8) R (sI σm2 10))) 11 0) 12 0) 13 0) := pM_t (pM_A (σ := σm2) (r := 8) (i := R) (by omega)) (pM_i (I := [11, 12, 13]) (oS_uI (by decide) (oS_uI (by decide) (oS_uI (by decide) oS_r))) (by decide))
      generalize uI (uI (uI (uA σm2 8 (upd (sA σm2 8) R (sI σm2 10))) 11 0) 12 0) 13 0 = τ at oτ pτ ⊢
      have hbτ : ¬ sI τ 4 = 0 := by rw [oτ.1 4 (by decide)]; exact FL_bad r3
      rw [if_neg hbτ, m_52 (by omega)]
      refine ⟨1, s1, σx2, _, rfl, rfl, FL_o r3 (oS_r (I := []) (J := []) (A := []) (B := [])) (oS_uA (I := [11, 12, 13]) (J := []) (A := [2, 8, 9]) (B := []) (by decide) (oS_uA (by decide) (oS_w oτ (by decide) (by decide) (by decide) (by decide)))) (by decide) (by decide) (by decide) (by decide), pX_t (pX_s w6) (pX_f r4), pM_t (pM_t (pM_i w7 (by decide)) (pM_i r5 (by decide))) (pM_t pτ (p_52 (by omega)))⟩
end
