-- ===== rules that hold =====
def stkI (f : Nat → Int32) : List Int → Prop
  | [] => True
  | v :: r => f r.length = zI v ∧ stkI f r
theorem stkI_c {f g : Nat → Int32} : ∀ {s : List Int}, stkI f s → (∀ i, i < s.length → g i = f i) → stkI g s
  | [], _, _ => trivial
  | v :: r, h, hg => ⟨by rw [hg r.length (Nat.lt_succ_self _)]; exact h.1, stkI_c h.2 (fun i hi => hg i (Nat.lt_succ_of_lt hi))⟩
def stkJ (f : Nat → Int64) : List Int → Prop
  | [] => True
  | v :: r => f r.length = zJ v ∧ stkJ f r
theorem stkJ_c {f g : Nat → Int64} : ∀ {s : List Int}, stkJ f s → (∀ i, i < s.length → g i = f i) → stkJ g s
  | [], _, _ => trivial
  | v :: r, h, hg => ⟨by rw [hg r.length (Nat.lt_succ_self _)]; exact h.1, stkJ_c h.2 (fun i hi => hg i (Nat.lt_succ_of_lt hi))⟩
theorem zP (k : Nat) : (zI ((k + 1 : Nat) : Int) - 1) = zI (k : Int) := by
  rw [zI_lit, zI_sub]
  congr 1
  omega
theorem zP' (k : Nat) : (zI ((k + 1 : Nat) : Int) + (-1)) = zI (k : Int) := by
  rw [zI_lit, zI_neg, zI_add]
  congr 1
  omega
theorem zP2 (k : Nat) : (zI ((k + 1 + 1 : Nat) : Int) - 2) = zI (k : Int) := by
  rw [zI_lit, zI_sub]
  congr 1
  omega
theorem xC_push {m : Nat} (h : (1000 ≤ m ∧ m ≤ 10999) ∨ m = 19 ∨ (7 ≤ m ∧ m ≤ 12)) : xC m < 10010 := by
  unfold xC
  rcases h with h | h | h
  · rw [if_pos h.1]
    omega
  · rw [if_neg (by omega), if_pos h]
    omega
  · rw [if_neg (by omega), if_neg (by omega), if_neg (by omega), if_neg (by omega), if_neg (by omega), if_neg (by omega), if_pos (by omega)]
    omega
theorem xC_bin {m : Nat} (h : m = 16 ∨ m = 17 ∨ (13 ≤ m ∧ m ≤ 15) ∨ (1 ≤ m ∧ m ≤ 6)) : 10010 < xC m ∧ xC m < 10022 := by
  unfold xC
  rw [if_neg (by omega), if_neg (by omega), if_neg (by omega)]
  rcases h with h | h | h | h
  · rw [if_pos h]; omega
  · rw [if_neg (by omega), if_pos h]; omega
  · rw [if_neg (by omega), if_neg (by omega), if_pos h.1]; omega
  · rw [if_neg (by omega), if_neg (by omega), if_neg (by omega), if_neg (by omega)]; omega
def rH (d : FD) (fa : Nat → Int) (k : Nat) : Int := (evS fa (cD d) (cF d k) (cE d k - cF d k) []).headD 0
theorem x_valueOf {m : Nat} {fa : Nat → Int} {σ : St} {s : List Int} (hf : ∀ i, i < 6 → sA σ 14 i = zI (fa i)) (h : (1000 ≤ m ∧ m ≤ 10999) ∨ m = 19 ∨ (7 ≤ m ∧ m ≤ 12)) : ∃ v, ev1 fa m s = v :: s ∧ f_Showman_valueOf (zI (xC m)) σ = some (zI v) := by
  have e00 : (0 : Int32) = zI 0 := rfl
  have e66 : (6 : Int32) = zI 6 := rfl
  have eT : (10000 : Int32) = zI 10000 := rfl
  unfold f_Showman_valueOf ev1
  rcases h with h | h | h
  · have ex : xC m = m - 1000 := if_pos h.1
    rw [if_pos h.1, ex, eT, zI_sub, lt_s', e00, if_neg (by rw [zI_le (by omega) (by omega) (by omega) (by omega)]; omega)]
    refine ⟨_, rfl, ?_⟩
    congr 2
    omega
  · subst h
    rw [if_neg (by omega), if_pos rfl]
    exact ⟨_, rfl, rfl⟩
  · have ex : xC m = 9993 + m := by
      unfold xC
      rw [if_neg (by omega), if_neg (by omega), if_neg (by omega), if_neg (by omega), if_neg (by omega), if_neg (by omega), if_pos (by omega)]
    have ei : ((9993 + m : Nat) : Int) - 10000 = ((m - 7 : Nat) : Int) := by omega
    rw [if_neg (by omega), if_neg (by omega), if_neg (by omega), if_pos h, ex, eT, zI_sub, ei, lt_s', e00, if_pos (by rw [zI_le (by omega) (by omega) (by omega) (by omega)]; omega), e66, if_neg (by rw [zI_le (by omega) (by omega) (by omega) (by omega)]; omega), zI_in (by omega) (by omega) (by omega), gd_t, zI_cl (by omega) (by omega), Int.toNat_natCast, hf (m - 7) (by omega)]
    exact ⟨_, rfl, rfl⟩
theorem x_hstep {m : Nat} {fa : Nat → Int} {σ : St} {s : List Int} {t t' : List Bool} {f : Nat → Int32} {i e : Nat} (q : Nat) (hf : ∀ i, i < 6 → sA σ 14 i = zI (fa i)) (hc : sA σ 26 i = zI (xC m)) (hi : i < e) (he : e ≤ 1600) (ht : cT m t = some t') (hs : okS t s) (hl : s.length ≤ 64) (hk : stkI f s) : ∃ f', f_Showman_holds_6 (q + 1) (zI e) (zI s.length) (zI i) (uA σ 15 f) = f_Showman_holds_6 q (zI e) (zI (ev1 fa m s).length) (zI (i + 1 : Nat)) (uA σ 15 f') ∧ stkI f' (ev1 fa m s) ∧ (ev1 fa m s).length ≤ 64 := by
  have e10 : (10010 : Int32) = zI 10010 := rfl
  have e64 : (64 : Int32) = zI 64 := rfl
  have e00 : (0 : Int32) = zI 0 := rfl
  have e01 : (1 : Int32) = zI 1 := rfl
  have e16 : (1600 : Int32) = zI 1600 := rfl
  have hc' : sA (uA σ 15 f) 26 i = zI (xC m) := hc
  have hf' : ∀ i, i < 6 → sA (uA σ 15 f) 14 i = zI (fa i) := hf
  have head : ∀ K0 : Int32 → Int32 → Int32 → St → Option (Int32 × St), f_Showman_holds_6b K0 (zI e) (zI s.length) (zI i) (uA σ 15 f) = (if zI 10010 ≤ zI (xC m) then (if zI (xC m) = zI 10010 then (if zI (s.length : Int) ≤ zI 0 then K0 (zI e) (zI s.length) (zI (i + 1 : Nat)) (uA σ 15 f) else gd (inB (zI (s.length : Int) - 1) 64) (gd (inB (zI (s.length : Int) - 1) 64) (K0 (zI e) (zI s.length) (zI (i + 1 : Nat)) (uA σ 15 (upd f (zI (s.length : Int) - 1).toNatClampNeg (1 - f (zI (s.length : Int) - 1).toNatClampNeg)))))) else (if zI (s.length : Int) ≤ zI 1 then K0 (zI e) (zI s.length) (zI (i + 1 : Nat)) (uA σ 15 f) else gd (inB (zI (s.length : Int) - 2) 64) (gd (inB (zI (s.length : Int) - 1) 64) (bp (f_Showman_join (zI (xC m)) (f (zI (s.length : Int) - 2).toNatClampNeg) (f (zI (s.length : Int) - 1).toNatClampNeg) (uA σ 15 f)) fun r_7 => gd (inB (zI (s.length : Int) - 2) 64) (K0 (zI e) (zI (s.length : Int) + (-1)) (zI (i + 1 : Nat)) (uA σ 15 (upd f (zI (s.length : Int) - 2).toNatClampNeg r_7))))))) else (if zI 64 ≤ zI (s.length : Int) then K0 (zI e) (zI s.length) (zI (i + 1 : Nat)) (uA σ 15 f) else bp (f_Showman_valueOf (zI (xC m)) (uA σ 15 f)) fun r_19 => gd (inB (zI (s.length : Int)) 64) (K0 (zI e) (zI (s.length + 1 : Nat)) (zI (i + 1 : Nat)) (uA σ 15 (upd f (zI (s.length : Int)).toNatClampNeg r_19))))) := by
    intro K0
    unfold f_Showman_holds_6b
    rw [if_neg (by rw [zI_le (by omega) (by omega) (by omega) (by omega)]; omega), e16, if_neg (by rw [zI_le (by omega) (by omega) (by omega) (by omega)]; omega), zI_in (by omega) (by omega) (by omega), gd_t, zI_cl (by omega) (by omega), Int.toNat_natCast, hc', lt_s']
    simp only [lt_q, zS, uA_uA, sA_eq]
    rfl
  show ∃ f', f_Showman_holds_6b (f_Showman_holds_6 q) (zI e) (zI s.length) (zI i) (uA σ 15 f) = _ ∧ _
  rw [head]
  have hlen := okS_len hs
  rcases cT_c ht with ⟨hlt, h⟩ | ⟨rfl, r, rfl, rfl⟩ | ⟨b, c, r, rfl, rfl, hb⟩
  · have hp : (1000 ≤ m ∧ m ≤ 10999) ∨ m = 19 ∨ (7 ≤ m ∧ m ≤ 12) := by
      rcases h with h | h | h
      · exact .inl ⟨h.1, h.2.1⟩
      · exact .inr (.inl h.1)
      · exact .inr (.inr ⟨h.1, h.2.1⟩)
    have hx := xC_push hp
    obtain ⟨v, v1, v2⟩ := x_valueOf (s := s) hf' hp
    rw [v1, if_neg (by rw [zI_le (by omega) (by omega) (by omega) (by omega)]; omega), if_neg (by rw [zI_le (by omega) (by omega) (by omega) (by omega)]; omega), v2, bp_s, zI_in (by omega) (by omega) (by omega), gd_t, zI_cl (by omega) (by omega), Int.toNat_natCast]
    refine ⟨_, rfl, ⟨?_, stkI_c hk (fun i hi => ?_)⟩, ?_⟩
    · rw [upd_e, if_pos rfl]
    · rw [upd_e, if_neg (by omega)]
    · show s.length + 1 ≤ 64
      omega
  · match s, hs, hk with
    | x :: s, hs, hk =>
      have hl2 : (x :: s).length = s.length + 1 := rfl
      have ev : ev1 fa 18 (x :: s) = (1 - x) :: s := rfl
      have ex : xC 18 = 10010 := rfl
      have hl3 : s.length + 1 ≤ 64 := hl
      rw [ev, hl2, ex, zP]
      have g1 : zI 10010 ≤ zI ((10010 : Nat) : Int) := by decide
      have g2 : zI ((10010 : Nat) : Int) = zI 10010 := rfl
      rw [if_pos g1, if_pos g2, if_neg (by rw [zI_le (by omega) (by omega) (by omega) (by omega)]; omega), zI_in (by omega) (by omega) (by omega), gd_t, gd_t, zI_cl (by omega) (by omega), Int.toNat_natCast, hk.1]
      refine ⟨_, rfl, ⟨?_, stkI_c hk.2 (fun i hi => ?_)⟩, hl⟩
      · rw [upd_e, if_pos rfl, zI_lit, zI_sub]
      · rw [upd_e, if_neg (by omega)]
  · have hm : ¬ 1000 ≤ m ∧ ¬ m = 19 ∧ ¬ m = 18 ∧ ¬ (7 ≤ m ∧ m ≤ 12) := by
      rcases hb with h | h | h <;> omega
    have hx := xC_bin (m := m) (by rcases hb with h | h | h <;> omega)
    match s, hs, hk with
    | y :: x :: s, hs, hk =>
      have hl2 : (y :: x :: s).length = s.length + 1 + 1 := rfl
      have ev : ev1 fa m (y :: x :: s) = op m x y :: s := by
        unfold ev1
        rw [if_neg hm.1, if_neg hm.2.1, if_neg hm.2.2.1, if_neg hm.2.2.2]
      have hl3 : s.length + 1 + 1 ≤ 64 := hl
      have hy1 : f (s.length + 1) = zI y := hk.1
      rw [ev, hl2, zP, zP', zP2, if_pos (by rw [zI_le (by omega) (by omega) (by omega) (by omega)]; omega), if_neg (by rw [zI_eq (by omega) (by omega) (by omega) (by omega)]; omega), if_neg (by rw [zI_le (by omega) (by omega) (by omega) (by omega)]; omega), zI_in (a := (s.length : Int)) (by omega) (by omega) (by omega), gd_t, zI_in (by omega) (by omega) (by omega), gd_t, zI_cl (a := (s.length : Int)) (by omega) (by omega), zI_cl (by omega) (by omega), Int.toNat_natCast, Int.toNat_natCast, hk.2.1, hy1, x_join _ hb hs.2.1 hs.1, bp_s, gd_t]
      refine ⟨_, rfl, ⟨?_, stkI_c hk.2.2 (fun i hi => ?_)⟩, ?_⟩
      · rw [upd_e, if_pos rfl]
      · rw [upd_e, if_neg (by omega)]
      · show s.length + 1 ≤ 64
        omega
theorem x_hloop {fa : Nat → Int} {σ : St} {cd : Nat → Nat} {e : Nat} (hf : ∀ i, i < 6 → sA σ 14 i = zI (fa i)) (hfb : ∀ i, i < 6 → -1000000 ≤ fa i ∧ fa i ≤ 1000000) (hc : ∀ i, i < e → sA σ 26 i = zI (xC (cd i))) (he : e ≤ 1600) : ∀ (n i q : Nat) (t : List Bool) (s : List Int) (f : Nat → Int32), i + n = e → n < q → cR cd i n t = some [true] → okS t s → s.length ≤ 64 → stkI f s → ∃ f' v, (v = 0 ∨ v = 1) ∧ evS fa cd i n s = [v] ∧ f_Showman_holds_6 q (zI e) (zI s.length) (zI i) (uA σ 15 f) = some (zI v, uA σ 15 f') := by
  intro n
  induction n with
  | zero =>
    intro i q t s f h1 h2 h3 h4 h5 h6
    obtain ⟨q, rfl⟩ : ∃ r, q = r + 1 := ⟨q - 1, by omega⟩
    have ht : t = [true] := Option.some.inj h3
    subst ht
    match s, h4, h6 with
    | [v], h4, h6 =>
      have hv : v = 0 ∨ v = 1 := h4.1
      refine ⟨f, v, hv, rfl, ?_⟩
      show f_Showman_holds_6b (f_Showman_holds_6 q) (zI e) (zI ((1 : Nat) : Int)) (zI i) (uA σ 15 f) = _
      unfold f_Showman_holds_6b f_Showman_holds_145
      have f0 : sA (uA σ 15 f) 15 0 = zI v := h6.1
      have z0 : (zI ((1 : Nat) : Int) - 1).toNatClampNeg = 0 := rfl
      rw [if_pos (by rw [zI_le (by omega) (by omega) (by omega) (by omega)]; omega), if_neg (by decide), show inB (zI ((1 : Nat) : Int) - 1) 64 = true from rfl, gd_t, z0, f0]
      rcases hv with rfl | rfl
      · rw [if_pos (by decide)]
        rfl
      · rw [if_neg (by decide)]
        rfl
  | succ n ih =>
    intro i q t s f h1 h2 h3 h4 h5 h6
    obtain ⟨q, rfl⟩ : ∃ r, q = r + 1 := ⟨q - 1, by omega⟩
    have h3' : (cT (cd i) t).bind (cR cd (i + 1) n) = some [true] := h3
    cases hct : cT (cd i) t with
    | none =>
      rw [hct] at h3'
      exact absurd h3' (by simp)
    | some t' =>
      rw [hct] at h3'
      obtain ⟨f', g1, g2, g3⟩ := x_hstep (fa := fa) q hf (hc i (by omega)) (show i < e by omega) he hct h4 h5 h6
      rw [g1]
      exact ih (i + 1) q t' _ f' (by omega) (by omega) h3' (ev1_ok hfb hct h4) g3 g2
/-- what rule k says of the facts -/
theorem x_holds {fa : Nat → Int} {σ : St} {d : FD} {k : Nat} (hw : wfD d) (hd : XD d σ) (hf : ∀ i, i < 6 → sA σ 14 i = zI (fa i)) (hfb : ∀ i, i < 6 → -1000000 ≤ fa i ∧ fa i ≤ 1000000) (hk : k < nR d) : ∃ f', (rH d fa k = 0 ∨ rH d fa k = 1) ∧ f_Showman_holds (zI (cF d k)) (zI (cE d k)) σ = some (zI (rH d fa k), uA σ 15 f') := by
  obtain ⟨o1, o2, o3⟩ := hw.2.2.2.2.2.2.1 k hk
  obtain ⟨f', v, hv, ev, e⟩ := x_hloop (cd := cD d) (e := cE d k) hf hfb (fun i hi => hd.2.2.2.2.2.2.1 k i hk hi) o2 (cE d k - cF d k) (cF d k) FU [] [] (sA σ 15) (by omega) (FU_gt (by omega)) o3 trivial (by decide) trivial
  rw [uA_same] at e
  have er : rH d fa k = v := by
    unfold rH
    rw [ev]
    rfl
  rw [er]
  exact ⟨f', hv, e⟩
theorem x_valueOf_2 {m : Nat} {fa : Nat → Int} {σ : St} {s : List Int} (hf : ∀ i, i < 6 → sA σ 18 i = zI (fa i)) (h : (1000 ≤ m ∧ m ≤ 10999) ∨ m = 19 ∨ (7 ≤ m ∧ m ≤ 12)) : ∃ v, ev1 fa m s = v :: s ∧ f_Showman_valueOf_2 (zI (xC m)) σ = some (zI v) := by
  have e00 : (0 : Int32) = zI 0 := rfl
  have e66 : (6 : Int32) = zI 6 := rfl
  have eT : (10000 : Int32) = zI 10000 := rfl
  unfold f_Showman_valueOf_2 ev1
  rcases h with h | h | h
  · have ex : xC m = m - 1000 := if_pos h.1
    rw [if_pos h.1, ex, eT, zI_sub, lt_s', e00, if_neg (by rw [zI_le (by omega) (by omega) (by omega) (by omega)]; omega)]
    refine ⟨_, rfl, ?_⟩
    congr 2
    omega
  · subst h
    rw [if_neg (by omega), if_pos rfl]
    exact ⟨_, rfl, rfl⟩
  · have ex : xC m = 9993 + m := by
      unfold xC
      rw [if_neg (by omega), if_neg (by omega), if_neg (by omega), if_neg (by omega), if_neg (by omega), if_neg (by omega), if_pos (by omega)]
    have ei : ((9993 + m : Nat) : Int) - 10000 = ((m - 7 : Nat) : Int) := by omega
    rw [if_neg (by omega), if_neg (by omega), if_neg (by omega), if_pos h, ex, eT, zI_sub, ei, lt_s', e00, if_pos (by rw [zI_le (by omega) (by omega) (by omega) (by omega)]; omega), e66, if_neg (by rw [zI_le (by omega) (by omega) (by omega) (by omega)]; omega), zI_in (by omega) (by omega) (by omega), gd_t, zI_cl (by omega) (by omega), Int.toNat_natCast, hf (m - 7) (by omega)]
    exact ⟨_, rfl, rfl⟩
theorem x_hstep_2 {m : Nat} {fa : Nat → Int} {σ : St} {s : List Int} {t t' : List Bool} {f : Nat → Int32} {i e : Nat} (q : Nat) (hf : ∀ i, i < 6 → sA σ 18 i = zI (fa i)) (hc : sA σ 26 i = zI (xC m)) (hi : i < e) (he : e ≤ 1600) (ht : cT m t = some t') (hs : okS t s) (hl : s.length ≤ 64) (hk : stkI f s) : ∃ f', f_Showman_holds_2_6 (q + 1) (zI e) (zI s.length) (zI i) (uA σ 19 f) = f_Showman_holds_2_6 q (zI e) (zI (ev1 fa m s).length) (zI (i + 1 : Nat)) (uA σ 19 f') ∧ stkI f' (ev1 fa m s) ∧ (ev1 fa m s).length ≤ 64 := by
  have e10 : (10010 : Int32) = zI 10010 := rfl
  have e64 : (64 : Int32) = zI 64 := rfl
  have e00 : (0 : Int32) = zI 0 := rfl
  have e01 : (1 : Int32) = zI 1 := rfl
  have e16 : (1600 : Int32) = zI 1600 := rfl
  have hc' : sA (uA σ 19 f) 26 i = zI (xC m) := hc
  have hf' : ∀ i, i < 6 → sA (uA σ 19 f) 18 i = zI (fa i) := hf
  have head : ∀ K0 : Int32 → Int32 → Int32 → St → Option (Int32 × St), f_Showman_holds_2_6b K0 (zI e) (zI s.length) (zI i) (uA σ 19 f) = (if zI 10010 ≤ zI (xC m) then (if zI (xC m) = zI 10010 then (if zI (s.length : Int) ≤ zI 0 then K0 (zI e) (zI s.length) (zI (i + 1 : Nat)) (uA σ 19 f) else gd (inB (zI (s.length : Int) - 1) 64) (gd (inB (zI (s.length : Int) - 1) 64) (K0 (zI e) (zI s.length) (zI (i + 1 : Nat)) (uA σ 19 (upd f (zI (s.length : Int) - 1).toNatClampNeg (1 - f (zI (s.length : Int) - 1).toNatClampNeg)))))) else (if zI (s.length : Int) ≤ zI 1 then K0 (zI e) (zI s.length) (zI (i + 1 : Nat)) (uA σ 19 f) else gd (inB (zI (s.length : Int) - 2) 64) (gd (inB (zI (s.length : Int) - 1) 64) (bp (f_Showman_join (zI (xC m)) (f (zI (s.length : Int) - 2).toNatClampNeg) (f (zI (s.length : Int) - 1).toNatClampNeg) (uA σ 19 f)) fun r_7 => gd (inB (zI (s.length : Int) - 2) 64) (K0 (zI e) (zI (s.length : Int) + (-1)) (zI (i + 1 : Nat)) (uA σ 19 (upd f (zI (s.length : Int) - 2).toNatClampNeg r_7))))))) else (if zI 64 ≤ zI (s.length : Int) then K0 (zI e) (zI s.length) (zI (i + 1 : Nat)) (uA σ 19 f) else bp (f_Showman_valueOf_2 (zI (xC m)) (uA σ 19 f)) fun r_19 => gd (inB (zI (s.length : Int)) 64) (K0 (zI e) (zI (s.length + 1 : Nat)) (zI (i + 1 : Nat)) (uA σ 19 (upd f (zI (s.length : Int)).toNatClampNeg r_19))))) := by
    intro K0
    unfold f_Showman_holds_2_6b
    rw [if_neg (by rw [zI_le (by omega) (by omega) (by omega) (by omega)]; omega), e16, if_neg (by rw [zI_le (by omega) (by omega) (by omega) (by omega)]; omega), zI_in (by omega) (by omega) (by omega), gd_t, zI_cl (by omega) (by omega), Int.toNat_natCast, hc', lt_s']
    simp only [lt_q, zS, uA_uA, sA_eq]
    rfl
  show ∃ f', f_Showman_holds_2_6b (f_Showman_holds_2_6 q) (zI e) (zI s.length) (zI i) (uA σ 19 f) = _ ∧ _
  rw [head]
  have hlen := okS_len hs
  rcases cT_c ht with ⟨hlt, h⟩ | ⟨rfl, r, rfl, rfl⟩ | ⟨b, c, r, rfl, rfl, hb⟩
  · have hp : (1000 ≤ m ∧ m ≤ 10999) ∨ m = 19 ∨ (7 ≤ m ∧ m ≤ 12) := by
      rcases h with h | h | h
      · exact .inl ⟨h.1, h.2.1⟩
      · exact .inr (.inl h.1)
      · exact .inr (.inr ⟨h.1, h.2.1⟩)
    have hx := xC_push hp
    obtain ⟨v, v1, v2⟩ := x_valueOf_2 (s := s) hf' hp
    rw [v1, if_neg (by rw [zI_le (by omega) (by omega) (by omega) (by omega)]; omega), if_neg (by rw [zI_le (by omega) (by omega) (by omega) (by omega)]; omega), v2, bp_s, zI_in (by omega) (by omega) (by omega), gd_t, zI_cl (by omega) (by omega), Int.toNat_natCast]
    refine ⟨_, rfl, ⟨?_, stkI_c hk (fun i hi => ?_)⟩, ?_⟩
    · rw [upd_e, if_pos rfl]
    · rw [upd_e, if_neg (by omega)]
    · show s.length + 1 ≤ 64
      omega
  · match s, hs, hk with
    | x :: s, hs, hk =>
      have hl2 : (x :: s).length = s.length + 1 := rfl
      have ev : ev1 fa 18 (x :: s) = (1 - x) :: s := rfl
      have ex : xC 18 = 10010 := rfl
      have hl3 : s.length + 1 ≤ 64 := hl
      rw [ev, hl2, ex, zP]
      have g1 : zI 10010 ≤ zI ((10010 : Nat) : Int) := by decide
      have g2 : zI ((10010 : Nat) : Int) = zI 10010 := rfl
      rw [if_pos g1, if_pos g2, if_neg (by rw [zI_le (by omega) (by omega) (by omega) (by omega)]; omega), zI_in (by omega) (by omega) (by omega), gd_t, gd_t, zI_cl (by omega) (by omega), Int.toNat_natCast, hk.1]
      refine ⟨_, rfl, ⟨?_, stkI_c hk.2 (fun i hi => ?_)⟩, hl⟩
      · rw [upd_e, if_pos rfl, zI_lit, zI_sub]
      · rw [upd_e, if_neg (by omega)]
  · have hm : ¬ 1000 ≤ m ∧ ¬ m = 19 ∧ ¬ m = 18 ∧ ¬ (7 ≤ m ∧ m ≤ 12) := by
      rcases hb with h | h | h <;> omega
    have hx := xC_bin (m := m) (by rcases hb with h | h | h <;> omega)
    match s, hs, hk with
    | y :: x :: s, hs, hk =>
      have hl2 : (y :: x :: s).length = s.length + 1 + 1 := rfl
      have ev : ev1 fa m (y :: x :: s) = op m x y :: s := by
        unfold ev1
        rw [if_neg hm.1, if_neg hm.2.1, if_neg hm.2.2.1, if_neg hm.2.2.2]
      have hl3 : s.length + 1 + 1 ≤ 64 := hl
      have hy1 : f (s.length + 1) = zI y := hk.1
      rw [ev, hl2, zP, zP', zP2, if_pos (by rw [zI_le (by omega) (by omega) (by omega) (by omega)]; omega), if_neg (by rw [zI_eq (by omega) (by omega) (by omega) (by omega)]; omega), if_neg (by rw [zI_le (by omega) (by omega) (by omega) (by omega)]; omega), zI_in (a := (s.length : Int)) (by omega) (by omega) (by omega), gd_t, zI_in (by omega) (by omega) (by omega), gd_t, zI_cl (a := (s.length : Int)) (by omega) (by omega), zI_cl (by omega) (by omega), Int.toNat_natCast, Int.toNat_natCast, hk.2.1, hy1, x_join _ hb hs.2.1 hs.1, bp_s, gd_t]
      refine ⟨_, rfl, ⟨?_, stkI_c hk.2.2 (fun i hi => ?_)⟩, ?_⟩
      · rw [upd_e, if_pos rfl]
      · rw [upd_e, if_neg (by omega)]
      · show s.length + 1 ≤ 64
        omega
theorem x_hloop_2 {fa : Nat → Int} {σ : St} {cd : Nat → Nat} {e : Nat} (hf : ∀ i, i < 6 → sA σ 18 i = zI (fa i)) (hfb : ∀ i, i < 6 → -1000000 ≤ fa i ∧ fa i ≤ 1000000) (hc : ∀ i, i < e → sA σ 26 i = zI (xC (cd i))) (he : e ≤ 1600) : ∀ (n i q : Nat) (t : List Bool) (s : List Int) (f : Nat → Int32), i + n = e → n < q → cR cd i n t = some [true] → okS t s → s.length ≤ 64 → stkI f s → ∃ f' v, (v = 0 ∨ v = 1) ∧ evS fa cd i n s = [v] ∧ f_Showman_holds_2_6 q (zI e) (zI s.length) (zI i) (uA σ 19 f) = some (zI v, uA σ 19 f') := by
  intro n
  induction n with
  | zero =>
    intro i q t s f h1 h2 h3 h4 h5 h6
    obtain ⟨q, rfl⟩ : ∃ r, q = r + 1 := ⟨q - 1, by omega⟩
    have ht : t = [true] := Option.some.inj h3
    subst ht
    match s, h4, h6 with
    | [v], h4, h6 =>
      have hv : v = 0 ∨ v = 1 := h4.1
      refine ⟨f, v, hv, rfl, ?_⟩
      show f_Showman_holds_2_6b (f_Showman_holds_2_6 q) (zI e) (zI ((1 : Nat) : Int)) (zI i) (uA σ 19 f) = _
      unfold f_Showman_holds_2_6b f_Showman_holds_2_145
      have f0 : sA (uA σ 19 f) 19 0 = zI v := h6.1
      have z0 : (zI ((1 : Nat) : Int) - 1).toNatClampNeg = 0 := rfl
      rw [if_pos (by rw [zI_le (by omega) (by omega) (by omega) (by omega)]; omega), if_neg (by decide), show inB (zI ((1 : Nat) : Int) - 1) 64 = true from rfl, gd_t, z0, f0]
      rcases hv with rfl | rfl
      · rw [if_pos (by decide)]
        rfl
      · rw [if_neg (by decide)]
        rfl
  | succ n ih =>
    intro i q t s f h1 h2 h3 h4 h5 h6
    obtain ⟨q, rfl⟩ : ∃ r, q = r + 1 := ⟨q - 1, by omega⟩
    have h3' : (cT (cd i) t).bind (cR cd (i + 1) n) = some [true] := h3
    cases hct : cT (cd i) t with
    | none =>
      rw [hct] at h3'
      exact absurd h3' (by simp)
    | some t' =>
      rw [hct] at h3'
      obtain ⟨f', g1, g2, g3⟩ := x_hstep_2 (fa := fa) q hf (hc i (by omega)) (show i < e by omega) he hct h4 h5 h6
      rw [g1]
      exact ih (i + 1) q t' _ f' (by omega) (by omega) h3' (ev1_ok hfb hct h4) g3 g2
/-- what rule k says of the facts -/
theorem x_holds_2 {fa : Nat → Int} {σ : St} {d : FD} {k : Nat} (hw : wfD d) (hd : XD d σ) (hf : ∀ i, i < 6 → sA σ 18 i = zI (fa i)) (hfb : ∀ i, i < 6 → -1000000 ≤ fa i ∧ fa i ≤ 1000000) (hk : k < nR d) : ∃ f', (rH d fa k = 0 ∨ rH d fa k = 1) ∧ f_Showman_holds_2 (zI (cF d k)) (zI (cE d k)) σ = some (zI (rH d fa k), uA σ 19 f') := by
  obtain ⟨o1, o2, o3⟩ := hw.2.2.2.2.2.2.1 k hk
  obtain ⟨f', v, hv, ev, e⟩ := x_hloop_2 (cd := cD d) (e := cE d k) hf hfb (fun i hi => hd.2.2.2.2.2.2.1 k i hk hi) o2 (cE d k - cF d k) (cF d k) FU [] [] (sA σ 19) (by omega) (FU_gt (by omega)) o3 trivial (by decide) trivial
  rw [uA_same] at e
  have er : rH d fa k = v := by
    unfold rH
    rw [ev]
    rfl
  rw [er]
  exact ⟨f', hv, e⟩
