-- ===== leans =====
theorem uB_uB (σ : St) (k : Nat) (f g : Nat → Int64) : uB (uB σ k f) k g = uB σ k g := by
  unfold uB
  show (σ.1, σ.2.1, σ.2.2.1, va_up (va_up σ.2.2.2 k f) k g) = _
  have : va_up (va_up σ.2.2.2 k f) k g = va_up σ.2.2.2 k g := by
    funext j
    unfold va_up
    split <;> rfl
  rw [this]
theorem sB_eq (σ : St) (k : Nat) (f : Nat → Int64) : sB (uB σ k f) k = f := by
  rw [sB_uB, if_pos rfl]
theorem uB_same (σ : St) (k : Nat) : uB σ k (sB σ k) = σ := by
  unfold uB sB
  obtain ⟨a, b, c, d⟩ := σ
  have : va_up d k (d k) = d := by
    funext j
    unfold va_up
    split <;> rename_i q
    · rw [q]
    · rfl
  exact congrArg (fun z => (a, b, c, z)) this
def mS (σ : St) (f : Nat → Int64) (n : Nat) : St := uI (uB σ 1 f) 14 (zI n)
theorem mS_o {I J A B : List Nat} {σ σ' : St} {f : Nat → Int64} {n : Nat} (h : oS I J A B σ σ') (h1 : 14 ∈ I) (h2 : 1 ∈ B) : oS I J A B σ (mS σ' f n) := oS_uI h1 (oS_uB h2 h)
theorem m_puts {v : Int64} {σ : St} {f : Nat → Int64} {n : Nat} (hn : n < 1700) : f_M_puts v (mS σ f n) = some (mS σ (vp_updL f n v) (n + 1)) := by
  unfold f_M_puts
  have e14 : sI (mS σ f n) 14 = zI n := rfl
  have e1 : sB (mS σ f n) 1 = f := rfl
  have e14' : ∀ g, sI (uB (mS σ f n) 1 g) 14 = zI n := fun g => rfl
  rw [e14, e1, zI_in (by omega) (by omega) (by omega), gd_t, zI_cl (by omega) (by omega), Int.toNat_natCast, lt_s', e14', zS, lt_s']
  unfold mS
  have : ∀ (τ : St) (k : Nat) (v : Int32) (g : Nat → Int64), uB (uI τ k v) 1 g = uI (uB τ 1 g) k v := fun _ _ _ _ => rfl
  rw [this, uI_uI, uB_uB]
theorem m_clip {z : Int} (σ : St) (h1 : -9223372036854775808 ≤ z) (h2 : z < 9223372036854775808) : f_M_clip (zJ z) σ = some (zJ (clp z)) := by
  unfold f_M_clip clp
  have e1 : (1000000 : Int64) = zJ 1000000 := rfl
  have e2 : (-1000000 : Int64) = zJ (-1000000) := rfl
  simp only [lg_cmp_le, lg_cmp_ge]
  rw [e2, e1]
  simp (disch := omega) only [zJ_le]
  by_cases c : z ≤ 1000000
  · rw [if_pos c, if_pos c]
    by_cases c2 : -1000000 ≤ z
    · rw [if_pos c2, if_pos c2]
    · rw [if_neg c2, if_neg c2]
  · rw [if_neg c, if_neg c]
theorem m_floor {x y : Int} (σ : St) (hx : -1000000 ≤ x ∧ x ≤ 1000000) (hy : -1000000 ≤ y ∧ y ≤ 1000000) : f_M_floor (zJ x) (zJ y) σ = some (zJ (fl x y)) := by
  unfold f_M_floor fl
  have e0 : (0 : Int64) = zJ 0 := rfl
  have hb := td_b x y
  have hm : x.tdiv y * y = x - x.tmod y := by
    have := Int.tmod_add_mul_tdiv x y
    have e : x.tdiv y * y = y * x.tdiv y := Int.mul_comm _ _
    omega
  have hmb : (x.tmod y).natAbs ≤ x.natAbs := by
    rw [Int.natAbs_tmod]
    exact Nat.mod_le _ _
  simp only [lg_cmp_eq, lg_cmp_ge]
  rw [e0]
  by_cases c0 : y = 0
  · rw [c0, if_pos rfl, if_pos rfl]
  · rw [if_neg (by rw [zJ_eq (by omega) (by omega) (by omega) (by omega)]; exact c0), if_neg c0, nzJ_z (by omega) (by omega) c0, gd_t, lt_s', gd_t]
    unfold lR f_M_floor_32 f_M_floor_43
    rw [zJ_d (by omega) (by omega) (by omega) (by omega), zJ_mul, hm, zJ_sub]
    have er : x - (x - x.tmod y) = x.tmod y := by omega
    rw [er]
    by_cases c1 : x.tmod y = 0
    · rw [c1, if_pos rfl, if_pos (.inl rfl)]
    · rw [if_neg (by rw [zJ_eq (by omega) (by omega) (by omega) (by omega)]; exact c1)]
      simp only [lg_cmp_ge]
      have e01 : ¬ ((0 : Int32) = 1) := by decide
      have e10 : ¬ ((1 : Int32) = 0) := by decide
      have k0 : (zJ 0 ≤ zJ x) ↔ 0 ≤ x := by rw [zJ_le (by omega) (by omega) (by omega) (by omega)]
      have k1 : ((0 : Int64) ≤ zJ y) ↔ 0 ≤ y := by rw [e0, zJ_le (by omega) (by omega) (by omega) (by omega)]
      by_cases c2 : 0 ≤ x
      · rw [if_pos (k0.mpr c2)]
        by_cases c3 : 0 ≤ y
        · rw [if_pos (k1.mpr c3), if_pos trivial, if_pos (.inr ⟨fun _ => c3, fun _ => c2⟩)]
        · rw [if_neg (fun e => c3 (k1.mp e)), if_neg e01, if_neg (by intro h; rcases h with h | h; exact c1 h; exact c3 (h.mp c2)), zJ_lit, zJ_sub]
      · rw [if_neg (fun e => c2 (k0.mp e))]
        by_cases c3 : 0 ≤ y
        · rw [if_pos (k1.mpr c3), if_neg e10, if_neg (by intro h; rcases h with h | h; exact c1 h; exact c2 (h.mpr c3)), zJ_lit, zJ_sub]
        · rw [if_neg (fun e => c3 (k1.mp e)), if_pos trivial, if_pos (.inr ⟨fun h => absurd h c2, fun h => absurd h c3⟩)]
theorem m_joins {m : Nat} {x y : Int} {b c : Bool} {σ : St} {f : Nat → Int64} {n : Nat} (hn : n ≤ 64) (hx1 : f n = zJ x) (hy1 : f (n + 1) = zJ y) (h : (b = true ∧ c = true ∧ (m = 16 ∨ m = 17)) ∨ (b = false ∧ c = true ∧ 13 ≤ m ∧ m ≤ 15) ∨ (b = false ∧ c = false ∧ 1 ≤ m ∧ m ≤ 6)) (hx : ok1 b x) (hy : ok1 b y) : f_M_joins (zI m) (mS σ f (n + 1 + 1)) = some (mS σ (vp_updL f n (zJ (op m x y))) (n + 1)) := by
  have bx := ok1_b hx
  have by' := ok1_b hy
  have hmul := mul_b bx by'
  have e14 : sI (mS σ f (n + 1 + 1)) 14 = zI (n + 1 + 1 : Nat) := rfl
  have e1 : sB (mS σ f (n + 1 + 1)) 1 = f := rfl
  have em : ∀ v, uI (mS σ f (n + 1 + 1)) 14 v = uI (uB σ 1 f) 14 v := fun v => uI_uI _ _ _ _
  have P : ∀ v, f_M_puts v (uI (uB σ 1 f) 14 (zI n)) = some (mS σ (vp_updL f n v) (n + 1)) := fun v => m_puts (by omega)
  unfold f_M_joins
  rw [e14, e1, zP, zP2, zI_in (by omega) (by omega) (by omega), gd_t, lt_s', zI_in (by omega) (by omega) (by omega), gd_t, lt_s', zI_cl (by omega) (by omega), zI_cl (by omega) (by omega), Int.toNat_natCast, Int.toNat_natCast, hx1, hy1, em, lt_s']
  unfold f_M_joins_185 f_M_joins_205 f_M_joins_224 f_M_joins_243 f_M_joins_262 f_M_joins_294
  simp only [P, bp_q]
  have e0 : (0 : Int64) = zJ 0 := rfl
  rcases h with ⟨rfl, rfl, h⟩ | ⟨rfl, rfl, h⟩ | ⟨rfl, rfl, h⟩
  · rcases h with rfl | rfl
    · show some (mS σ (vp_updL f n (zJ x * zJ y)) (n + 1)) = some (mS σ (vp_updL f n (zJ (x * y))) (n + 1))
      rw [zJ_mul]
    · show (if lg_cmp (zJ x + zJ y) 0 ≤ 0 then some (mS σ (vp_updL f n 0) (n + 1)) else some (mS σ (vp_updL f n 1) (n + 1))) = some (mS σ (vp_updL f n (zJ (if 0 < x + y then 1 else 0))) (n + 1))
      simp only [lg_cmp_le]
      rw [zJ_add, e0]
      by_cases q : 0 < x + y
      · rw [if_neg (by rw [zJ_le (by omega) (by omega) (by omega) (by omega)]; omega), if_pos q]
        rfl
      · rw [if_pos (by rw [zJ_le (by omega) (by omega) (by omega) (by omega)]; omega), if_neg q]
  · rcases (show m = 13 ∨ m = 14 ∨ m = 15 by omega) with rfl | rfl | rfl
    · show (if 0 ≤ lg_cmp (zJ x) (zJ y) then some (mS σ (vp_updL f n 0) (n + 1)) else some (mS σ (vp_updL f n 1) (n + 1))) = some (mS σ (vp_updL f n (zJ (if x < y then 1 else 0))) (n + 1))
      simp only [lg_cmp_ge]
      by_cases q : x < y
      · rw [if_neg (by rw [zJ_le (by omega) (by omega) (by omega) (by omega)]; omega), if_pos q]
        rfl
      · rw [if_pos (by rw [zJ_le (by omega) (by omega) (by omega) (by omega)]; omega), if_neg q]
        rfl
    · show (if lg_cmp (zJ x) (zJ y) ≤ 0 then some (mS σ (vp_updL f n 0) (n + 1)) else some (mS σ (vp_updL f n 1) (n + 1))) = some (mS σ (vp_updL f n (zJ (if y < x then 1 else 0))) (n + 1))
      simp only [lg_cmp_le]
      by_cases q : y < x
      · rw [if_neg (by rw [zJ_le (by omega) (by omega) (by omega) (by omega)]; omega), if_pos q]
        rfl
      · rw [if_pos (by rw [zJ_le (by omega) (by omega) (by omega) (by omega)]; omega), if_neg q]
        rfl
    · show (if lg_cmp (zJ x) (zJ y) = 0 then some (mS σ (vp_updL f n 1) (n + 1)) else some (mS σ (vp_updL f n 0) (n + 1))) = some (mS σ (vp_updL f n (zJ (if x = y then 1 else 0))) (n + 1))
      simp only [lg_cmp_eq]
      by_cases q : x = y
      · rw [if_pos (by rw [q]), if_pos q]
        rfl
      · rw [if_neg (by rw [zJ_eq (by omega) (by omega) (by omega) (by omega)]; omega), if_neg q]
        rfl
  · rcases (show m = 1 ∨ m = 2 ∨ m = 3 ∨ m = 4 ∨ m = 5 ∨ m = 6 by omega) with rfl | rfl | rfl | rfl | rfl | rfl
    · show (bp (f_M_clip (zJ x + zJ y) _) fun r_7 => some (mS σ (vp_updL f n r_7) (n + 1))) = some (mS σ (vp_updL f n (zJ (clp (x + y)))) (n + 1))
      rw [zJ_add, m_clip _ (by omega) (by omega), bp_s]
    · show (bp (f_M_clip (zJ x - zJ y) _) fun r_7 => some (mS σ (vp_updL f n r_7) (n + 1))) = some (mS σ (vp_updL f n (zJ (clp (x - y)))) (n + 1))
      rw [zJ_sub, m_clip _ (by omega) (by omega), bp_s]
    · show (bp (f_M_clip (zJ x * zJ y) _) fun r_7 => some (mS σ (vp_updL f n r_7) (n + 1))) = some (mS σ (vp_updL f n (zJ (clp (x * y)))) (n + 1))
      rw [zJ_mul, m_clip _ (by omega) (by omega), bp_s]
    · show (bp (f_M_floor (zJ x) (zJ y) _) fun r_7 => some (mS σ (vp_updL f n r_7) (n + 1))) = some (mS σ (vp_updL f n (zJ (fl x y))) (n + 1))
      rw [m_floor _ bx by', bp_s]
    · show (if 0 ≤ lg_cmp (zJ x) (zJ y) then some (mS σ (vp_updL f n (zJ y)) (n + 1)) else some (mS σ (vp_updL f n (zJ x)) (n + 1))) = some (mS σ (vp_updL f n (zJ (min x y))) (n + 1))
      simp only [lg_cmp_ge]
      by_cases q : y ≤ x
      · rw [if_pos (by rw [zJ_le (by omega) (by omega) (by omega) (by omega)]; omega), Int.min_eq_right q]
      · rw [if_neg (by rw [zJ_le (by omega) (by omega) (by omega) (by omega)]; omega), Int.min_eq_left (by omega)]
    · show (if lg_cmp (zJ x) (zJ y) ≤ 0 then some (mS σ (vp_updL f n (zJ y)) (n + 1)) else some (mS σ (vp_updL f n (zJ x)) (n + 1))) = some (mS σ (vp_updL f n (zJ (max x y))) (n + 1))
      simp only [lg_cmp_le]
      by_cases q : x ≤ y
      · rw [if_pos (by rw [zJ_le (by omega) (by omega) (by omega) (by omega)]; omega), Int.max_eq_right q]
      · rw [if_neg (by rw [zJ_le (by omega) (by omega) (by omega) (by omega)]; omega), Int.max_eq_left (by omega)]
theorem m_hstep {m : Nat} {fa : Nat → Int} {σ : St} {s : List Int} {t t' : List Bool} {f : Nat → Int64} {i e k : Nat} (q : Nat) (hk6 : k < 6) (h9 : sA σ 9 (6 + k) = zI e) (hf : ∀ i, i < 6 → sA σ 10 i = zI (fa i)) (hfb : ∀ i, i < 6 → -1000000 ≤ fa i ∧ fa i ≤ 1000000) (hc : sA σ 6 (1600 + i) = zI m) (hi : i < e) (he : e ≤ 1600) (ht : cT m t = some t') (hs : okS t s) (hl : s.length ≤ 64) (hk : stkJ f s) : ∃ f', f_M_holds_15 (q + 1) (zI k) (zI i) (mS σ f s.length) = f_M_holds_15 q (zI k) (zI (i + 1 : Nat)) (mS σ f' (ev1 fa m s).length) ∧ stkJ f' (ev1 fa m s) ∧ (ev1 fa m s).length ≤ 64 := by
  show ∃ f', f_M_holds_15b (f_M_holds_15 q) (zI k) (zI i) (mS σ f s.length) = _ ∧ _
  unfold f_M_holds_15b
  have a9 : sA (mS σ f s.length) 9 = sA σ 9 := rfl
  have a6 : sA (mS σ f s.length) 6 = sA σ 6 := rfl
  have a10 : sA (mS σ f s.length) 10 = sA σ 10 := rfl
  have e6 : (6 + zI (k : Int) : Int32) = zI ((6 + k : Nat) : Int) := by simp only [zI_lit, zI_add]; rfl
  have e16 : (1600 + zI (i : Int) : Int32) = zI ((1600 + i : Nat) : Int) := by simp only [zI_lit, zI_add]; rfl
  rw [e6, zI_in (by omega) (by omega) (by omega), gd_t, zI_cl (by omega) (by omega), Int.toNat_natCast, a9, h9, if_neg (by rw [zI_le (by omega) (by omega) (by omega) (by omega)]; omega), e16, zI_in (by omega) (by omega) (by omega), gd_t, zI_cl (by omega) (by omega), Int.toNat_natCast, a6, hc, lt_s', a10]
  simp only [zS, lt_q]
  have e1000 : (1000 : Int32) = zI 1000 := rfl
  have e19 : (19 : Int32) = zI 19 := rfl
  have e18 : (18 : Int32) = zI 18 := rfl
  have e7 : (7 : Int32) = zI 7 := rfl
  have hlen := okS_len hs
  have hm0 : m < 20000 := by
    rcases cT_c ht with ⟨_, h⟩ | ⟨h, _⟩ | ⟨_, _, _, _, _, h⟩
    · rcases h with h | h | h <;> omega
    · omega
    · rcases h with h | h | h <;> omega
  have i7 : f_M_isIn (zI (m : Int)).toInt64 7 12 (mS σ f s.length) = some (if 7 ≤ (m : Int) ∧ (m : Int) ≤ 12 then zI 1 else zI 0) := by
    simp (disch := omega) only [zI_lit, zJ_lit, zI_neg, zJ_neg, zI_add, zI_sub, zI_mul, zJ_add, zJ_sub, zJ_mul, zI_lt, zI_le, zI_eq, zJ_lt, zJ_le, zJ_eq, zJ_w, zJ_n, in_z, zI_cl, zI_in, nz_z, nzJ_z, iMin_z, iMax_z, lg_cmp_lt, lg_cmp_le, lg_cmp_gt, lg_cmp_ge, lg_cmp_eq, lt_q, gd_q, bp_q, bd_q, Int.toNat_natCast, Int.toNat_zero, Int.toNat_one, Int.reduceToNat, ite_true, ite_false, bz, isB_i, isB0, isB1]
  have put : ∀ v : Int, s.length < 64 → ∃ f', (bp (f_M_puts (zJ v) (mS σ f s.length)) fun σ_21 => f_M_holds_15 q (zI k) (zI (i + 1 : Nat)) σ_21) = f_M_holds_15 q (zI k) (zI (i + 1 : Nat)) (mS σ f' (v :: s).length) ∧ stkJ f' (v :: s) ∧ (v :: s).length ≤ 64 := by
    intro v hl2
    rw [m_puts (by omega), bp_s]
    refine ⟨_, rfl, ⟨?_, stkJ_c hk (fun i hi => ?_)⟩, ?_⟩
    · rw [updL_e, if_pos rfl]
    · rw [updL_e, if_neg (by omega)]
    · show s.length + 1 ≤ 64
      omega
  rcases cT_c ht with ⟨hlt, h⟩ | ⟨rfl, r, rfl, rfl⟩ | ⟨b, c, r, rfl, rfl, hb⟩
  · rcases h with ⟨h1, h2, rfl⟩ | ⟨rfl, rfl⟩ | ⟨h1, h2, rfl⟩
    · have ev : ev1 fa m s = ((m : Int) - 1000) :: s := if_pos h1
      rw [ev, e1000, if_neg (by rw [zI_lt (by omega) (by omega) (by omega) (by omega)]; omega), zI_sub, zJ_w (by omega) (by omega)]
      exact put _ (by omega)
    · have ev : ev1 fa 19 s = 1 :: s := rfl
      rw [ev, if_pos (by decide), if_pos (by decide)]
      exact put 1 (by omega)
    · have ev : ev1 fa m s = fa (m - 7) :: s := by
        unfold ev1
        rw [if_neg (by omega), if_neg (by omega), if_neg (by omega), if_pos ⟨h1, h2⟩]
      have hfm := hfb (m - 7) (by omega)
      have ei : zI (m : Int) - zI 7 = zI ((m - 7 : Nat) : Int) := by
        rw [zI_sub]
        congr 1
        omega
      rw [ev, e1000, if_pos (by rw [zI_lt (by omega) (by omega) (by omega) (by omega)]; omega), e19, if_neg (by rw [zI_eq (by omega) (by omega) (by omega) (by omega)]; omega), e18, if_neg (by rw [zI_eq (by omega) (by omega) (by omega) (by omega)]; omega), i7, bp_s, if_neg (fun e => bz0.mp e (by omega)), e7, ei, zI_in (by omega) (by omega) (by omega), gd_t, zI_cl (by omega) (by omega), Int.toNat_natCast, hf (m - 7) (by omega), zJ_w (by omega) (by omega)]
      exact put _ (by omega)
  · match s, hs, hk, hl with
    | x :: s, hs, hk, hl =>
      have hl2 : (x :: s).length = s.length + 1 := rfl
      have ev : ev1 fa 18 (x :: s) = (1 - x) :: s := rfl
      have hl3 : s.length + 1 ≤ 64 := hl
      have s14 : sI (mS σ f (x :: s).length) 14 = zI ((s.length + 1 : Nat) : Int) := rfl
      have s1 : sB (mS σ f (x :: s).length) 1 = f := rfl
      have eB : ∀ g, uB (mS σ f (x :: s).length) 1 g = mS σ g (s.length + 1) := by
        intro g
        show uI (uB (uB σ 1 f) 1 g) 14 _ = _
        rw [uB_uB]
        rfl
      rw [ev, if_pos (by decide), if_neg (by decide), if_pos (by decide), s14, zP, zI_in (by omega) (by omega) (by omega), gd_t, gd_t, zI_cl (by omega) (by omega), Int.toNat_natCast, s1, hk.1, eB]
      refine ⟨_, rfl, ⟨?_, stkJ_c hk.2 (fun i hi => ?_)⟩, hl⟩
      · rw [updL_e, if_pos rfl, zJ_lit, zJ_sub]
      · rw [updL_e, if_neg (by omega)]
  · have hm : ¬ 1000 ≤ m ∧ ¬ m = 19 ∧ ¬ m = 18 ∧ ¬ (7 ≤ m ∧ m ≤ 12) := by
      rcases hb with h | h | h <;> omega
    match s, hs, hk, hl, i7 with
    | y :: x :: s, hs, hk, hl, i7 =>
      have ev : ev1 fa m (y :: x :: s) = op m x y :: s := by
        unfold ev1
        rw [if_neg hm.1, if_neg hm.2.1, if_neg hm.2.2.1, if_neg hm.2.2.2]
      have hl3 : s.length + 1 + 1 ≤ 64 := hl
      have J := m_joins (m := m) (σ := σ) (f := f) (n := s.length) (by omega) hk.2.1 hk.1 hb hs.2.1 hs.1
      have J' : f_M_joins (zI m) (mS σ f (y :: x :: s).length) = _ := J
      rw [ev, e1000, if_pos (by rw [zI_lt (by omega) (by omega) (by omega) (by omega)]; omega), e19, if_neg (by rw [zI_eq (by omega) (by omega) (by omega) (by omega)]; omega), e18, if_neg (by rw [zI_eq (by omega) (by omega) (by omega) (by omega)]; omega), i7, bp_s, if_pos (bz0.mpr (by omega)), J', bp_s]
      refine ⟨_, rfl, ⟨?_, stkJ_c hk.2.2 (fun i hi => ?_)⟩, ?_⟩
      · rw [updL_e, if_pos rfl]
      · rw [updL_e, if_neg (by omega)]
      · show s.length + 1 ≤ 64
        omega
theorem m_hloop {fa : Nat → Int} {σ : St} {cd : Nat → Nat} {e k : Nat} (hk6 : k < 6) (h9 : sA σ 9 (6 + k) = zI e) (hf : ∀ i, i < 6 → sA σ 10 i = zI (fa i)) (hfb : ∀ i, i < 6 → -1000000 ≤ fa i ∧ fa i ≤ 1000000) (hc : ∀ i, i < e → sA σ 6 (1600 + i) = zI (cd i)) (he : e ≤ 1600) : ∀ (n i q : Nat) (t : List Bool) (s : List Int) (f : Nat → Int64), i + n = e → n < q → cR cd i n t = some [true] → okS t s → s.length ≤ 64 → stkJ f s → ∃ f' v, (v = 0 ∨ v = 1) ∧ evS fa cd i n s = [v] ∧ f_M_holds_15 q (zI k) (zI i) (mS σ f s.length) = some (zI v, mS σ f' 1) := by
  intro n
  induction n with
  | zero =>
    intro i q t s f h1 h2 h3 h4 h5 h6
    obtain ⟨q, rfl⟩ : ∃ r, q = r + 1 := ⟨q - 1, by omega⟩
    have ht : t = [true] := Option.some.inj h3
    subst ht
    match s, h4, h6 with
    | [v], h4, h6 =>
      have hv : v = 0 ∨ v = 1 := h4.1
      refine ⟨f, v, hv, rfl, ?_⟩
      show f_M_holds_15b (f_M_holds_15 q) (zI k) (zI i) (mS σ f 1) = _
      unfold f_M_holds_15b
      have e6 : (6 + zI (k : Int) : Int32) = zI ((6 + k : Nat) : Int) := by simp only [zI_lit, zI_add]; rfl
      have a9 : sA (mS σ f 1) 9 = sA σ 9 := rfl
      have f0 : sB (mS σ f 1) 1 0 = zJ v := h6.1
      rw [e6, zI_in (by omega) (by omega) (by omega), gd_t, zI_cl (by omega) (by omega), Int.toNat_natCast, a9, h9, if_pos (by rw [zI_le (by omega) (by omega) (by omega) (by omega)]; omega), cl0, f0]
      rcases hv with rfl | rfl
      · rw [if_neg (by decide)]
        rfl
      · rw [if_pos (by decide)]
        rfl
  | succ n ih =>
    intro i q t s f h1 h2 h3 h4 h5 h6
    obtain ⟨q, rfl⟩ : ∃ r, q = r + 1 := ⟨q - 1, by omega⟩
    have h3' : (cT (cd i) t).bind (cR cd (i + 1) n) = some [true] := h3
    cases hct : cT (cd i) t with
    | none =>
      rw [hct] at h3'
      exact absurd h3' (by simp)
    | some t' =>
      rw [hct] at h3'
      obtain ⟨f', g1, g2, g3⟩ := m_hstep (fa := fa) q hk6 h9 hf hfb (hc i (by omega)) (show i < e by omega) he hct h4 h5 h6
      rw [g1]
      exact ih (i + 1) q t' _ f' (by omega) (by omega) h3' (ev1_ok hfb hct h4) g3 g2
theorem m_holds {fa : Nat → Int} {σ : St} {d : FD} {k : Nat} (hw : wfD d) (hd : MD d σ) (hf : ∀ i, i < 6 → sA σ 10 i = zI (fa i)) (hfb : ∀ i, i < 6 → -1000000 ≤ fa i ∧ fa i ≤ 1000000) (hk : k < nR d) : ∃ f', (rH d fa k = 0 ∨ rH d fa k = 1) ∧ f_M_holds (zI k) σ = some (zI (rH d fa k), mS σ f' 1) := by
  obtain ⟨o1, o2, o3⟩ := hw.2.2.2.2.2.2.1 k hk
  have hr := hw.2.2.1
  obtain ⟨h8, h9⟩ := hd.2.2.2.2.2.2.2.1 k hk
  obtain ⟨f', v, hv, ev, e⟩ := m_hloop (cd := cD d) (e := cE d k) (k := k) (by omega) h9 hf hfb (fun i hi => hd.2.2.2.2.2.2.1 k i hk hi) o2 (cE d k - cF d k) (cF d k) FU [] [] (sB σ 1) (by omega) (FU_gt (by omega)) o3 trivial (by decide) trivial
  have er : rH d fa k = v := by
    unfold rH
    rw [ev]
    rfl
  rw [er]
  refine ⟨f', hv, ?_⟩
  unfold f_M_holds
  have e6 : (6 + zI (k : Int) : Int32) = zI ((6 + k : Nat) : Int) := by simp only [zI_lit, zI_add]; rfl
  have a8 : sA (uI σ 14 0) 8 (6 + k) = zI (cF d k) := h8
  rw [lt_s', e6, zI_in (by omega) (by omega) (by omega), gd_t, zI_cl (by omega) (by omega), Int.toNat_natCast, a8, lt_s']
  have em : mS σ (sB σ 1) ([] : List Int).length = uI σ 14 0 := by
    unfold mS
    rw [uB_same]
    rfl
  rw [em] at e
  exact e
