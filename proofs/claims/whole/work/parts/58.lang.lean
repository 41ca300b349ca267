-- ===== the small language =====
def clp (z : Int) : Int := if z ≤ 1000000 then (if -1000000 ≤ z then z else -1000000) else 1000000
def fl (x y : Int) : Int := if y = 0 then 0 else if x.tmod y = 0 ∨ (0 ≤ x ↔ 0 ≤ y) then x.tdiv y else x.tdiv y - 1
def op (m : Nat) (x y : Int) : Int := if m = 1 then clp (x + y) else if m = 2 then clp (x - y) else if m = 3 then clp (x * y) else if m = 4 then fl x y else if m = 5 then min x y else if m = 6 then max x y else if m = 13 then (if x < y then 1 else 0) else if m = 14 then (if y < x then 1 else 0) else if m = 15 then (if x = y then 1 else 0) else if m = 16 then x * y else (if 0 < x + y then 1 else 0)
def ok1 (b : Bool) (v : Int) : Prop := if b then (v = 0 ∨ v = 1) else (-1000000 ≤ v ∧ v ≤ 1000000)
def okS : List Bool → List Int → Prop
  | [], [] => True
  | b :: bs, v :: vs => ok1 b v ∧ okS bs vs
  | _, _ => False
def ev1 (fa : Nat → Int) (m : Nat) (s : List Int) : List Int := if 1000 ≤ m then ((m : Int) - 1000) :: s else if m = 19 then 1 :: s else if m = 18 then (match s with | x :: r => (1 - x) :: r | _ => s) else if 7 ≤ m ∧ m ≤ 12 then fa (m - 7) :: s else (match s with | y :: x :: r => op m x y :: r | _ => s)
def evS (fa : Nat → Int) (cd : Nat → Nat) : Nat → Nat → List Int → List Int
  | _, 0, s => s
  | i, n + 1, s => evS fa cd (i + 1) n (ev1 fa (cd i) s)
/-- what a code asks of the pile -/
theorem cT_c {m : Nat} {t t' : List Bool} (h : cT m t = some t') : (t.length < 64 ∧ ((1000 ≤ m ∧ m ≤ 10999 ∧ t' = false :: t) ∨ (m = 19 ∧ t' = true :: t) ∨ (7 ≤ m ∧ m ≤ 12 ∧ t' = false :: t))) ∨ (m = 18 ∧ ∃ r, t = true :: r ∧ t' = true :: r) ∨ (∃ b c r, t = b :: b :: r ∧ t' = c :: r ∧ ((b = true ∧ c = true ∧ (m = 16 ∨ m = 17)) ∨ (b = false ∧ c = true ∧ 13 ≤ m ∧ m ≤ 15) ∨ (b = false ∧ c = false ∧ 1 ≤ m ∧ m ≤ 6))) := by
  unfold cT at h
  by_cases c1 : 1000 ≤ m
  · rw [if_pos c1] at h
    by_cases c2 : m ≤ 10999 ∧ t.length < 64
    · rw [if_pos c2] at h
      exact .inl ⟨c2.2, .inl ⟨c1, c2.1, (Option.some.inj h).symm⟩⟩
    · rw [if_neg c2] at h
      exact absurd h (by simp)
  · rw [if_neg c1] at h
    by_cases c2 : m = 19
    · rw [if_pos c2] at h
      by_cases c3 : t.length < 64
      · rw [if_pos c3] at h
        exact .inl ⟨c3, .inr (.inl ⟨c2, (Option.some.inj h).symm⟩)⟩
      · rw [if_neg c3] at h
        exact absurd h (by simp)
    · rw [if_neg c2] at h
      by_cases c3 : m = 18
      · rw [if_pos c3] at h
        match t, h with
        | true :: r, h => exact .inr (.inl ⟨c3, r, rfl, (Option.some.inj h).symm⟩)
      · rw [if_neg c3] at h
        by_cases c4 : m = 16 ∨ m = 17
        · rw [if_pos c4] at h
          match t, h with
          | true :: true :: r, h => exact .inr (.inr ⟨true, true, r, rfl, (Option.some.inj h).symm, .inl ⟨rfl, rfl, c4⟩⟩)
        · rw [if_neg c4] at h
          by_cases c5 : 13 ≤ m ∧ m ≤ 15
          · rw [if_pos c5] at h
            match t, h with
            | false :: false :: r, h => exact .inr (.inr ⟨false, true, r, rfl, (Option.some.inj h).symm, .inr (.inl ⟨rfl, rfl, c5⟩)⟩)
          · rw [if_neg c5] at h
            by_cases c6 : 7 ≤ m ∧ m ≤ 12
            · rw [if_pos c6] at h
              by_cases c7 : t.length < 64
              · rw [if_pos c7] at h
                exact .inl ⟨c7, .inr (.inr ⟨c6.1, c6.2, (Option.some.inj h).symm⟩)⟩
              · rw [if_neg c7] at h
                exact absurd h (by simp)
            · rw [if_neg c6] at h
              by_cases c7 : 1 ≤ m ∧ m ≤ 6
              · rw [if_pos c7] at h
                match t, h with
                | false :: false :: r, h => exact .inr (.inr ⟨false, false, r, rfl, (Option.some.inj h).symm, .inr (.inr ⟨rfl, rfl, c7⟩)⟩)
              · rw [if_neg c7] at h
                exact absurd h (by simp)
theorem clp_b (z : Int) : -1000000 ≤ clp z ∧ clp z ≤ 1000000 := by
  unfold clp
  split
  · split <;> omega
  · omega
theorem fl_b {x y : Int} (hx : -1000000 ≤ x ∧ x ≤ 1000000) : -1000000 ≤ fl x y ∧ fl x y ≤ 1000000 := by
  unfold fl
  have hb := td_b x y
  by_cases c0 : y = 0
  · rw [if_pos c0]
    omega
  · rw [if_neg c0]
    by_cases c : x.tmod y = 0 ∨ (0 ≤ x ↔ 0 ≤ y)
    · rw [if_pos c]
      omega
    · rw [if_neg c]
      have h2 : 2 ≤ y.natAbs := by
        by_cases q : y = 1
        · exact absurd (.inl (by rw [q]; exact Int.tmod_one x)) c
        · by_cases q2 : y = -1
          · exact absurd (.inl (by rw [q2, Int.tmod_neg]; exact Int.tmod_one x)) c
          · omega
      have h3 : (x.tdiv y).natAbs ≤ x.natAbs / 2 := by
        rw [Int.natAbs_tdiv]
        exact Nat.div_le_div_left h2 (by omega)
      omega
theorem op_ok {m : Nat} {x y : Int} {b c : Bool} (h : (b = true ∧ c = true ∧ (m = 16 ∨ m = 17)) ∨ (b = false ∧ c = true ∧ 13 ≤ m ∧ m ≤ 15) ∨ (b = false ∧ c = false ∧ 1 ≤ m ∧ m ≤ 6)) (hx : ok1 b x) (hy : ok1 b y) : ok1 c (op m x y) := by
  rcases h with ⟨rfl, rfl, h⟩ | ⟨rfl, rfl, h⟩ | ⟨rfl, rfl, h⟩
  · have hx : x = 0 ∨ x = 1 := hx
    have hy : y = 0 ∨ y = 1 := hy
    show op m x y = 0 ∨ op m x y = 1
    rcases h with rfl | rfl
    · show x * y = 0 ∨ x * y = 1
      rcases hx with rfl | rfl <;> rcases hy with rfl | rfl <;> omega
    · show (if 0 < x + y then (1 : Int) else 0) = 0 ∨ (if 0 < x + y then (1 : Int) else 0) = 1
      split <;> omega
  · show op m x y = 0 ∨ op m x y = 1
    rcases (show m = 13 ∨ m = 14 ∨ m = 15 by omega) with rfl | rfl | rfl
    · show (if x < y then (1 : Int) else 0) = 0 ∨ (if x < y then (1 : Int) else 0) = 1
      split <;> omega
    · show (if y < x then (1 : Int) else 0) = 0 ∨ (if y < x then (1 : Int) else 0) = 1
      split <;> omega
    · show (if x = y then (1 : Int) else 0) = 0 ∨ (if x = y then (1 : Int) else 0) = 1
      split <;> omega
  · have hx : -1000000 ≤ x ∧ x ≤ 1000000 := hx
    have hy : -1000000 ≤ y ∧ y ≤ 1000000 := hy
    show -1000000 ≤ op m x y ∧ op m x y ≤ 1000000
    rcases (show m = 1 ∨ m = 2 ∨ m = 3 ∨ m = 4 ∨ m = 5 ∨ m = 6 by omega) with rfl | rfl | rfl | rfl | rfl | rfl
    · exact clp_b _
    · exact clp_b _
    · exact clp_b _
    · exact fl_b hx
    · show -1000000 ≤ min x y ∧ min x y ≤ 1000000
      omega
    · show -1000000 ≤ max x y ∧ max x y ≤ 1000000
      omega
theorem ok1_b {b : Bool} {v : Int} (h : ok1 b v) : -1000000 ≤ v ∧ v ≤ 1000000 := by
  cases b with
  | true =>
    have h : v = 0 ∨ v = 1 := h
    omega
  | false => exact h
theorem okS_len : ∀ {t : List Bool} {s : List Int}, okS t s → t.length = s.length
  | [], [], _ => rfl
  | _ :: _, _ :: _, h => by
    show _ + 1 = _ + 1
    rw [okS_len h.2]
/-- what a code puts, by kinds -/
theorem ev1_ok {fa : Nat → Int} {m : Nat} {t t' : List Bool} {s : List Int} (hf : ∀ i, i < 6 → -1000000 ≤ fa i ∧ fa i ≤ 1000000) (h : cT m t = some t') (hs : okS t s) : okS t' (ev1 fa m s) := by
  unfold ev1
  rcases cT_c h with ⟨hl, h⟩ | ⟨rfl, r, rfl, rfl⟩ | ⟨b, c, r, rfl, rfl, hb⟩
  · rcases h with ⟨h1, h2, rfl⟩ | ⟨rfl, rfl⟩ | ⟨h1, h2, rfl⟩
    · rw [if_pos h1]
      exact ⟨show -1000000 ≤ _ ∧ _ from ⟨by omega, by omega⟩, hs⟩
    · rw [if_neg (by omega), if_pos rfl]
      exact ⟨.inr rfl, hs⟩
    · rw [if_neg (by omega), if_neg (by omega), if_neg (by omega), if_pos ⟨h1, h2⟩]
      exact ⟨hf (m - 7) (by omega), hs⟩
  · rw [if_neg (by omega), if_neg (by omega), if_pos rfl]
    match s, hs with
    | x :: s, hs =>
      have hx : x = 0 ∨ x = 1 := hs.1
      exact ⟨show 1 - x = 0 ∨ 1 - x = 1 by omega, hs.2⟩
  · have hm : ¬ 1000 ≤ m ∧ ¬ m = 19 ∧ ¬ m = 18 ∧ ¬ (7 ≤ m ∧ m ≤ 12) := by
      rcases hb with h | h | h <;> omega
    rw [if_neg hm.1, if_neg hm.2.1, if_neg hm.2.2.1, if_neg hm.2.2.2]
    match s, hs with
    | y :: x :: s, hs => exact ⟨op_ok hb hs.2.1 hs.1, hs.2.2⟩
-- ===== joins =====
theorem j_and : ∀ x y : Int, (x = 0 ∨ x = 1) → (y = 0 ∨ y = 1) → zI x &&& zI y = zI (x * y) := by
  intro x y hx hy
  rcases hx with rfl | rfl <;> rcases hy with rfl | rfl <;> rfl
theorem j_or : ∀ x y : Int, (x = 0 ∨ x = 1) → (y = 0 ∨ y = 1) → zI x ||| zI y = zI (if 0 < x + y then 1 else 0) := by
  intro x y hx hy
  rcases hx with rfl | rfl <;> rcases hy with rfl | rfl <;> rfl
theorem x_reckon29 {z : Int} (σ : St) (h1 : -9223372036854775808 ≤ z) (h2 : z < 9223372036854775808) : f_Showman_reckon_29 (zJ z) σ = some (zI (clp z)) := by
  unfold f_Showman_reckon_29 clp
  have e1 : (1000000 : Int64) = zJ 1000000 := rfl
  have e2 : (-1000000 : Int64) = zJ (-1000000) := rfl
  simp only [lg_cmp_le, lg_cmp_ge]
  rw [e2, e1]
  simp (disch := omega) only [zJ_le, zJ_n]
  by_cases c : z ≤ 1000000
  · rw [if_pos c, if_pos c]
    by_cases c2 : -1000000 ≤ z
    · rw [if_pos c2, if_pos c2]
    · rw [if_neg c2, if_neg c2]
      rfl
  · rw [if_neg c, if_neg c]
    rfl
theorem mul_b {x y : Int} (hx : -1000000 ≤ x ∧ x ≤ 1000000) (hy : -1000000 ≤ y ∧ y ≤ 1000000) : -1000000000000 ≤ x * y ∧ x * y ≤ 1000000000000 := by
  have h1 : (x * y).natAbs = x.natAbs * y.natAbs := Int.natAbs_mul x y
  have h2 : x.natAbs * y.natAbs ≤ 1000000 * 1000000 := Nat.mul_le_mul (by omega) (by omega)
  omega
theorem msb_z {x : Int} (h1 : -2147483648 ≤ x) (h2 : x < 2147483648) : (zI x).toBitVec.msb = decide (x < 0) := by
  rw [BitVec.msb_eq_toInt, Int32.toInt_toBitVec, zI_t h1 h2]
theorem xor_sgn {x y : Int} (h1 : -2147483648 ≤ x) (h2 : x < 2147483648) (h3 : -2147483648 ≤ y) (h4 : y < 2147483648) : ((0 : Int32) ≤ zI x ^^^ zI y) ↔ (0 ≤ x ↔ 0 ≤ y) := by
  have e : ((0 : Int32) ≤ zI x ^^^ zI y) ↔ ¬ (zI x ^^^ zI y).toBitVec.msb = true := by
    rw [Int32.le_iff_toInt_le, BitVec.msb_eq_toInt, Int32.toInt_toBitVec, decide_eq_true_eq]
    have : (0 : Int32).toInt = 0 := rfl
    rw [this]
    omega
  rw [e, Int32.toBitVec_xor, BitVec.msb_xor, msb_z h1 h2, msb_z h3 h4]
  by_cases c1 : x < 0 <;> by_cases c2 : y < 0 <;> simp [c1, c2] <;> omega
theorem x_fdiv {x y : Int} (σ : St) (hx : -1000000 ≤ x ∧ x ≤ 1000000) (hy : -1000000 ≤ y ∧ y ≤ 1000000) (h0 : y ≠ 0) : f_Math_floorDiv (zI x) (zI y) σ = some (zI (fl x y)) := by
  unfold f_Math_floorDiv fl
  have hb := td_b x y
  have hm : x.tdiv y * y = x - x.tmod y := by
    have := Int.tmod_add_mul_tdiv x y
    have e : x.tdiv y * y = y * x.tdiv y := Int.mul_comm _ _
    omega
  have hmb : (x.tmod y).natAbs ≤ x.natAbs := by
    rw [Int.natAbs_tmod]
    exact Nat.mod_le _ _
  rw [nz_z (by omega) (by omega) h0, gd_t, zI_d (by omega) (by omega) (by omega) (by omega), lt_s', if_neg h0]
  by_cases c : 0 ≤ x ↔ 0 ≤ y
  · rw [if_pos ((xor_sgn (by omega) (by omega) (by omega) (by omega)).mpr c), if_pos (.inr c)]
  · rw [if_neg (fun e => c ((xor_sgn (by omega) (by omega) (by omega) (by omega)).mp e)), zI_mul, hm]
    by_cases c2 : x.tmod y = 0
    · rw [c2, Int.sub_zero, if_pos rfl, if_pos (.inl rfl)]
    · rw [if_neg (by rw [zI_eq (by omega) (by omega) (by omega) (by omega)]; omega), if_neg (by intro h; rcases h with h | h; exact c2 h; exact c h)]
      rw [zI_lit, zI_sub]
theorem x_join {m : Nat} {x y : Int} {b c : Bool} (σ : St) (h : (b = true ∧ c = true ∧ (m = 16 ∨ m = 17)) ∨ (b = false ∧ c = true ∧ 13 ≤ m ∧ m ≤ 15) ∨ (b = false ∧ c = false ∧ 1 ≤ m ∧ m ≤ 6)) (hx : ok1 b x) (hy : ok1 b y) : f_Showman_join (zI (xC m)) (zI x) (zI y) σ = some (zI (op m x y)) := by
  have bx := ok1_b hx
  have by' := ok1_b hy
  have hmul := mul_b bx by'
  rcases h with ⟨rfl, rfl, h⟩ | ⟨rfl, rfl, h⟩ | ⟨rfl, rfl, h⟩
  · have hx : x = 0 ∨ x = 1 := hx
    have hy : y = 0 ∨ y = 1 := hy
    rcases h with rfl | rfl
    · show some (zI x &&& zI y) = some (zI (x * y))
      rw [j_and x y hx hy]
    · show some (zI x ||| zI y) = some (zI (if 0 < x + y then 1 else 0))
      rw [j_or x y hx hy]
  · rcases (show m = 13 ∨ m = 14 ∨ m = 15 by omega) with rfl | rfl | rfl
    · show (if zI y ≤ zI x then some (0 : Int32) else some 1) = some (zI (if x < y then 1 else 0))
      simp (disch := omega) only [zI_lit, zJ_lit, zI_neg, zJ_neg, zI_add, zI_sub, zI_mul, zJ_add, zJ_sub, zJ_mul, zI_lt, zI_le, zI_eq, zJ_lt, zJ_le, zJ_eq, zJ_w, zJ_n, in_z, zI_cl, zI_in, nz_z, nzJ_z, iMin_z, iMax_z, lg_cmp_lt, lg_cmp_le, lg_cmp_gt, lg_cmp_ge, lg_cmp_eq, lt_q, gd_q, bp_q, bd_q, Int.toNat_natCast, Int.toNat_zero, Int.toNat_one, Int.reduceToNat, ite_true, ite_false, bz, isB_i, isB0, isB1]
      by_cases q : x < y
      · rw [if_neg (by omega), if_pos q]
      · rw [if_pos (by omega), if_neg q]
    · show (if zI x ≤ zI y then some (0 : Int32) else some 1) = some (zI (if y < x then 1 else 0))
      simp (disch := omega) only [zI_lit, zJ_lit, zI_neg, zJ_neg, zI_add, zI_sub, zI_mul, zJ_add, zJ_sub, zJ_mul, zI_lt, zI_le, zI_eq, zJ_lt, zJ_le, zJ_eq, zJ_w, zJ_n, in_z, zI_cl, zI_in, nz_z, nzJ_z, iMin_z, iMax_z, lg_cmp_lt, lg_cmp_le, lg_cmp_gt, lg_cmp_ge, lg_cmp_eq, lt_q, gd_q, bp_q, bd_q, Int.toNat_natCast, Int.toNat_zero, Int.toNat_one, Int.reduceToNat, ite_true, ite_false, bz, isB_i, isB0, isB1]
      by_cases q : y < x
      · rw [if_neg (by omega), if_pos q]
      · rw [if_pos (by omega), if_neg q]
    · show (if zI x = zI y then some (1 : Int32) else some 0) = some (zI (if x = y then 1 else 0))
      simp (disch := omega) only [zI_lit, zJ_lit, zI_neg, zJ_neg, zI_add, zI_sub, zI_mul, zJ_add, zJ_sub, zJ_mul, zI_lt, zI_le, zI_eq, zJ_lt, zJ_le, zJ_eq, zJ_w, zJ_n, in_z, zI_cl, zI_in, nz_z, nzJ_z, iMin_z, iMax_z, lg_cmp_lt, lg_cmp_le, lg_cmp_gt, lg_cmp_ge, lg_cmp_eq, lt_q, gd_q, bp_q, bd_q, Int.toNat_natCast, Int.toNat_zero, Int.toNat_one, Int.reduceToNat, ite_true, ite_false, bz, isB_i, isB0, isB1]
      by_cases q : x = y
      · rw [if_pos q, if_pos q]
      · rw [if_neg q, if_neg q]
  · rcases (show m = 1 ∨ m = 2 ∨ m = 3 ∨ m = 4 ∨ m = 5 ∨ m = 6 by omega) with rfl | rfl | rfl | rfl | rfl | rfl
    · show bp (f_Showman_reckon_29 ((zI x).toInt64 + (zI y).toInt64) σ) (fun r_10 => some r_10) = some (zI (clp (x + y)))
      rw [zJ_w (by omega) (by omega), zJ_w (by omega) (by omega), zJ_add, x_reckon29 σ (by omega) (by omega), bp_s]
    · show bp (f_Showman_reckon_29 ((zI x).toInt64 - (zI y).toInt64) σ) (fun r_10 => some r_10) = some (zI (clp (x - y)))
      rw [zJ_w (by omega) (by omega), zJ_w (by omega) (by omega), zJ_sub, x_reckon29 σ (by omega) (by omega), bp_s]
    · show bp (f_Showman_reckon_29 ((zI x).toInt64 * (zI y).toInt64) σ) (fun r_10 => some r_10) = some (zI (clp (x * y)))
      rw [zJ_w (by omega) (by omega), zJ_w (by omega) (by omega), zJ_mul, x_reckon29 σ (by omega) (by omega), bp_s]
    · show (if zI y = (0 : Int32) then some (0 : Int32) else bp (f_Math_floorDiv (zI x) (zI y) σ) fun r_2 => some r_2) = some (zI (fl x y))
      by_cases q : y = 0
      · rw [q, if_pos (by decide)]
        unfold fl
        rw [if_pos rfl]
        rfl
      · have e0 : (0 : Int32) = zI 0 := rfl
        rw [if_neg (by rw [e0, zI_eq (by omega) (by omega) (by omega) (by omega)]; omega), x_fdiv σ bx by' q, bp_s]
    · show some (iMin (zI x) (zI y)) = some (zI (min x y))
      rw [iMin_z (by omega) (by omega) (by omega) (by omega)]
    · show some (iMax (zI x) (zI y)) = some (zI (max x y))
      rw [iMax_z (by omega) (by omega) (by omega) (by omega)]
