-- ===== bits =====
theorem zI_bv (n : Nat) : (zI n).toBitVec = BitVec.ofNat 32 n := by
  unfold zI
  rw [Int32.toBitVec_ofInt]
  exact BitVec.ofInt_natCast 32 n
theorem zI_ext {x : Int32} {n : Nat} (h : x.toBitVec.toNat = n % 4294967296) : x = zI n := by
  apply Int32.toBitVec_inj.mp
  rw [zI_bv]
  apply BitVec.eq_of_toNat_eq
  rw [h, BitVec.toNat_ofNat]
theorem zI_tn {n : Nat} (h : n < 4294967296) : (zI n).toBitVec.toNat = n := by
  rw [zI_bv, BitVec.toNat_ofNat]
  exact Nat.mod_eq_of_lt h
theorem and_nat {a b : Nat} (ha : a < 4294967296) (hb : b < 4294967296) : zI a &&& zI b = zI (a &&& b : Nat) := by
  apply zI_ext
  rw [Int32.toBitVec_and, BitVec.toNat_and, zI_tn ha, zI_tn hb]
  exact (Nat.mod_eq_of_lt (Nat.lt_of_le_of_lt Nat.and_le_left ha)).symm
theorem or_nat {a b : Nat} (ha : a < 4294967296) (hb : b < 4294967296) : zI a ||| zI b = zI (a ||| b : Nat) := by
  apply zI_ext
  rw [Int32.toBitVec_or, BitVec.toNat_or, zI_tn ha, zI_tn hb]
  exact (Nat.mod_eq_of_lt (Nat.or_lt_two_pow (n := 32) ha hb)).symm
theorem xor_nat {a b : Nat} (ha : a < 4294967296) (hb : b < 4294967296) : zI a ^^^ zI b = zI (a ^^^ b : Nat) := by
  apply zI_ext
  rw [Int32.toBitVec_xor, BitVec.toNat_xor, zI_tn ha, zI_tn hb]
  exact (Nat.mod_eq_of_lt (Nat.xor_lt_two_pow (n := 32) ha hb)).symm
theorem and_z {n : Nat} (k : Nat) (hn : n < 4294967296) (hk : k ≤ 31) : zI n &&& zI (2 ^ k - 1 : Nat) = zI (n % 2 ^ k : Nat) := by
  have : 2 ^ k ≤ 2 ^ 31 := Nat.pow_le_pow_right (by omega) hk
  rw [and_nat hn (by omega), Nat.and_two_pow_sub_one_eq_mod]
theorem and_255 (n : Nat) (hn : n < 4294967296) : zI n &&& 255 = zI (n % 256 : Nat) := and_z 8 hn (by omega)
theorem byte_255 (x : Int32) : ∃ b : Nat, b < 256 ∧ x &&& 255 = zI b := by
  refine ⟨x.toBitVec.toNat &&& 255, Nat.lt_of_le_of_lt Nat.and_le_right (by omega), ?_⟩
  apply zI_ext
  rw [Int32.toBitVec_and, BitVec.toNat_and]
  have e : (255 : Int32).toBitVec.toNat = 255 := rfl
  rw [e]
  have : x.toBitVec.toNat &&& 255 ≤ 255 := Nat.and_le_right
  omega
theorem sh_k {k : Nat} (hk : k < 32) : ((zI k &&& 31).toBitVec.smod 32).toNat = k := by
  have e : zI k &&& 31 = zI k := by
    have := and_z (n := k) 5 (by omega) (by omega)
    rw [Nat.mod_eq_of_lt (by omega)] at this
    exact this
  rw [e, zI_bv]
  have h : ∀ k : Fin 32, ((BitVec.ofNat 32 k.val).smod 32).toNat = k.val := by decide
  exact h ⟨k, hk⟩
theorem shr_z {n k : Nat} (hn : n < 2147483648) (hk : k < 32) : zI n >>> (zI k &&& 31) = zI (n / 2 ^ k : Nat) := by
  have hd : n / 2 ^ k ≤ n := Nat.div_le_self _ _
  apply Int32.toInt_inj.mp
  generalize hq : n / 2 ^ k = q at hd
  rw [zI_t (a := (q : Int)) (by omega) (by omega), ← Int32.toInt_toBitVec, Int32.toBitVec_shiftRight, BitVec.toInt_sshiftRight', sh_k hk, Int32.toInt_toBitVec, zI_t (by omega) (by omega), Int.shiftRight_eq_div_pow, ← hq]
  simp
theorem shl_z {n k : Nat} (hk : k < 32) (hn : n * 2 ^ k < 4294967296) (hn2 : n < 4294967296) : zI n <<< (zI k &&& 31) = zI (n * 2 ^ k : Nat) := by
  apply zI_ext
  rw [Int32.toBitVec_shiftLeft, BitVec.shiftLeft_eq', sh_k hk, BitVec.toNat_shiftLeft, zI_tn hn2, Nat.shiftLeft_eq]
theorem pow_z {k : Nat} (hk : k ≤ 30) : (1 : Int32) <<< (zI k &&& 31) = zI (2 ^ k : Nat) := by
  have e : (1 : Int32) = zI (1 : Nat) := rfl
  have : 2 ^ k ≤ 2 ^ 30 := Nat.pow_le_pow_right (by omega) hk
  rw [e, shl_z (by omega) (by omega) (by omega), Nat.one_mul]
theorem bit_z {n k : Nat} (hn : n < 2147483648) (hk : k < 32) : (zI n >>> (zI k &&& 31)) &&& 1 = zI (n / 2 ^ k % 2 : Nat) := by
  have hd : n / 2 ^ k ≤ n := Nat.div_le_self _ _
  rw [shr_z hn hk]
  exact and_z 1 (Nat.lt_of_le_of_lt hd (by omega)) (by omega)
theorem shl_or {a b k : Nat} (hk : k < 24) (ha : a < 256) (hb : b < 2 ^ k) : (zI a <<< (zI k &&& 31)) ||| zI b = zI (a * 2 ^ k + b : Nat) := by
  have h1 : 2 ^ k ≤ 2 ^ 23 := Nat.pow_le_pow_right (by omega) (by omega)
  have h2 : a * 2 ^ k ≤ 255 * 2 ^ 23 := Nat.mul_le_mul (by omega) h1
  rw [shl_z (by omega) (by omega) (by omega), or_nat (by omega) (by omega)]
  congr 2
  have := Nat.shiftLeft_add_eq_or_of_lt hb a
  rw [Nat.shiftLeft_eq] at this
  exact this.symm
-- ===== feed =====
theorem uA_uA (σ : St) (k : Nat) (f g : Nat → Int32) : uA (uA σ k f) k g = uA σ k g := by
  unfold uA
  show (σ.1, σ.2.1, va_up (va_up σ.2.2.1 k f) k g, σ.2.2.2) = _
  have : va_up (va_up σ.2.2.1 k f) k g = va_up σ.2.2.1 k g := by
    funext j
    unfold va_up
    split <;> rfl
  rw [this]
theorem uA_uI (σ : St) (k j : Nat) (v : Int32) (g : Nat → Int32) : uA (uI σ k v) j g = uI (uA σ j g) k v := rfl
def tX (σ : St) (f : Nat → Int32) (m : Nat) : St := uI (uA σ 0 f) 3 (zI m)
def tM (σ : St) (f : Nat → Int32) (m : Nat) : St := uI (uA σ 0 f) 0 (zI m)
def bX (x : Int32) (s : Nat) : Int32 := (x >>> (zI s &&& 31)) &&& 255
theorem add_step (σ : St) (f : Nat → Int32) (m n s : Nat) (x : Int32) (hm : m < 1600) (hs : s ≤ 24) : f_Tape_add_3 (n + 1) x (zI s) (tX σ f m) = f_Tape_add_3 n x (zI ((s : Int) - 8)) (tX σ (upd f m (bX x s)) (m + 1)) := by
  show f_Tape_add_3b (f_Tape_add_3 n) x (zI s) (tX σ f m) = _
  unfold f_Tape_add_3b
  have e3 : sI (tX σ f m) 3 = zI m := rfl
  have e0 : sA (tX σ f m) 0 = f := rfl
  rw [e3, e0]
  have c0 : (0 : Int32) = zI 0 := rfl
  have c16 : (1600 : Int32) = zI 1600 := rfl
  rw [if_neg (by rw [c0, zI_lt (by omega) (by omega) (by omega) (by omega)]; omega), if_neg (by rw [c16, zI_le (by omega) (by omega) (by omega) (by omega)]; omega), zI_in (by omega) (by omega) (by omega), gd_t, zI_cl (by omega) (by omega), Int.toNat_natCast, lt_s']
  have e4 : sI (uA (tX σ f m) 0 (upd f m ((x >>> (zI s &&& 31)) &&& 255))) 3 = zI m := rfl
  rw [e4, zS, lt_s', lt_s']
  have e5 : zI (s : Int) + (-8) = zI ((s : Int) - 8) := by
    rw [zI_lit, zI_neg, zI_add]
    rfl
  rw [e5]
  unfold tX
  rw [uA_uI, uI_uI, uA_uA]
  rfl
theorem add_end (σ : St) (n : Nat) (x : Int32) : f_Tape_add_3 (n + 1) x (zI (-8)) σ = some σ := by
  show f_Tape_add_3b (f_Tape_add_3 n) x (zI (-8)) σ = _
  unfold f_Tape_add_3b
  rw [if_pos (by decide)]
def ap4 (f : Nat → Int32) (m : Nat) (x : Int32) : Nat → Int32 := upd (upd (upd (upd f m (bX x 24)) (m + 1) (bX x 16)) (m + 1 + 1) (bX x 8)) (m + 1 + 1 + 1) (bX x 0)
theorem x_add (σ : St) (f : Nat → Int32) (m : Nat) (x : Int32) (hm : m + 4 ≤ 1600) : f_Tape_add x (tX σ f m) = some (tX σ (ap4 f m x) (m + 1 + 1 + 1 + 1)) := by
  unfold f_Tape_add
  have e : FU = 99995 + 1 + 1 + 1 + 1 + 1 := rfl
  have e24 : (24 : Int32) = zI (24 : Nat) := rfl
  rw [e, e24, add_step _ _ _ _ _ _ (by omega) (by omega)]
  have e16 : zI (((24 : Nat) : Int) - 8) = zI (16 : Nat) := rfl
  rw [e16, add_step _ _ _ _ _ _ (by omega) (by omega)]
  have e8 : zI (((16 : Nat) : Int) - 8) = zI (8 : Nat) := rfl
  rw [e8, add_step _ _ _ _ _ _ (by omega) (by omega)]
  have e0 : zI (((8 : Nat) : Int) - 8) = zI (0 : Nat) := rfl
  rw [e0, add_step _ _ _ _ _ _ (by omega) (by omega)]
  have em : zI (((0 : Nat) : Int) - 8) = zI (-8) := rfl
  rw [em, add_end]
  rfl
def pk (x1 x2 x3 x4 x5 : Int32) (i : Nat) : Int32 := if i < 4 then x1 else if i < 8 then x2 else if i < 12 then x3 else if i < 16 then x4 else x5
theorem feed_step (σ : St) (f : Nat → Int32) (m n i : Nat) (x1 x2 x3 x4 x5 : Int32) (hm : m < 1600) (hi : i < 20) : f_M_feed_28 (n + 1) x1 x2 x3 x4 x5 (zI i) (tM σ f m) = f_M_feed_28 n x1 x2 x3 x4 x5 (zI (i + 1 : Nat)) (tM σ (upd f m (bX (pk x1 x2 x3 x4 x5 i) (24 - 8 * (i % 4)))) (m + 1)) := by
  show f_M_feed_28b (f_M_feed_28 n) x1 x2 x3 x4 x5 (zI i) (tM σ f m) = _
  have key : ∀ t0 : Int32, f_M_feed_81 (f_M_feed_28 n) x1 x2 x3 x4 x5 (zI i) t0 (tM σ f m) = f_M_feed_28 n x1 x2 x3 x4 x5 (zI (i + 1 : Nat)) (tM σ (upd f m (bX t0 (24 - 8 * (i % 4)))) (m + 1)) := by
    intro t0
    unfold f_M_feed_81
    have e3 : sI (tM σ f m) 0 = zI m := rfl
    have e0 : sA (tM σ f m) 0 = f := rfl
    have e8 : (8 * (3 - iR (zI (i : Int)) 4) : Int32) = zI ((24 - 8 * (i % 4) : Nat) : Int) := by
      have e4 : (4 : Int32) = zI 4 := rfl
      rw [e4, zI_rem (by omega) (by omega) (by omega) (by omega)]
      simp only [zI_lit, zI_sub, zI_mul]
      congr 1
      omega
    rw [e3, e0, e8, zI_in (by omega) (by omega) (by omega), gd_t, zI_cl (by omega) (by omega), Int.toNat_natCast, lt_s']
    have e5 : sI (uA (tM σ f m) 0 (upd f m ((t0 >>> (zI ((24 - 8 * (i % 4) : Nat) : Int) &&& 31)) &&& 255))) 0 = zI m := rfl
    rw [e5, zS, zS, lt_s', lt_s']
    unfold tM
    rw [uA_uI, uI_uI, uA_uA]
    rfl
  unfold f_M_feed_28b
  simp only [key]
  unfold pk
  have c20 : (20 : Int32) = zI 20 := rfl
  have c16 : (16 : Int32) = zI 16 := rfl
  have c12 : (12 : Int32) = zI 12 := rfl
  have c8 : (8 : Int32) = zI 8 := rfl
  have c4 : (4 : Int32) = zI 4 := rfl
  rw [c20, c16, c12, c8, c4]
  simp (disch := omega) only [zI_le]
  rw [if_neg (by omega)]
  by_cases h1 : i < 4
  · rw [if_neg (by omega), if_pos h1]
  · rw [if_pos (by omega), if_neg h1]
    by_cases h2 : i < 8
    · rw [if_neg (by omega), if_pos h2]
    · rw [if_pos (by omega), if_neg h2]
      by_cases h3 : i < 12
      · rw [if_neg (by omega), if_pos h3]
      · rw [if_pos (by omega), if_neg h3]
        by_cases h4 : i < 16
        · rw [if_neg (by omega), if_pos h4]
        · rw [if_pos (by omega), if_neg h4]
/-- the first m bytes are alike -/
def bt (m : Nat) (f g : Nat → Int32) : Prop := ∀ k, k < m → f k = g k ∧ ∃ b : Nat, b < 256 ∧ g k = zI b
theorem bt_s {m s : Nat} {f g : Nat → Int32} {x : Int32} (h : bt m f g) : bt (m + 1) (upd f m (bX x s)) (upd g m (bX x s)) := by
  intro k hk
  rw [upd_e, upd_e]
  by_cases c : k = m
  · rw [if_pos c, if_pos c]
    exact ⟨rfl, byte_255 _⟩
  · rw [if_neg c, if_neg c]
    exact h k (by omega)
theorem m_add (σ : St) (f : Nat → Int32) (m : Nat) (x1 x2 x3 x4 x5 : Int32) (hm : m + 20 ≤ 1600) : f_M_feed_28 FU x1 x2 x3 x4 x5 0 (tM σ f m) = some (zI (m + 20 : Nat), tM σ (ap4 (ap4 (ap4 (ap4 (ap4 f m x1) (m + 4) x2) (m + 8) x3) (m + 12) x4) (m + 16) x5) (m + 20)) := by
  have e : FU = 99979 + 1 + 1 + 1 + 1 + 1 + 1 + 1 + 1 + 1 + 1 + 1 + 1 + 1 + 1 + 1 + 1 + 1 + 1 + 1 + 1 + 1 := rfl
  have e0 : (0 : Int32) = zI (0 : Nat) := rfl
  rw [e, e0]
  rw [feed_step _ _ (m) _ 0 _ _ _ _ _ (by omega) (by omega)]
  rw [feed_step _ _ (m + 1) _ 1 _ _ _ _ _ (by omega) (by omega)]
  rw [feed_step _ _ (m + 1 + 1) _ 2 _ _ _ _ _ (by omega) (by omega)]
  rw [feed_step _ _ (m + 1 + 1 + 1) _ 3 _ _ _ _ _ (by omega) (by omega)]
  rw [feed_step _ _ (m + 1 + 1 + 1 + 1) _ 4 _ _ _ _ _ (by omega) (by omega)]
  rw [feed_step _ _ (m + 1 + 1 + 1 + 1 + 1) _ 5 _ _ _ _ _ (by omega) (by omega)]
  rw [feed_step _ _ (m + 1 + 1 + 1 + 1 + 1 + 1) _ 6 _ _ _ _ _ (by omega) (by omega)]
  rw [feed_step _ _ (m + 1 + 1 + 1 + 1 + 1 + 1 + 1) _ 7 _ _ _ _ _ (by omega) (by omega)]
  rw [feed_step _ _ (m + 1 + 1 + 1 + 1 + 1 + 1 + 1 + 1) _ 8 _ _ _ _ _ (by omega) (by omega)]
  rw [feed_step _ _ (m + 1 + 1 + 1 + 1 + 1 + 1 + 1 + 1 + 1) _ 9 _ _ _ _ _ (by omega) (by omega)]
  rw [feed_step _ _ (m + 1 + 1 + 1 + 1 + 1 + 1 + 1 + 1 + 1 + 1) _ 10 _ _ _ _ _ (by omega) (by omega)]
  rw [feed_step _ _ (m + 1 + 1 + 1 + 1 + 1 + 1 + 1 + 1 + 1 + 1 + 1) _ 11 _ _ _ _ _ (by omega) (by omega)]
  rw [feed_step _ _ (m + 1 + 1 + 1 + 1 + 1 + 1 + 1 + 1 + 1 + 1 + 1 + 1) _ 12 _ _ _ _ _ (by omega) (by omega)]
  rw [feed_step _ _ (m + 1 + 1 + 1 + 1 + 1 + 1 + 1 + 1 + 1 + 1 + 1 + 1 + 1) _ 13 _ _ _ _ _ (by omega) (by omega)]
  rw [feed_step _ _ (m + 1 + 1 + 1 + 1 + 1 + 1 + 1 + 1 + 1 + 1 + 1 + 1 + 1 + 1) _ 14 _ _ _ _ _ (by omega) (by omega)]
  rw [feed_step _ _ (m + 1 + 1 + 1 + 1 + 1 + 1 + 1 + 1 + 1 + 1 + 1 + 1 + 1 + 1 + 1) _ 15 _ _ _ _ _ (by omega) (by omega)]
  rw [feed_step _ _ (m + 1 + 1 + 1 + 1 + 1 + 1 + 1 + 1 + 1 + 1 + 1 + 1 + 1 + 1 + 1 + 1) _ 16 _ _ _ _ _ (by omega) (by omega)]
  rw [feed_step _ _ (m + 1 + 1 + 1 + 1 + 1 + 1 + 1 + 1 + 1 + 1 + 1 + 1 + 1 + 1 + 1 + 1 + 1) _ 17 _ _ _ _ _ (by omega) (by omega)]
  rw [feed_step _ _ (m + 1 + 1 + 1 + 1 + 1 + 1 + 1 + 1 + 1 + 1 + 1 + 1 + 1 + 1 + 1 + 1 + 1 + 1) _ 18 _ _ _ _ _ (by omega) (by omega)]
  rw [feed_step _ _ (m + 1 + 1 + 1 + 1 + 1 + 1 + 1 + 1 + 1 + 1 + 1 + 1 + 1 + 1 + 1 + 1 + 1 + 1 + 1) _ 19 _ _ _ _ _ (by omega) (by omega)]
  rfl
theorem sim_feed : Sim_feed Rel := by
  intro a1 a2 a3 a4 a5 σx σm h
  obtain ⟨n, hn, e1, e2, hb⟩ : rT σx σm := h.1.1
  have hX : tX σx (sA σx 0) n = σx := by
    unfold tX
    rw [← e1]
    have : uA σx 0 (sA σx 0) = σx := by
      unfold uA sA
      obtain ⟨a, b, c, d⟩ := σx
      have : va_up c 0 (c 0) = c := by
        funext j
        unfold va_up
        split <;> rename_i q
        · rw [q]
        · rfl
      exact congrArg (fun z => (a, b, z, d)) this
    rw [this, uI_same]
  have hM : tM σm (sA σm 0) n = σm := by
    unfold tM
    rw [← e2]
    have : uA σm 0 (sA σm 0) = σm := by
      unfold uA sA
      obtain ⟨a, b, c, d⟩ := σm
      have : va_up c 0 (c 0) = c := by
        funext j
        unfold va_up
        split <;> rename_i q
        · rw [q]
        · rfl
      exact congrArg (fun z => (a, b, z, d)) this
    rw [this, uI_same]
  unfold f_BH_feed f_M_feed
  rw [e1, e2]
  have c20 : (20 : Int32) = zI 20 := rfl
  have c16 : (1600 : Int32) = zI 1600 := rfl
  rw [c20, c16, zI_add]
  by_cases c : n + 20 ≤ 1600
  · have cc : zI ((n : Int) + 20) ≤ zI 1600 := by
      rw [zI_le (by omega) (by omega) (by omega) (by omega)]
      omega
    rw [if_pos cc, if_pos cc]
    have M := m_add σm (sA σm 0) n a1 a2 a3 a4 a5 c
    rw [hM] at M
    have X1 := x_add σx (sA σx 0) n a1 (by omega)
    rw [hX] at X1
    rw [X1, bp_s, x_add σx _ (n + 1 + 1 + 1 + 1) a2 (by omega), bp_s, x_add σx _ (n + 1 + 1 + 1 + 1 + 1 + 1 + 1 + 1) a3 (by omega), bp_s, x_add σx _ (n + 1 + 1 + 1 + 1 + 1 + 1 + 1 + 1 + 1 + 1 + 1 + 1) a4 (by omega), bp_s, x_add σx _ (n + 1 + 1 + 1 + 1 + 1 + 1 + 1 + 1 + 1 + 1 + 1 + 1 + 1 + 1 + 1 + 1) a5 (by omega), bp_s]
    refine ⟨_, _, _, rfl, M, ?_⟩
    obtain ⟨⟨hT, hF, hR, hI, hG, hO⟩, hh⟩ := h
    refine ⟨⟨⟨n + 20, c, rfl, rfl, ?_⟩, hF, hR, hI, hG, hO⟩, hh⟩
    have hb0 : bt n (sA σx 0) (sA σm 0) := hb
    exact bt_s (bt_s (bt_s (bt_s (bt_s (bt_s (bt_s (bt_s (bt_s (bt_s (bt_s (bt_s (bt_s (bt_s (bt_s (bt_s (bt_s (bt_s (bt_s (bt_s hb0)))))))))))))))))))
  · have cc : ¬ zI ((n : Int) + 20) ≤ zI 1600 := by
      rw [zI_le (by omega) (by omega) (by omega) (by omega)]
      omega
    rw [if_neg cc, if_neg cc]
    exact ⟨_, _, _, rfl, rfl, rel_no (k := 0) (by omega) h⟩
