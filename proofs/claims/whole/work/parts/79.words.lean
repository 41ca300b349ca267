-- ===== words: on both sides the same =====
def wN (j : Nat) (i : Nat) : Nat := ((wtab.getD j []).getD i 0).toInt.toNat
def ownV (j : Nat) : Nat := nP (nvL (wN j) 0 (wlen j)) (wlen j)
theorem own_v : ∀ j : Fin 27, sA rd0 0 j.val = zI (ownV j.val) := by decide +kernel
theorem wN_l : ∀ j : Fin 27, ∀ i : Fin 6, i.val < wlen j.val → (97 ≤ wN j.val i.val ∧ wN j.val i.val ≤ 122) ∧ wchr j.val i.val = zI (wN j.val i.val) := by decide +kernel
theorem wlen_1 : ∀ j : Fin 27, 1 ≤ wlen j.val := by decide
theorem ownV_b : ∀ j : Fin 27, ownV j.val < 2147483648 := by decide +kernel
theorem nv_inj {f g : Nat → Nat} {s r : Nat} : ∀ z, (∀ i, i < z → 97 ≤ f (s + i) ∧ f (s + i) ≤ 122) → (∀ i, i < z → 97 ≤ g (r + i) ∧ g (r + i) ≤ 122) → nvL f s z = nvL g r z → ∀ i, i < z → f (s + i) = g (r + i) := by
  intro z
  induction z with
  | zero => intro _ _ _ i hi; omega
  | succ z ih =>
    intro hf hg h i hi
    have a := hf z (by omega)
    have c := hg z (by omega)
    have e1 : nvL f s (z + 1) = nvL f s z * 27 + (f (s + z) - 96) := rfl
    have e2 : nvL g r (z + 1) = nvL g r z * 27 + (g (r + z) - 96) := rfl
    rw [e1, e2] at h
    by_cases q : i = z
    · subst q
      omega
    · exact ih (fun i hi => hf i (by omega)) (fun i hi => hg i (by omega)) (by omega) i (by omega)
theorem nv_len {f g : Nat → Nat} {s r z w : Nat} (hz : 1 ≤ z) (hw : 1 ≤ w) (hz6 : z ≤ 6) (hw6 : w ≤ 6) (hf : ∀ i, i < z → 97 ≤ f (s + i) ∧ f (s + i) ≤ 122) (hg : ∀ i, i < w → 97 ≤ g (r + i) ∧ g (r + i) ≤ 122) (h : nP (nvL f s z) z = nP (nvL g r w) w) : z = w ∧ nvL f s z = nvL g r w := by
  have key : ∀ (f g : Nat → Nat) (s r z w : Nat), 1 ≤ w → w ≤ 6 → z < w → (∀ i, i < w → 97 ≤ g (r + i) ∧ g (r + i) ≤ 122) → nP (nvL f s z) z = nP (nvL g r w) w → False := by
    intro f g s r z w hw hw6 hlt hg h
    unfold nP at h
    have e : 6 - z = (w - z) + (6 - w) := by omega
    rw [e, Nat.pow_add, ← Nat.mul_assoc] at h
    have h2 := Nat.eq_of_mul_eq_mul_right (Nat.pow_pos (by omega)) h
    obtain ⟨w', rfl⟩ : ∃ w', w = w' + 1 := ⟨w - 1, by omega⟩
    have c := hg w' (by omega)
    have e2 : nvL g r (w' + 1) = nvL g r w' * 27 + (g (r + w') - 96) := rfl
    have e3 : w' + 1 - z = (w' - z) + 1 := by omega
    rw [e2, e3, Nat.pow_succ, ← Nat.mul_assoc] at h2
    generalize nvL f s z * 27 ^ (w' - z) = X at h2
    omega
  rcases Nat.lt_trichotomy z w with q | q | q
  · exact absurd (key f g s r z w hw hw6 q hg h) id
  · subst q
    unfold nP at h
    exact ⟨rfl, Nat.eq_of_mul_eq_mul_right (Nat.pow_pos (by omega)) h⟩
  · exact absurd (key g f r s w z hz hz6 q hf h.symm) id
section
variable {b : Nat → Nat} {n : Nat}
theorem rn_1 {P : Nat → Bool} {s : Nat} (h : s < n) (hP : P (b s) = true) : 1 ≤ rn P b n s := by
  rw [rn_s h hP]
  omega
/-- a word at s, by its number -/
theorem w_iff {s : Nat} {j : Nat} (hj : j < 27) (hs : s < n) (hl : isLt (b s) = true) : (rn isLt b n s ≤ 6 ∧ wvP b s (rn isLt b n s) = ownV j) ↔ wAt b n s j := by
  have h1 := rn_1 (P := isLt) hs hl
  have hall := rn_all (P := isLt) (b := b) (n := n) (n - s) s (Nat.le_refl _) (by omega)
  have hf : ∀ i, i < rn isLt b n s → 97 ≤ b (s + i) ∧ b (s + i) ≤ 122 := fun i hi => lt_f (hall i hi).1
  have hw6 := wlen_b j
  have hw1 : 1 ≤ wlen j := wlen_1 ⟨j, hj⟩
  have hg : ∀ i, i < wlen j → 97 ≤ wN j (0 + i) ∧ wN j (0 + i) ≤ 122 := fun i hi => by
    rw [Nat.zero_add]
    exact (wN_l ⟨j, hj⟩ ⟨i, by omega⟩ hi).1
  have hc : ∀ i, i < wlen j → wchr j i = zI (wN j i) := fun i hi => (wN_l ⟨j, hj⟩ ⟨i, by omega⟩ hi).2
  constructor
  · rintro ⟨c6, hv⟩
    unfold wvP ownV at hv
    rw [Nat.min_eq_right c6] at hv
    obtain ⟨e1, e2⟩ := nv_len h1 hw1 c6 hw6 hf hg hv
    refine ⟨e1, fun i hi => ?_⟩
    rw [e1] at e2 hf
    have := nv_inj (wlen j) hf hg e2 i hi
    rw [Nat.zero_add] at this
    rw [hc i hi, this]
  · rintro ⟨e1, e2⟩
    refine ⟨by omega, ?_⟩
    unfold wvP ownV
    rw [Nat.min_eq_right (by omega), e1]
    congr 1
    have eq : ∀ i, i < wlen j → b (s + i) = wN j i := by
      intro i hi
      have a := e2 i hi
      rw [hc i hi] at a
      have b1 := hf i (by omega)
      have b2 := hg i hi
      rw [Nat.zero_add] at b2
      rw [zI_eq (by omega) (by omega) (by omega) (by omega)] at a
      omega
    have : ∀ k, k ≤ wlen j → nvL b s k = nvL (wN j) 0 k := by
      intro k
      induction k with
      | zero => intro _; rfl
      | succ k ih =>
        intro hk
        show nvL b s k * 27 + (b (s + k) - 96) = nvL (wN j) 0 k * 27 + (wN j (0 + k) - 96)
        rw [ih (by omega), eq k (by omega), Nat.zero_add]
    exact this (wlen j) (Nat.le_refl _)
theorem kd_1 {s : Nat} {st : Bool} : kd b n s st = 1 ↔ (s < n ∧ isLt (b s) = true ∧ st = false) := by
  unfold kd
  by_cases c : n ≤ s
  · rw [if_pos c]
    constructor
    · intro h; exact absurd h (by decide)
    · intro h; omega
  · rw [if_neg c]
    cases hl : isLt (b s) with
    | true =>
      rw [if_pos rfl]
      cases st with
      | true =>
        rw [if_pos rfl]
        constructor
        · intro h; exact absurd h (by decide)
        · intro h; exact absurd h.2.2 (by decide)
      | false =>
        rw [if_neg (by decide)]
        exact ⟨fun _ => ⟨by omega, rfl, rfl⟩, fun _ => rfl⟩
    | false =>
      rw [if_neg (by decide)]
      constructor
      · intro h
        split at h
        · split at h <;> exact absurd h (by decide)
        · exact absurd h (by decide)
      · intro h; exact absurd h.2.1 (by decide)
theorem kd_2 {s : Nat} {st : Bool} : kd b n s st = 2 ↔ (s < n ∧ isDg (b s) = true ∧ st = false) := by
  unfold kd
  by_cases c : n ≤ s
  · rw [if_pos c]
    constructor
    · intro h; exact absurd h (by decide)
    · intro h; omega
  · rw [if_neg c]
    cases hl : isLt (b s) with
    | true =>
      rw [if_pos rfl]
      have := lt_ndg hl
      constructor
      · intro h
        split at h <;> exact absurd h (by decide)
      · intro h
        rw [this] at h
        exact absurd h.2.1 (by decide)
    | false =>
      rw [if_neg (by decide)]
      cases hd : isDg (b s) with
      | true =>
        rw [if_pos rfl]
        cases st with
        | true =>
          rw [if_pos rfl]
          constructor
          · intro h; exact absurd h (by decide)
          · intro h; exact absurd h.2.2 (by decide)
        | false =>
          rw [if_neg (by decide)]
          exact ⟨fun _ => ⟨by omega, rfl, rfl⟩, fun _ => rfl⟩
      | false =>
        rw [if_neg (by decide)]
        constructor
        · intro h; exact absurd h (by decide)
        · intro h; exact absurd h.2.1 (by decide)
theorem kd_b {s : Nat} {st : Bool} : kd b n s st ≤ 4 := by
  unfold kd
  split
  · omega
  · split
    · split <;> omega
    · split
      · split <;> omega
      · omega
theorem x_isWord {s j : Nat} {st : Bool} {σ : St} (hn : n ≤ 1600) (ht : tk b n s st σ) (ho : rO σ) (hj : j < 27) : (kd b n s st = 1 ∧ wAt b n s j → f_Reader_isWord (zI j) σ = some 1) ∧ (¬ (kd b n s st = 1 ∧ wAt b n s j) → f_Reader_isWord (zI j) σ = some 0) := by
  obtain ⟨t9, t8, ⟨ts, tsp⟩, t0, tl, td, tn⟩ := ht
  have kb := kd_b (b := b) (n := n) (s := s) (st := st)
  unfold f_Reader_isWord
  rw [t8]
  by_cases c : kd b n s st = 1
  · obtain ⟨h1, h2, h3⟩ := kd_1.mp c
    obtain ⟨a7, a10, a11⟩ := tl h1 h2
    have hrb := rn_b (P := isLt) (b := b) ts
    have e6 : (6 : Int32) = zI (6 : Nat) := rfl
    have e0 : (0 : Int32) = zI (0 : Nat) := rfl
    have e27 : (27 : Int32) = zI (27 : Nat) := rfl
    have own : sA σ 1 j = zI (ownV j) := by
      have : sA σ 1 = sA rd0 0 := ho
      rw [this]
      exact own_v ⟨j, hj⟩
    have iff := w_iff (b := b) (n := n) (s := s) hj h1 h2
    rw [c, if_pos (show zI ((1 : Nat) : Int) = (1 : Int32) from rfl), a10]
    by_cases c6 : rn isLt b n s ≤ 6
    · have hall := rn_all (P := isLt) (b := b) (n := n) (n - s) s (Nat.le_refl _) (by omega)
      have hwb : wvP b s (rn isLt b n s) < 2147483648 := by
        unfold wvP nP
        rw [Nat.min_eq_right c6]
        have a := nvL_b (b := b) (s := s) (rn isLt b n s) (fun i hi => (lt_f (hall i hi).1).2)
        have : nvL b s (rn isLt b n s) * 27 ^ (6 - rn isLt b n s) < 27 ^ rn isLt b n s * 27 ^ (6 - rn isLt b n s) := Nat.mul_lt_mul_of_pos_right a (Nat.pow_pos (by omega))
        rw [← Nat.pow_add] at this
        have e : rn isLt b n s + (6 - rn isLt b n s) = 6 := by omega
        rw [e] at this
        exact Nat.lt_trans this (by decide)
      have hob : ownV j < 2147483648 := ownV_b ⟨j, hj⟩
      rw [if_neg (by rw [e6, zI_lt (by omega) (by omega) (by omega) (by omega)]; omega), if_neg (by rw [e0, zI_lt (by omega) (by omega) (by omega) (by omega)]; omega), if_neg (by rw [e27, zI_le (by omega) (by omega) (by omega) (by omega)]; omega), zI_in (by omega) (by omega) (by omega), gd_t, zI_cl (by omega) (by omega), Int.toNat_natCast, a11, own]
      have e : (zI (wvP b s (rn isLt b n s)) = zI (ownV j)) ↔ wvP b s (rn isLt b n s) = ownV j := by
        rw [zI_eq (by omega) (by omega) (by omega) (by omega)]
        omega
      constructor
      · intro h
        rw [if_pos (e.mpr (iff.mpr h.2).2)]
      · intro h
        rw [if_neg (fun q => h ⟨rfl, iff.mp ⟨c6, e.mp q⟩⟩)]
    · rw [if_pos (by rw [e6, zI_lt (by omega) (by omega) (by omega) (by omega)]; omega)]
      constructor
      · intro h
        exact absurd (iff.mpr h.2).1 c6
      · intro _; rfl
  · have e1 : (1 : Int32) = zI (1 : Nat) := rfl
    rw [if_neg (by rw [e1, zI_eq (by omega) (by omega) (by omega) (by omega)]; omega)]
    exact ⟨fun h => absurd h.1 c, fun _ => rfl⟩
end
