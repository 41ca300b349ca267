-- ===== the text, and X's reader =====
def isSp (x : Nat) : Bool := decide (x = 10) || decide (x = 32)
def isLt (x : Nat) : Bool := decide (97 ≤ x) && decide (x ≤ 122)
def isDg (x : Nat) : Bool := decide (48 ≤ x) && decide (x ≤ 57)
/-- behind the blanks: m places are left -/
def skF (b : Nat → Nat) : Nat → Nat → Nat
  | 0, p => p
  | m + 1, p => if isSp (b p) then skF b m (p + 1) else p
def skp (b : Nat → Nat) (n p : Nat) : Nat := skF b (n - p) p
/-- how many from p on are such -/
def rnF (P : Nat → Bool) (b : Nat → Nat) : Nat → Nat → Nat
  | 0, _ => 0
  | m + 1, p => if P (b p) then rnF P b m (p + 1) + 1 else 0
def rn (P : Nat → Bool) (b : Nat → Nat) (n p : Nat) : Nat := rnF P b (n - p) p
theorem skF_b (b : Nat → Nat) : ∀ m p, p ≤ skF b m p ∧ skF b m p ≤ p + m := by
  intro m
  induction m with
  | zero => intro p; exact ⟨Nat.le_refl _, Nat.le_refl _⟩
  | succ m ih =>
    intro p
    unfold skF
    have := ih (p + 1)
    split <;> omega
theorem rnF_b (P : Nat → Bool) (b : Nat → Nat) : ∀ m p, rnF P b m p ≤ m := by
  intro m
  induction m with
  | zero => intro p; exact Nat.le_refl _
  | succ m ih =>
    intro p
    unfold rnF
    have := ih (p + 1)
    split <;> omega
theorem skp_b {b : Nat → Nat} {n p : Nat} (h : p ≤ n) : p ≤ skp b n p ∧ skp b n p ≤ n := by
  have := skF_b b (n - p) p
  unfold skp
  omega
theorem rn_b {P : Nat → Bool} {b : Nat → Nat} {n p : Nat} (h : p ≤ n) : p + rn P b n p ≤ n := by
  have := rnF_b P b (n - p) p
  unfold rn
  omega
theorem skp_0 {b : Nat → Nat} {n : Nat} : skp b n n = n := by
  unfold skp
  rw [Nat.sub_self]
  rfl
theorem skp_s {b : Nat → Nat} {n p : Nat} (h : p < n) (hs : isSp (b p) = true) : skp b n p = skp b n (p + 1) := by
  unfold skp
  have e : n - p = (n - (p + 1)) + 1 := by omega
  rw [e]
  show (if isSp (b p) then skF b (n - (p + 1)) (p + 1) else p) = _
  rw [if_pos hs]
theorem skp_n {b : Nat → Nat} {n p : Nat} (h : p < n) (hs : isSp (b p) = false) : skp b n p = p := by
  unfold skp
  have e : n - p = (n - (p + 1)) + 1 := by omega
  rw [e]
  show (if isSp (b p) then skF b (n - (p + 1)) (p + 1) else p) = _
  rw [if_neg (by rw [hs]; decide)]
theorem rn_0 {P : Nat → Bool} {b : Nat → Nat} {n : Nat} : rn P b n n = 0 := by
  unfold rn
  rw [Nat.sub_self]
  rfl
theorem rn_s {P : Nat → Bool} {b : Nat → Nat} {n p : Nat} (h : p < n) (hs : P (b p) = true) : rn P b n p = rn P b n (p + 1) + 1 := by
  unfold rn
  have e : n - p = (n - (p + 1)) + 1 := by omega
  rw [e]
  show (if P (b p) then rnF P b (n - (p + 1)) (p + 1) + 1 else 0) = _
  rw [if_pos hs]
theorem rn_n {P : Nat → Bool} {b : Nat → Nat} {n p : Nat} (h : p < n) (hs : P (b p) = false) : rn P b n p = 0 := by
  unfold rn
  have e : n - p = (n - (p + 1)) + 1 := by omega
  rw [e]
  show (if P (b p) then rnF P b (n - (p + 1)) (p + 1) + 1 else 0) = _
  rw [if_neg (by rw [hs]; decide)]
theorem skp_not {b : Nat → Nat} {n : Nat} : ∀ m p, n - p ≤ m → p ≤ n → skp b n p < n → isSp (b (skp b n p)) = false := by
  intro m
  induction m with
  | zero =>
    intro p h1 h2 h3
    have : p = n := by omega
    subst this
    rw [skp_0] at h3
    omega
  | succ m ih =>
    intro p h1 h2 h3
    by_cases c : p = n
    · subst c
      rw [skp_0] at h3
      omega
    · cases hs : isSp (b p) with
      | true =>
        rw [skp_s (by omega) hs] at h3 ⊢
        exact ih (p + 1) (by omega) (by omega) h3
      | false =>
        rw [skp_n (by omega) hs]
        exact hs
theorem skp_id {b : Nat → Nat} {n p : Nat} (h : p ≤ n) : skp b n (skp b n p) = skp b n p := by
  have hb := skp_b (b := b) h
  by_cases c : skp b n p < n
  · exact skp_n c (skp_not (n - p) p (Nat.le_refl _) h c)
  · have : skp b n p = n := by omega
    rw [this]
    exact skp_0
/-- the text on X's side -/
def tX' (b : Nat → Nat) (n : Nat) (σ : St) : Prop := n ≤ 1600 ∧ sI σ 6 = zI n ∧ (∀ k, k < n → sA σ 0 k = zI (b k)) ∧ (∀ k, k < n → b k < 256)
theorem zb_lt {x k : Nat} (hx : x < 256) (hk : k < 300) : (zI (x : Int) < zI (k : Int)) ↔ x < k := by
  rw [zI_lt (by omega) (by omega) (by omega) (by omega)]
  omega
theorem zb_gt {x k : Nat} (hx : x < 256) (hk : k < 300) : (zI (k : Int) < zI (x : Int)) ↔ k < x := by
  rw [zI_lt (by omega) (by omega) (by omega) (by omega)]
  omega
theorem zb_eq {x k : Nat} (hx : x < 256) (hk : k < 300) : (zI (x : Int) = zI (k : Int)) ↔ x = k := by
  rw [zI_eq (by omega) (by omega) (by omega) (by omega)]
  omega
theorem zb_10 {x : Nat} (hx : x < 256) : (zI (x : Int) = (10 : Int32)) ↔ x = 10 := zb_eq (k := 10) hx (by omega)
theorem zb_32 {x : Nat} (hx : x < 256) : (zI (x : Int) = (32 : Int32)) ↔ x = 32 := zb_eq (k := 32) hx (by omega)
theorem zb_97 {x : Nat} (hx : x < 256) : (zI (x : Int) < (97 : Int32)) ↔ x < 97 := zb_lt (k := 97) hx (by omega)
theorem zb_48 {x : Nat} (hx : x < 256) : (zI (x : Int) < (48 : Int32)) ↔ x < 48 := zb_lt (k := 48) hx (by omega)
theorem zb_122 {x : Nat} (hx : x < 256) : ((122 : Int32) < zI (x : Int)) ↔ 122 < x := zb_gt (k := 122) hx (by omega)
theorem zb_57 {x : Nat} (hx : x < 256) : ((57 : Int32) < zI (x : Int)) ↔ 57 < x := zb_gt (k := 57) hx (by omega)
theorem x_kindOf {x : Nat} (hx : x < 256) (σ : St) : f_Reader_kindOf (zI x) σ = some (zI (if isLt x then 1 else if isDg x then 2 else 3 : Nat)) := by
  unfold f_Reader_kindOf f_Reader_kindOf_14 isLt isDg
  simp only [zb_97 hx, zb_48 hx, zb_122 hx, zb_57 hx, Bool.and_eq_true, decide_eq_true_eq]
  by_cases c3 : 97 ≤ x ∧ x ≤ 122
  · rw [if_neg (show ¬ x < 97 by omega), if_neg (show ¬ 122 < x by omega), if_pos c3]
    rfl
  · rw [if_neg c3]
    have h28 : (if x < 48 then some (3 : Int32) else if 57 < x then some 3 else some 2) = some (zI (if 48 ≤ x ∧ x ≤ 57 then 2 else 3 : Nat)) := by
      by_cases c4 : 48 ≤ x ∧ x ≤ 57
      · rw [if_neg (by omega), if_neg (by omega), if_pos c4]
        rfl
      · rw [if_neg c4]
        by_cases c5 : x < 48
        · rw [if_pos c5]
          rfl
        · rw [if_neg c5, if_pos (by omega)]
          rfl
    rw [h28]
    by_cases c5 : x < 97
    · rw [if_pos c5]
    · rw [if_neg c5, if_pos (by omega)]
/-- letters, digits as numbers -/
def nvL (b : Nat → Nat) (s : Nat) : Nat → Nat
  | 0 => 0
  | k + 1 => nvL b s k * 27 + (b (s + k) - 96)
def dvL (b : Nat → Nat) (s : Nat) : Nat → Nat
  | 0 => 0
  | k + 1 => dvL b s k * 10 + (b (s + k) - 48)
def wvP (b : Nat → Nat) (s z : Nat) : Nat := nP (nvL b s (min 6 z)) (min 6 z)
theorem nvL_b {b : Nat → Nat} {s : Nat} : ∀ k, (∀ i, i < k → b (s + i) ≤ 122) → nvL b s k < 27 ^ k := by
  intro k
  induction k with
  | zero => intro _; exact Nat.one_pos
  | succ k ih =>
    intro h
    have a := ih (fun i hi => h i (by omega))
    have c := h k (by omega)
    have e : nvL b s (k + 1) = nvL b s k * 27 + (b (s + k) - 96) := rfl
    rw [e, Nat.pow_succ]
    omega
theorem dvL_b {b : Nat → Nat} {s : Nat} : ∀ k, (∀ i, i < k → b (s + i) ≤ 57) → dvL b s k < 10 ^ k := by
  intro k
  induction k with
  | zero => intro _; exact Nat.one_pos
  | succ k ih =>
    intro h
    have a := ih (fun i hi => h i (by omega))
    have c := h k (by omega)
    have e : dvL b s (k + 1) = dvL b s k * 10 + (b (s + k) - 48) := rfl
    rw [e, Nat.pow_succ]
    omega
theorem rn_all {P : Nat → Bool} {b : Nat → Nat} {n : Nat} : ∀ m p, n - p ≤ m → p ≤ n → ∀ i, i < rn P b n p → P (b (p + i)) = true ∧ p + i < n := by
  intro m
  induction m with
  | zero =>
    intro p h1 h2 i hi
    have : p = n := by omega
    subst this
    rw [rn_0] at hi
    omega
  | succ m ih =>
    intro p h1 h2 i hi
    by_cases c : p = n
    · subst c
      rw [rn_0] at hi
      omega
    · cases hs : P (b p) with
      | true =>
        rw [rn_s (by omega) hs] at hi
        cases i with
        | zero => exact ⟨hs, by omega⟩
        | succ i =>
          have := ih (p + 1) (by omega) (by omega) i (by omega)
          have e : p + 1 + i = p + (i + 1) := by omega
          rw [e] at this
          exact this
      | false =>
        rw [rn_n (by omega) hs] at hi
        omega
