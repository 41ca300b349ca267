-- ===== the relation =====
/-- a fair: many marks, triers, rules; heights; traits; settings (tries crowd near comes); codes, ends; names' values and lengths -/
abbrev FD : Type := Nat × Nat × Nat × (Nat → Nat) × (Nat → Nat → Nat) × (Nat → Nat) × (Nat → Nat) × (Nat → Nat) × (Nat → Nat → Nat) × (Nat → Nat → Nat)
def nM (d : FD) : Nat := d.1
def nT (d : FD) : Nat := d.2.1
def nR (d : FD) : Nat := d.2.2.1
def mH (d : FD) : Nat → Nat := d.2.2.2.1
def tV (d : FD) : Nat → Nat → Nat := d.2.2.2.2.1
def sV (d : FD) : Nat → Nat := d.2.2.2.2.2.1
def cD (d : FD) : Nat → Nat := d.2.2.2.2.2.2.1
def cE (d : FD) : Nat → Nat := d.2.2.2.2.2.2.2.1
def nV (d : FD) : Nat → Nat → Nat := d.2.2.2.2.2.2.2.2.1
def nN (d : FD) : Nat → Nat → Nat := d.2.2.2.2.2.2.2.2.2
/-- where rule k begins -/
def cF (d : FD) (k : Nat) : Nat := if k = 0 then 0 else cE d (k - 1)
/-- a code by the other's code -/
def xC (m : Nat) : Nat := if 1000 ≤ m then m - 1000 else if m = 19 then 1 else if m = 18 then 10010 else if m = 16 then 10011 else if m = 17 then 10012 else if 13 ≤ m then 10000 + m else if 7 ≤ m then 9993 + m else 10015 + m
/-- kinds of what lies on the pile: true is a yes or no -/
def cT (m : Nat) (s : List Bool) : Option (List Bool) :=
  if 1000 ≤ m then (if m ≤ 10999 ∧ s.length < 64 then some (false :: s) else none)
  else if m = 19 then (if s.length < 64 then some (true :: s) else none)
  else if m = 18 then (match s with | true :: r => some (true :: r) | _ => none)
  else if m = 16 ∨ m = 17 then (match s with | true :: true :: r => some (true :: r) | _ => none)
  else if 13 ≤ m ∧ m ≤ 15 then (match s with | false :: false :: r => some (true :: r) | _ => none)
  else if 7 ≤ m ∧ m ≤ 12 then (if s.length < 64 then some (false :: s) else none)
  else if 1 ≤ m ∧ m ≤ 6 then (match s with | false :: false :: r => some (false :: r) | _ => none)
  else none
def cR (cd : Nat → Nat) : Nat → Nat → List Bool → Option (List Bool)
  | _, 0, s => some s
  | i, n + 1, s => (cT (cd i) s).bind (cR cd (i + 1) n)
def tOk (cd : Nat → Nat) (f e : Nat) : Prop := f ≤ e ∧ e ≤ 1600 ∧ cR cd f (e - f) [] = some [true]
def wfT (t : Nat → Nat) : Prop := 1 ≤ t 0 ∧ t 0 ≤ 99 ∧ t 1 ≤ 5 ∧ t 2 ≤ 20 ∧ t 3 ≤ 99 ∧ t 4 ≤ 99 ∧ t 5 ≤ 1
def wfS (s : Nat → Nat) : Prop := 1 ≤ s 0 ∧ s 0 ≤ 4 ∧ s 1 ≤ 99 ∧ s 2 ≤ 20 ∧ s 3 ≤ 9 ∧ s 4 ≤ 9 ∧ s 5 ≤ 9
def wfN (v n : Nat) : Prop := 1 ≤ n ∧ n ≤ 6 ∧ 27 ^ (n - 1) ≤ v ∧ v < 27 ^ n ∧ v % 27 ≠ 0
def wfD (d : FD) : Prop := nM d ≤ 6 ∧ nT d ≤ 8 ∧ nR d ≤ 6 ∧ (∀ k, k < nM d → 1 ≤ mH d k ∧ mH d k ≤ 99) ∧ (∀ t, t < nT d → wfT (tV d t)) ∧ wfS (sV d) ∧ (∀ k, k < nR d → tOk (cD d) (cF d k) (cE d k)) ∧ (∀ k, k < nM d → wfN (nV d 0 k) (nN d 0 k)) ∧ (∀ k, k < nT d → wfN (nV d 1 k) (nN d 1 k))
/-- a name with its blanks -/
def nP (v n : Nat) : Nat := v * 27 ^ (6 - n)
def XD (d : FD) (σ : St) : Prop := sI σ 53 = zI (nM d) ∧ sI σ 54 = zI (nT d) ∧ sI σ 55 = zI (nR d) ∧ (∀ k, k < nM d → sA σ 22 k = zI (mH d k)) ∧ (∀ t j, t < nT d → j < 6 → sA σ 24 (6 * t + j) = zI (tV d t j)) ∧ (∀ k, k < 6 → sA σ 25 (3 + k) = zI (sV d k)) ∧ (∀ k i, k < nR d → i < cE d k → sA σ 26 i = zI (xC (cD d i))) ∧ (∀ k, k < nR d → sA σ 27 k = zI (cE d k)) ∧ (∀ k, k < nM d → sA σ 21 k = zI (nP (nV d 0 k) (nN d 0 k))) ∧ (∀ k, k < nT d → sA σ 23 k = zI (nP (nV d 1 k) (nN d 1 k)))
def MD (d : FD) (σ : St) : Prop := sA σ 2 3 = zI (nM d) ∧ sA σ 2 4 = zI (nT d) ∧ sA σ 2 5 = zI (nR d) ∧ (∀ k, k < nM d → sA σ 3 (6 + k) = zI (mH d k)) ∧ (∀ t j, t < nT d → j < 6 → sA σ 4 (48 + (6 * t + j)) = zI (tV d t j)) ∧ (∀ k, k < 6 → sA σ 5 (if k = 0 then 11 else 12 + k) = zI (sV d k)) ∧ (∀ k i, k < nR d → i < cE d k → sA σ 6 (1600 + i) = zI (cD d i)) ∧ (∀ k, k < nR d → sA σ 8 (6 + k) = zI (cF d k) ∧ sA σ 9 (6 + k) = zI (cE d k)) ∧ (∀ k, k < nM d → sB σ 0 (16 + k) = zJ (nV d 0 k)) ∧ (∀ k, k < nT d → sB σ 0 (24 + k) = zJ (nV d 1 k))
/-- what an act changes -/
def stp (k : Nat) (c c' : Nat → Nat) : Prop := (k < 3 ∧ ∀ i, i < 7 → i ≠ 3 + k → c' i = c i) ∨ (k = 3 ∧ ∀ i, i < 7 → i ≠ 2 → c' i = c i) ∨ (k = 4 ∧ c' 0 = c 0 + 1 ∧ c 1 ≤ c' 1 ∧ c' 2 = c 2 ∧ c' 3 = c 3 ∧ c' 4 = c 4 ∧ c' 5 = c 5 ∧ c 6 ≤ c' 6 ∧ c' 6 ≤ c 6 + 32)
def oldI (k : Nat) : Nat := if k < 3 then 3 + k else if k = 3 then 2 else 1
/-- nights, taken, in force, bell, slack, price, all blows kept -/
def wfC (d : FD) (c : Nat → Nat) : Prop := c 0 ≤ 999 ∧ c 1 ≤ 288 * c 0 ∧ c 2 < 2 ^ nR d ∧ 1 ≤ c 3 ∧ c 3 ≤ 99 ∧ c 4 ≤ 90 ∧ 1 ≤ c 5 ∧ c 5 ≤ 9 ∧ c 6 ≤ 32 * c 0
def wfK (d : FD) (k : Nat → Nat) : Prop := k 0 ≤ 999 ∧ k 1 < nT d ∧ k 2 ≤ 5 ∧ k 3 ≤ 1 ∧ k 4 ≤ 99
def kC (k : Nat → Nat) : Nat := ((((k 0 * 8 + k 1) * 8 + k 2) * 2) + k 3) * 128 + k 4
def wfH (d : FD) (a : Nat) (hs ks : Nat → Nat → Nat) : Prop := a ≤ 20 ∧ (∀ j, j ≤ a → wfC d (hs j)) ∧ (∀ i, i < hs a 6 → wfK d (ks i))
def xC7 (c : Nat → Nat) (σ : St) : Prop := sI σ 17 = zI (c 0) ∧ sI σ 18 = zI (c 1) ∧ sI σ 19 = zI (c 2) ∧ sA σ 9 0 = zI (c 3) ∧ sA σ 9 1 = zI (c 4) ∧ sA σ 9 2 = zI (c 5) ∧ sI σ 24 = zI (c 6)
def XH (a : Nat) (hs ks : Nat → Nat → Nat) (σ : St) : Prop := sI σ 23 = zI a ∧ xC7 (hs a) σ ∧ (∀ j, j < a → ∃ k : Nat, sA σ 10 j = zI k ∧ sA σ 11 j = zI (hs j (oldI k)) ∧ stp k (hs j) (hs (j + 1)) ∧ (k = 4 → sA σ 12 j = zI (hs (j + 1) 6 - hs j 6 : Nat))) ∧ (∀ i, i < hs a 6 → hs 0 6 ≤ i + 60 → sA σ 13 (i % 700) = zI (kC (ks i)))
def mC (row bl : Nat → Int32) (c : Nat → Nat) (ks : Nat → Nat → Nat) : Prop := (∀ k, k < 6 → row k = zI (c k)) ∧ row 6 = zI (min 60 (c 6) : Nat) ∧ (∀ i j, i < min 60 (c 6) → j < 5 → bl (5 * i + j) = zI (ks (c 6 - min 60 (c 6) + i) j))
def mAt (a w j : Nat) : Nat := (w + 21 + j - a) % 20
def MH (a w : Nat) (hs ks : Nat → Nat → Nat) (σ : St) : Prop := sI σ 26 = zI a ∧ sI σ 27 = zI w ∧ w < 20 ∧ mC (sA σ 11) (sA σ 12) (hs a) ks ∧ (∀ j, j < a → mC (fun k => sA σ 13 (307 * mAt a w j + k)) (fun k => sA σ 13 (307 * mAt a w j + 7 + k)) (hs j) ks)
def rS (d : FD) (σx σm : St) : Prop := ∃ n : Nat, n ≤ 4 ∧ sI σx 0 = zI n ∧ sI σm 28 = zI n ∧ (0 < n → ∃ t : Nat, t < nT d ∧ sI σx 1 = zI t ∧ sI σm 29 = zI t ∧ ∀ k, k < n → sA σx 28 k = sA σm 14 k)
def rT (σx σm : St) : Prop := ∃ n : Nat, n ≤ 1600 ∧ sI σx 3 = zI n ∧ sI σm 0 = zI n ∧ ∀ k, k < n → sA σx 0 k = sA σm 0 k ∧ ∃ b : Nat, b < 256 ∧ sA σm 0 k = zI b
def rF (σx σm : St) : Prop := sI σx 4 = sI σm 6 ∧ sI σx 5 = sI σm 7
def rR (σx σm : St) : Prop := ∀ k, k < 6 → sA σx 30 k = sA σm 1 k
def rI (σx σm : St) : Prop := sI σx 2 = sI σm 30 ∧ (sI σm 30 = zI 0 ∨ sI σm 30 = zI 10) ∧ ∀ k, k < 10 → sA σx 29 k = sA σm 15 k
def rG (σx σm : St) : Prop := ∃ v : Nat, v < 2147483648 ∧ sI σx 22 = zI v ∧ sJ σm 5 = zJ v
def rO (σx : St) : Prop := sA σx 1 = sA rd0 0
/-- the small groups -/
def rQ (σx σm : St) : Prop := rT σx σm ∧ rF σx σm ∧ rR σx σm ∧ rI σx σm ∧ rG σx σm ∧ rO σx
def Rel (σx σm : St) : Prop := rQ σx σm ∧ ∃ d : FD, wfD d ∧ XD d σx ∧ MD d σm ∧ rS d σx σm ∧ ∃ (a w : Nat) (hs ks : Nat → Nat → Nat), wfH d a hs ks ∧ XH a hs ks σx ∧ MH a w hs ks σm
/-- all that is told of X's state is the same -/
def eX (σ σ' : St) : Prop := (sI σ' 0 = sI σ 0 ∧ sI σ' 1 = sI σ 1 ∧ sI σ' 2 = sI σ 2 ∧ sI σ' 3 = sI σ 3 ∧ sI σ' 4 = sI σ 4 ∧ sI σ' 5 = sI σ 5 ∧ sI σ' 17 = sI σ 17 ∧ sI σ' 18 = sI σ 18 ∧ sI σ' 19 = sI σ 19 ∧ sI σ' 22 = sI σ 22 ∧ sI σ' 23 = sI σ 23 ∧ sI σ' 24 = sI σ 24 ∧ sI σ' 53 = sI σ 53 ∧ sI σ' 54 = sI σ 54 ∧ sI σ' 55 = sI σ 55) ∧ (sA σ' 0 = sA σ 0 ∧ sA σ' 1 = sA σ 1 ∧ sA σ' 9 = sA σ 9 ∧ sA σ' 10 = sA σ 10 ∧ sA σ' 11 = sA σ 11 ∧ sA σ' 12 = sA σ 12 ∧ sA σ' 13 = sA σ 13 ∧ sA σ' 21 = sA σ 21 ∧ sA σ' 22 = sA σ 22 ∧ sA σ' 23 = sA σ 23 ∧ sA σ' 24 = sA σ 24 ∧ sA σ' 25 = sA σ 25 ∧ sA σ' 26 = sA σ 26 ∧ sA σ' 27 = sA σ 27 ∧ sA σ' 28 = sA σ 28 ∧ sA σ' 29 = sA σ 29 ∧ sA σ' 30 = sA σ 30)
theorem eX_r (σ : St) : eX σ σ := ⟨⟨rfl, rfl, rfl, rfl, rfl, rfl, rfl, rfl, rfl, rfl, rfl, rfl, rfl, rfl, rfl⟩, rfl, rfl, rfl, rfl, rfl, rfl, rfl, rfl, rfl, rfl, rfl, rfl, rfl, rfl, rfl, rfl, rfl⟩
theorem eX_t {σ σ1 σ2 : St} (h : eX σ σ1) (h2 : eX σ1 σ2) : eX σ σ2 := by
  obtain ⟨⟨a0, a1, a2, a3, a4, a5, a17, a18, a19, a22, a23, a24, a53, a54, a55⟩, b0, b1, b9, b10, b11, b12, b13, b21, b22, b23, b24, b25, b26, b27, b28, b29, b30⟩ := h2
  unfold eX
  rw [a0, a1, a2, a3, a4, a5, a17, a18, a19, a22, a23, a24, a53, a54, a55, b0, b1, b9, b10, b11, b12, b13, b21, b22, b23, b24, b25, b26, b27, b28, b29, b30]
  exact h
theorem Rel_eX {σ σ' σm : St} (h : Rel σ σm) (h2 : eX σ σ') : Rel σ' σm := by
  obtain ⟨⟨a0, a1, a2, a3, a4, a5, a17, a18, a19, a22, a23, a24, a53, a54, a55⟩, b0, b1, b9, b10, b11, b12, b13, b21, b22, b23, b24, b25, b26, b27, b28, b29, b30⟩ := h2
  simp only [Rel, rQ, rT, rF, rR, rI, rG, rO, XD, rS, XH, xC7, a0, a1, a2, a3, a4, a5, a17, a18, a19, a22, a23, a24, a53, a54, a55, b0, b1, b9, b10, b11, b12, b13, b21, b22, b23, b24, b25, b26, b27, b28, b29, b30]
  simp only [Rel, rQ, rT, rF, rR, rI, rG, rO, XD, rS, XH, xC7] at h
  exact h
/-- all that is told of M's state is the same -/
def eM (σ σ' : St) : Prop := (sI σ' 0 = sI σ 0 ∧ sI σ' 6 = sI σ 6 ∧ sI σ' 7 = sI σ 7 ∧ sI σ' 26 = sI σ 26 ∧ sI σ' 27 = sI σ 27 ∧ sI σ' 28 = sI σ 28 ∧ sI σ' 29 = sI σ 29 ∧ sI σ' 30 = sI σ 30 ∧ sJ σ' 5 = sJ σ 5) ∧ (sA σ' 0 = sA σ 0 ∧ sA σ' 1 = sA σ 1 ∧ sA σ' 11 = sA σ 11 ∧ sA σ' 12 = sA σ 12 ∧ sA σ' 13 = sA σ 13 ∧ sA σ' 14 = sA σ 14 ∧ sA σ' 15 = sA σ 15) ∧ (sA σ' 2 3 = sA σ 2 3 ∧ sA σ' 2 4 = sA σ 2 4 ∧ sA σ' 2 5 = sA σ 2 5 ∧ (∀ k, sA σ' 3 (6 + k) = sA σ 3 (6 + k)) ∧ (∀ k, sA σ' 4 (48 + k) = sA σ 4 (48 + k)) ∧ (∀ k, sA σ' 5 (if k = 0 then 11 else 12 + k) = sA σ 5 (if k = 0 then 11 else 12 + k)) ∧ (∀ k, sA σ' 6 (1600 + k) = sA σ 6 (1600 + k)) ∧ (∀ k, sA σ' 8 (6 + k) = sA σ 8 (6 + k)) ∧ (∀ k, sA σ' 9 (6 + k) = sA σ 9 (6 + k)) ∧ (∀ k, sB σ' 0 (16 + k) = sB σ 0 (16 + k)) ∧ (∀ k, sB σ' 0 (24 + k) = sB σ 0 (24 + k)))
theorem eM_r (σ : St) : eM σ σ := ⟨⟨rfl, rfl, rfl, rfl, rfl, rfl, rfl, rfl, rfl⟩, ⟨rfl, rfl, rfl, rfl, rfl, rfl, rfl⟩, rfl, rfl, rfl, fun _ => rfl, fun _ => rfl, fun _ => rfl, fun _ => rfl, fun _ => rfl, fun _ => rfl, fun _ => rfl, fun _ => rfl⟩
theorem eM_t {σ σ1 σ2 : St} (h : eM σ σ1) (h2 : eM σ1 σ2) : eM σ σ2 := by
  obtain ⟨⟨a0, a6, a7, a26, a27, a28, a29, a30, j5⟩, ⟨b0, b1, b11, b12, b13, b14, b15⟩, b23, b24, b25, b3, b4, b5, b6, b8, b9, c0, c1⟩ := h2
  simp only [eM, a0, a6, a7, a26, a27, a28, a29, a30, j5, b0, b1, b11, b12, b13, b14, b15, b23, b24, b25, b3, b4, b5, b6, b8, b9, c0, c1]
  exact h
theorem Rel_eM {σx σ σ' : St} (h : Rel σx σ) (h2 : eM σ σ') : Rel σx σ' := by
  obtain ⟨⟨a0, a6, a7, a26, a27, a28, a29, a30, j5⟩, ⟨b0, b1, b11, b12, b13, b14, b15⟩, b23, b24, b25, b3, b4, b5, b6, b8, b9, c0, c1⟩ := h2
  simp only [Rel, rQ, rT, rF, rR, rI, rG, rO, MD, rS, MH, a0, a6, a7, a26, a27, a28, a29, a30, j5, b0, b1, b11, b12, b13, b14, b15, b23, b24, b25, b3, b4, b5, b6, b8, b9, c0, c1]
  simp only [Rel, rQ, rT, rF, rR, rI, rG, rO, MD, rS, MH] at h
  exact h
