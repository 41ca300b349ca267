-- ===== the tree of all slips =====
noncomputable def lT (d : FD) (c : Nat → Nat) (fo t cr k last : Nat) : Nat := lB d c fo t cr k last 0
noncomputable def hT (d : FD) (c : Nat → Nat) (fo be t cr k last o : Nat) : Nat := hG be (c 4) (tV d t 0) (tV d t 2) k o (lT d c fo t cr k last)
noncomputable def crT (d : FD) (c : Nat → Nat) (fo be t cr k last o : Nat) : Nat := min 999 (cr + bR d be (hT d c fo be t cr k last o))
def oneIf (be h : Nat) : Nat := if be ≤ h then 1 else 0
/-- the sum over all rows of slips -/
noncomputable def TS (d : FD) (c : Nat → Nat) (fo be t : Nat) (val : Nat → Nat → Nat → Nat → Nat) : Nat → Nat → Nat → Nat → Nat → Nat → Nat
  | 0, k, cr, _, rg, lf => val k cr rg lf
  | m + 1, k, cr, last, rg, lf => @ite Nat (gO d c be t k last) (Classical.propDecidable _) (sm (fun o => TS d c fo be t val m (k + 1) (crT d c fo be t cr k last o) (hT d c fo be t cr k last o) (rg + oneIf be (hT d c fo be t cr k last o)) (max lf (lT d c fo t cr k last))) (tV d t 1 + 1) 0) (val k cr rg lf * (tV d t 1 + 1) ^ (m + 1))
/-- what one row brings -/
noncomputable def PV (d : FD) (c : Nat → Nat) (fo be t : Nat) (val : Nat → Nat → Nat → Nat → Nat) : Nat → Nat → Nat → Nat → Nat → Nat → Nat → Nat
  | 0, k, cr, _, rg, lf, _ => val k cr rg lf
  | m + 1, k, cr, last, rg, lf, r => @ite Nat (gO d c be t k last) (Classical.propDecidable _) (PV d c fo be t val m (k + 1) (crT d c fo be t cr k last (r % (tV d t 1 + 1))) (hT d c fo be t cr k last (r % (tV d t 1 + 1))) (rg + oneIf be (hT d c fo be t cr k last (r % (tV d t 1 + 1)))) (max lf (lT d c fo t cr k last)) (r / (tV d t 1 + 1))) (val k cr rg lf)
section
variable {d : FD} {c : Nat → Nat} {fo be t : Nat} {val : Nat → Nat → Nat → Nat → Nat}
theorem TS_g {m k cr last rg lf : Nat} (h : gO d c be t k last) : TS d c fo be t val (m + 1) k cr last rg lf = sm (fun o => TS d c fo be t val m (k + 1) (crT d c fo be t cr k last o) (hT d c fo be t cr k last o) (rg + oneIf be (hT d c fo be t cr k last o)) (max lf (lT d c fo t cr k last))) (tV d t 1 + 1) 0 := if_pos h
theorem TS_n {m k cr last rg lf : Nat} (h : ¬ gO d c be t k last) : TS d c fo be t val (m + 1) k cr last rg lf = val k cr rg lf * (tV d t 1 + 1) ^ (m + 1) := if_neg h
theorem PV_g {m k cr last rg lf r : Nat} (h : gO d c be t k last) : PV d c fo be t val (m + 1) k cr last rg lf r = PV d c fo be t val m (k + 1) (crT d c fo be t cr k last (r % (tV d t 1 + 1))) (hT d c fo be t cr k last (r % (tV d t 1 + 1))) (rg + oneIf be (hT d c fo be t cr k last (r % (tV d t 1 + 1)))) (max lf (lT d c fo t cr k last)) (r / (tV d t 1 + 1)) := if_pos h
theorem PV_n {m k cr last rg lf r : Nat} (h : ¬ gO d c be t k last) : PV d c fo be t val (m + 1) k cr last rg lf r = val k cr rg lf := if_neg h
end
theorem sm_congr {f g : Nat → Nat} : ∀ n u, (∀ k, u ≤ k → k < u + n → f k = g k) → sm f n u = sm g n u := by
  intro n
  induction n with
  | zero => intro u _; rfl
  | succ n ih =>
    intro u h
    show f u + sm f n (u + 1) = g u + sm g n (u + 1)
    rw [h u (by omega) (by omega), ih (u + 1) (fun k h1 h2 => h k (by omega) (by omega))]
theorem sm_last (f : Nat → Nat) : ∀ n u, sm f (n + 1) u = sm f n u + f (u + n) := by
  intro n
  induction n with
  | zero => intro u; show f u + 0 = 0 + f (u + 0); rw [Nat.add_zero, Nat.add_zero, Nat.zero_add]
  | succ n ih =>
    intro u
    show f u + sm f (n + 1) (u + 1) = f u + sm f n (u + 1) + f (u + (n + 1))
    rw [ih (u + 1)]
    have e : u + 1 + n = u + (n + 1) := by omega
    rw [e, Nat.add_assoc]
theorem sm_plus (f : Nat → Nat) (n : Nat) : ∀ m u, sm f (n + m) u = sm f n u + sm f m (u + n) := by
  intro m
  induction m with
  | zero => intro u; rfl
  | succ m ih =>
    intro u
    rw [← Nat.add_assoc, sm_last, ih u, sm_last, Nat.add_assoc, ← Nat.add_assoc u n m]
theorem sm_shift (f : Nat → Nat) : ∀ n u v, sm f n (u + v) = sm (fun k => f (k + v)) n u := by
  intro n
  induction n with
  | zero => intro u v; rfl
  | succ n ih =>
    intro u v
    show f (u + v) + sm f n (u + v + 1) = f (u + v) + sm (fun k => f (k + v)) n (u + 1)
    have e : u + v + 1 = u + 1 + v := by omega
    rw [e, ih (u + 1) v]
theorem sm_const (x : Nat) : ∀ n u, sm (fun _ => x) n u = n * x := by
  intro n
  induction n with
  | zero => intro u; exact (Nat.zero_mul x).symm
  | succ n ih =>
    intro u
    show x + sm (fun _ => x) n (u + 1) = (n + 1) * x
    rw [ih (u + 1), Nat.succ_mul, Nat.add_comm]
theorem sm_mod (g : Nat → Nat → Nat) {B : Nat} (hB : 0 < B) : ∀ n, sm (fun r => g (r % B) (r / B)) (B * n) 0 = sm (fun o => sm (g o) n 0) B 0 := by
  intro n
  induction n with
  | zero =>
    rw [Nat.mul_zero]
    exact (sm_0 B 0).symm
  | succ n ih =>
    rw [Nat.mul_succ, sm_plus, ih, Nat.zero_add]
    have e1 : sm (fun r => g (r % B) (r / B)) B (B * n) = sm (fun o => g o n) B 0 := by
      have := sm_shift (fun r => g (r % B) (r / B)) B 0 (B * n)
      rw [Nat.zero_add] at this
      rw [this]
      refine sm_congr B 0 (fun k _ hk => ?_)
      show g ((k + B * n) % B) ((k + B * n) / B) = g k n
      rw [Nat.add_mul_mod_self_left, Nat.add_mul_div_left _ _ hB, Nat.mod_eq_of_lt (by omega), Nat.div_eq_of_lt (by omega), Nat.zero_add]
    have e2 : (fun o => sm (g o) (n + 1) 0) = (fun o => sm (g o) n 0 + g o n) := by
      funext o
      rw [sm_last, Nat.zero_add]
    rw [e1, e2, sm_add]
section
variable {d : FD} {c : Nat → Nat} {fo be t : Nat} {val : Nat → Nat → Nat → Nat → Nat}
theorem PV_sum : ∀ m k cr last rg lf, sm (PV d c fo be t val m k cr last rg lf) ((tV d t 1 + 1) ^ m) 0 = TS d c fo be t val m k cr last rg lf := by
  intro m
  induction m with
  | zero =>
    intro k cr last rg lf
    show val k cr rg lf + 0 = val k cr rg lf
    rfl
  | succ m ih =>
    intro k cr last rg lf
    rcases gO_d d c be t k last with g | g
    · rw [TS_g g, Nat.pow_succ, Nat.mul_comm]
      have e : (fun r => PV d c fo be t val (m + 1) k cr last rg lf r) = (fun r => (fun o s => PV d c fo be t val m (k + 1) (crT d c fo be t cr k last o) (hT d c fo be t cr k last o) (rg + oneIf be (hT d c fo be t cr k last o)) (max lf (lT d c fo t cr k last)) s) (r % (tV d t 1 + 1)) (r / (tV d t 1 + 1))) := by
        funext r
        exact PV_g g
      have e' : PV d c fo be t val (m + 1) k cr last rg lf = _ := e
      rw [e']
      exact (sm_mod (fun o s => PV d c fo be t val m (k + 1) (crT d c fo be t cr k last o) (hT d c fo be t cr k last o) (rg + oneIf be (hT d c fo be t cr k last o)) (max lf (lT d c fo t cr k last)) s) (show 0 < tV d t 1 + 1 by omega) ((tV d t 1 + 1) ^ m)).trans (sm_congr _ 0 (fun o _ _ => ih _ _ _ _ _))
    · have e : PV d c fo be t val (m + 1) k cr last rg lf = (fun _ => val k cr rg lf) := by
        funext r
        exact PV_n g
      rw [e, TS_n g, sm_const, Nat.mul_comm]
end
-- ===== M's rows =====
/-- the four sums and two bounds -/
def mR (J1 J2 J3 J4 f g : Nat) (σ : St) : Prop := sJ σ 1 = zJ J1 ∧ sJ σ 2 = zJ J2 ∧ sJ σ 3 = zJ J3 ∧ sJ σ 4 = zJ J4 ∧ sI σ 24 = zI f ∧ sI σ 25 = zI g
theorem mR_o {J1 J2 J3 J4 f g : Nat} {I A B : List Nat} {σ σ' : St} (h : mR J1 J2 J3 J4 f g σ) (o : oS I [] A B σ σ') (h24 : 24 ∉ I) (h25 : 25 ∉ I) : mR J1 J2 J3 J4 f g σ' := by
  unfold mR
  rw [o.2.1 1 (by simp), o.2.1 2 (by simp), o.2.1 3 (by simp), o.2.1 4 (by simp), o.1 24 h24, o.1 25 h25]
  exact h
def vRg : Nat → Nat → Nat → Nat → Nat := fun _ _ rg _ => rg
def vK : Nat → Nat → Nat → Nat → Nat := fun k _ _ _ => k
def vCr : Nat → Nat → Nat → Nat → Nat := fun _ cr _ _ => cr
def vLf : Nat → Nat → Nat → Nat → Nat := fun _ _ _ lf => lf
section
variable {d : FD} {c : Nat → Nat} {fo be t : Nat}
theorem row_loop {x5 : Nat} (hw : wfD d) (ht : t < nT d) (hfo : fo < 64) (hp : c 5 ≤ 9) (hsl : c 4 ≤ 90) (hb : be ≤ 99) (K : Int32 → Int32 → Int32 → St → Option St) :
    ∀ (m k cr last rg lf r q J1 J2 J3 J4 f g : Nat) (σ : St), k + m = sV d 0 → m < q → r < 2000000 → mT d c fo be cr k last rg ((tV d t 3 : Int) - ((k * c 5 : Nat) : Int)) σ → sI σ 23 = zI lf → lf ≤ 1 → (rg = 0 ∨ (rg = 1 ∧ be ≤ last ∧ 0 < k)) → cr ≤ 999 → last ≤ 99 → mR J1 J2 J3 J4 f g σ → f ≤ 4 → g ≤ 4 →
      ∃ σ1, f_M_grows_123 K q (zI t) (zI (tV d t 1 + 1 : Nat)) (zI x5) (zI r) σ = K (zI t) (zI (tV d t 1 + 1 : Nat)) (zI (x5 + 1 : Nat)) σ1 ∧ oS [14, 17, 18, 19, 20, 21, 22, 23, 24, 25] [1, 2, 3, 4] [10] [1] σ σ1 ∧ mR (J1 + PV d c fo be t vRg m k cr last rg lf r) (J2 + PV d c fo be t vK m k cr last rg lf r * c 5) (J3 + PV d c fo be t vLf m k cr last rg lf r) (J4 + PV d c fo be t vCr m k cr last rg lf r) (min f (PV d c fo be t vK m k cr last rg lf r)) (max g (PV d c fo be t vK m k cr last rg lf r)) σ1 ∧ PV d c fo be t vK m k cr last rg lf r ≤ 4 := by
  obtain ⟨t1, t2, t3, t4, t5, t6, t7⟩ := hw.2.2.2.2.1 t ht
  have hS := hw.2.2.2.2.2.1
  have s2 := hS.2.1
  intro m
  -- the end of a row
  have stop : ∀ (k cr last rg lf r q J1 J2 J3 J4 f g : Nat) (σ : St), k ≤ sV d 0 → 0 < q → mT d c fo be cr k last rg ((tV d t 3 : Int) - ((k * c 5 : Nat) : Int)) σ → sI σ 23 = zI lf → lf ≤ 1 → rg ≤ 1 → cr ≤ 999 → last ≤ 99 → mR J1 J2 J3 J4 f g σ → f ≤ 4 → g ≤ 4 → ¬ gO d c be t k last → ∃ σ1, f_M_grows_123 K q (zI t) (zI (tV d t 1 + 1 : Nat)) (zI x5) (zI r) σ = K (zI t) (zI (tV d t 1 + 1 : Nat)) (zI (x5 + 1 : Nat)) σ1 ∧ oS [14, 17, 18, 19, 20, 21, 22, 23, 24, 25] [1, 2, 3, 4] [10] [1] σ σ1 ∧ mR (J1 + rg) (J2 + k * c 5) (J3 + lf) (J4 + cr) (min f k) (max g k) σ1 := by
    intro k cr last rg lf r q J1 J2 J3 J4 f g σ h1 h2 hM h23 hlf hrg hcr hl hR hf hg hn
    obtain ⟨q, rfl⟩ : ∃ r, q = r + 1 := ⟨q - 1, by omega⟩
    have MS := (m_strikes hw ht hM hp hb h1 hl).2 hn
    obtain ⟨hd, ⟨e15, e16, e17, e18, e19, e20, e21⟩, e4, e5⟩ := hM
    obtain ⟨r1, r2, r3, r4, r24, r25⟩ := hR
    have kp := kp_b (k := k) (p := c 5) (by omega) hp
    show ∃ σ1, f_M_grows_123b K (f_M_grows_123 K q) (zI t) (zI (tV d t 1 + 1 : Nat)) (zI x5) (zI r) σ = _ ∧ _
    unfold f_M_grows_123b
    have a1 : ∀ v, sJ (uJ σ 1 v) 2 = zJ J2 := fun v => r2
    have a2 : ∀ v, sI (uJ σ 1 v) 20 = zI k := fun v => e20
    have a3 : ∀ v, sA (uJ σ 1 v) 11 5 = zI (c 5) := fun v => e5
    have a4 : ∀ v u, sJ (uJ (uJ σ 1 v) 2 u) 4 = zJ J4 := fun v u => r4
    have a5 : ∀ v u, sI (uJ (uJ σ 1 v) 2 u) 17 = zI cr := fun v u => e17
    have a6 : ∀ v u w, sI (uJ (uJ (uJ σ 1 v) 2 u) 4 w) 23 = zI lf := fun v u w => h23
    have a7 : ∀ v u w, sJ (uJ (uJ (uJ σ 1 v) 2 u) 4 w) 3 = zJ J3 := fun v u w => r3
    rw [MS, bp_s, if_pos rfl, r1, e18, zJ_w (by omega) (by omega), zJ_add, ← Int.natCast_add, lt_s', cl5, a1, a2, a3, zI_mul, ← Int.natCast_mul, zJ_w (by omega) (by omega), zJ_add, ← Int.natCast_add, lt_s', a4, a5, zJ_w (by omega) (by omega), zJ_add, ← Int.natCast_add, lt_s', a6, a7]
    -- the bounds
    have fin : ∀ τ, oS [14, 17, 18, 19, 20, 21, 22, 23, 24, 25] [1, 2, 3, 4] [10] [1] σ τ → sI τ 20 = zI k → mR (J1 + rg) (J2 + k * c 5) (J3 + lf) (J4 + cr) f g τ → ∃ σ1, f_M_grows_217 K (zI t) (zI (tV d t 1 + 1 : Nat)) (zI x5) τ = K (zI t) (zI (tV d t 1 + 1 : Nat)) (zI (x5 + 1 : Nat)) σ1 ∧ oS [14, 17, 18, 19, 20, 21, 22, 23, 24, 25] [1, 2, 3, 4] [10] [1] σ σ1 ∧ mR (J1 + rg) (J2 + k * c 5) (J3 + lf) (J4 + cr) (min f k) (max g k) σ1 := by
      intro τ o b20 hb
      obtain ⟨b1, b2, b3, b4, b24, b25⟩ := hb
      have fin2 : ∀ τ', oS [14, 17, 18, 19, 20, 21, 22, 23, 24, 25] [1, 2, 3, 4] [10] [1] σ τ' → sI τ' 20 = zI k → mR (J1 + rg) (J2 + k * c 5) (J3 + lf) (J4 + cr) (min f k) g τ' → ∃ σ1, f_M_grows_236 K (zI t) (zI (tV d t 1 + 1 : Nat)) (zI x5) τ' = K (zI t) (zI (tV d t 1 + 1 : Nat)) (zI (x5 + 1 : Nat)) σ1 ∧ oS [14, 17, 18, 19, 20, 21, 22, 23, 24, 25] [1, 2, 3, 4] [10] [1] σ σ1 ∧ mR (J1 + rg) (J2 + k * c 5) (J3 + lf) (J4 + cr) (min f k) (max g k) σ1 := by
        intro τ' o' c20 hb'
        obtain ⟨d1, d2, d3, d4, d24, d25⟩ := hb'
        unfold f_M_grows_236
        rw [c20, d25, zS]
        by_cases q1 : k ≤ g
        · rw [if_pos (by rw [zI_le (by omega) (by omega) (by omega) (by omega)]; omega), lt_s', Nat.max_eq_left q1]
          exact ⟨_, rfl, o', d1, d2, d3, d4, d24, d25⟩
        · rw [if_neg (by rw [zI_le (by omega) (by omega) (by omega) (by omega)]; omega), lt_s', lt_s', Nat.max_eq_right (by omega)]
          exact ⟨_, rfl, oS_uI (by decide) o', d1, d2, d3, d4, d24, rfl⟩
      unfold f_M_grows_217
      rw [b20, b24]
      by_cases q1 : f ≤ k
      · rw [if_pos (by rw [zI_le (by omega) (by omega) (by omega) (by omega)]; omega)]
        exact fin2 τ o b20 ⟨b1, b2, b3, b4, by rw [Nat.min_eq_left q1]; exact b24, b25⟩
      · rw [if_neg (by rw [zI_le (by omega) (by omega) (by omega) (by omega)]; omega), lt_s']
        exact fin2 _ (oS_uI (by decide) o) b20 ⟨b1, b2, b3, b4, by rw [Nat.min_eq_right (by omega)]; rfl, b25⟩
    have o3 : oS [14, 17, 18, 19, 20, 21, 22, 23, 24, 25] [1, 2, 3, 4] [10] [1] σ (uJ (uJ (uJ σ 1 (zJ (J1 + rg : Nat))) 2 (zJ (J2 + k * c 5 : Nat))) 4 (zJ (J4 + cr : Nat))) := oS_uJ (by decide) (oS_uJ (by decide) (oS_uJ (by decide) oS_r))
    rcases (show lf = 0 ∨ lf = 1 by omega) with rfl | rfl
    · rw [if_pos (by decide)]
      exact fin _ o3 e20 ⟨rfl, rfl, r3, rfl, r24, r25⟩
    · rw [if_neg (by decide), zJ_lit, zJ_add, lt_s']
      exact fin _ (oS_uJ (by decide) o3) e20 ⟨rfl, rfl, rfl, rfl, r24, r25⟩
  induction m with
  | zero =>
    intro k cr last rg lf r q J1 J2 J3 J4 f g σ h1 h2 hr hM h23 hlf hrg hcr hl hR hf hg
    obtain ⟨σ1, a, b, e⟩ := stop k cr last rg lf r q J1 J2 J3 J4 f g σ (by omega) h2 hM h23 hlf (by omega) hcr hl hR hf hg (fun h => by have := h.1; omega)
    exact ⟨σ1, a, b, e, by show k ≤ 4; omega⟩
  | succ m ih =>
    intro k cr last rg lf r q J1 J2 J3 J4 f g σ h1 h2 hr hM h23 hlf hrg hcr hl hR hf hg
    rcases gO_d d c be t k last with hgo | hgo
    · have hrg0 : rg = 0 := by
        obtain ⟨g1, g2, g3⟩ := hgo
        rcases hrg with e | ⟨e1, e2⟩
        · exact e
        · omega
      subst hrg0
      obtain ⟨q, rfl⟩ : ∃ r, q = r + 1 := ⟨q - 1, by omega⟩
      have hmod : r % (tV d t 1 + 1) < tV d t 1 + 1 := Nat.mod_lt _ (by omega)
      have MS := (m_strikes hw ht hM hp hb (by omega) hl).1 hgo
      obtain ⟨τ1, b1, b2, b3, b4, b5⟩ := m_blow (o := r % (tV d t 1 + 1)) (lt0 := lf) hw ht hM h23 hlf hfo hp hsl hb hcr (by omega) (by omega) hl hgo
      have hdiv : r / (tV d t 1 + 1) ≤ r := Nat.div_le_self _ _
      have lb := lB_b (d := d) (c := c) (fo := fo) (t := t) (cr := cr) (k := k) (last := last) (rg := 0)
      have hhb := hG_b (be := be) (sl := c 4) (f := tV d t 0) (ti := tV d t 2) (k := k) (o := r % (tV d t 1 + 1)) (l := lB d c fo t cr k last 0)
      obtain ⟨σ1, u1, u2, u3, u4⟩ := ih (k + 1) (crT d c fo be t cr k last (r % (tV d t 1 + 1))) (hT d c fo be t cr k last (r % (tV d t 1 + 1))) (0 + oneIf be (hT d c fo be t cr k last (r % (tV d t 1 + 1)))) (max lf (lT d c fo t cr k last)) (r / (tV d t 1 + 1)) q J1 J2 J3 J4 f g τ1 (by omega) (by omega) (by omega) b3 b5 (by unfold lT; omega) (by
        unfold oneIf
        by_cases qq : be ≤ hT d c fo be t cr k last (r % (tV d t 1 + 1))
        · rw [if_pos qq]
          exact .inr ⟨rfl, qq, by omega⟩
        · rw [if_neg qq]
          exact .inl rfl) (by unfold crT; omega) (by show hG _ _ _ _ _ _ _ ≤ 99; exact Nat.le_trans hhb hb) (mR_o hR b2 (by decide) (by decide)) hf hg
      refine ⟨σ1, ?_, oS_t (oS_w b2 (by decide) (by decide) (by decide) (by decide)) u2, ?_, ?_⟩
      · show f_M_grows_123b K (f_M_grows_123 K q) (zI t) (zI (tV d t 1 + 1 : Nat)) (zI x5) (zI r) σ = _
        unfold f_M_grows_123b
        rw [MS, bp_s, if_neg (by decide), nz_z (by omega) (by omega) (by omega), gd_t, zI_rem (by omega) (by omega) (by omega) (by omega), ← Int.natCast_emod, b1, bp_s, gd_t, zdn (by omega) (by omega) (by omega), lt_s']
        exact u1
      · rw [PV_g hgo, PV_g hgo, PV_g hgo, PV_g hgo]
        exact u3
      · rw [PV_g hgo]
        exact u4
    · obtain ⟨σ1, a, b, e⟩ := stop k cr last rg lf r q J1 J2 J3 J4 f g σ (by omega) (by omega) hM h23 hlf (by omega) hcr hl hR hf hg hgo
      refine ⟨σ1, a, b, ?_, ?_⟩
      · rw [PV_n hgo, PV_n hgo, PV_n hgo, PV_n hgo]
        exact e
      · rw [PV_n hgo]
        show k ≤ 4
        omega
end
