-- ===== tree =====
theorem rows_split {B m : Nat} (hB : 0 < B) {P : Nat → Nat → Prop} : (∀ r, r < B ^ (m + 1) → P (r % B) (r / B)) ↔ (∀ o, o < B → ∀ r, r < B ^ m → P o r) := by
  constructor
  · intro h o ho r hr
    have h1 : r * B + o < B ^ (m + 1) := by
      rw [Nat.pow_succ]
      have : (r + 1) * B ≤ B ^ m * B := Nat.mul_le_mul_right B hr
      rw [Nat.succ_mul] at this
      omega
    have := h (r * B + o) h1
    rw [Nat.add_comm, Nat.add_mul_mod_self_right, Nat.mod_eq_of_lt ho, Nat.add_mul_div_right _ _ hB, Nat.div_eq_of_lt ho, Nat.zero_add] at this
    exact this
  · intro h r hr
    refine h _ (Nat.mod_lt _ hB) _ ?_
    rw [Nat.div_lt_iff_lt_mul hB, ← Nat.pow_succ]
    exact hr
section
variable {d : FD} {c : Nat → Nat} {fo be t : Nat}
theorem go_all {U : Nat} (hw : wfD d) (ht : t < nT d) (hfo : fo < 2 ^ nR d) (hp : c 5 ≤ 9) (hsl : c 4 ≤ 90) (hb : be ≤ 99) : ∀ m, GO d c fo be t U m := by
  have hTt := hw.2.2.2.2.1 t ht
  obtain ⟨t1, t2, t3, t4, t5, t6, t7⟩ := hw.2.2.2.2.1 t ht
  have hS := hw.2.2.2.2.2.1
  have s2 := hS.2.1
  -- where he does not strike
  have leaf : ∀ (m dep k cr last rg lf J0 J1 J2 J3 f g : Nat) (σ : St), m < dep → k + m = sV d 0 → xL 40 17 d c t be σ → cr ≤ 999 → last ≤ 99 → U * (tV d t 1 + 1) ^ m ≤ 12960000 → xR J0 J1 J2 J3 f g σ → f ≤ 4 → g ≤ 4 → ¬ gO d c be t k last → (∀ v, TS d c fo be t v m k cr last rg lf = v k cr rg lf * (tV d t 1 + 1) ^ m) → (∀ r, PV d c fo be t vK m k cr last rg lf r = k) →
      ∃ (K0 K1 K2 f' g' : Nat) (σ1 : St), f_Tree_goOn dep (zI fo) (zI k) (zI cr) (zI last) (zJ (U * (tV d t 1 + 1) ^ m : Nat)) (zI lf) σ = some σ1 ∧ oS [37, 38] [0, 1, 2, 3] [18, 19] [] σ σ1 ∧ xR K0 K1 K2 (J3 + U * TS d c fo be t vCr m k cr last rg lf) f' g' σ1 ∧ K0 + U * (rg * (tV d t 1 + 1) ^ m) = J0 + U * TS d c fo be t vRg m k cr last rg lf ∧ K1 + U * (k * (tV d t 1 + 1) ^ m) = J1 + U * TS d c fo be t vK m k cr last rg lf ∧ K2 + U * (lf * (tV d t 1 + 1) ^ m) = J2 + U * TS d c fo be t vLf m k cr last rg lf ∧ (∀ x, x ≤ f' ↔ (x ≤ f ∧ ∀ r, r < (tV d t 1 + 1) ^ m → x ≤ PV d c fo be t vK m k cr last rg lf r)) ∧ (∀ x, g' ≤ x ↔ (g ≤ x ∧ ∀ r, r < (tV d t 1 + 1) ^ m → PV d c fo be t vK m k cr last rg lf r ≤ x)) ∧ f' ≤ 4 ∧ g' ≤ 4 := by
    intro m dep k cr last rg lf J0 J1 J2 J3 f g σ h1 h2 hL hcr hl hU hR hf hg hn hTS hPV
    obtain ⟨σ1, a1, a2, a3⟩ := go_leaf (fo := fo) (lf := lf) (dep := dep) hw ht hp hb (by omega) h2 hL hcr hl hU hR hf hg hn
    have hpos : 0 < (tV d t 1 + 1) ^ m := Nat.pow_pos (by omega)
    refine ⟨J0, J1, J2, min f k, max g k, σ1, a1, a2, ?_, ?_, ?_, ?_, fun x => ?_, fun x => ?_, by omega, by omega⟩
    · rw [hTS]
      exact a3
    · rw [hTS]
      rfl
    · rw [hTS]
      rfl
    · rw [hTS]
      rfl
    · constructor
      · intro h
        exact ⟨by omega, fun r _ => by rw [hPV]; omega⟩
      · intro h
        have := h.2 0 hpos
        rw [hPV] at this
        omega
    · constructor
      · intro h
        exact ⟨by omega, fun r _ => by rw [hPV]; omega⟩
      · intro h
        have := h.2 0 hpos
        rw [hPV] at this
        omega
  intro m
  induction m with
  | zero =>
    intro dep k cr last rg lf J0 J1 J2 J3 f g σ h1 h2 hx hL hcr hl hlf hU hR hf hg
    exact leaf 0 dep k cr last rg lf J0 J1 J2 J3 f g σ h1 h2 hL hcr hl hU hR hf hg (fun h => by have := h.1; omega) (fun v => (Nat.mul_one _).symm) (fun r => rfl)
  | succ m ih =>
    intro dep k cr last rg lf J0 J1 J2 J3 f g σ h1 h2 hx hL hcr hl hlf hU hR hf hg
    rcases gO_d d c be t k last with hgo | hgo
    · obtain ⟨dep, rfl⟩ : ∃ q, dep = q + 1 := ⟨dep - 1, by omega⟩
      have XS := (x_goesOn (k := k) (last := last) hL hTt hS hp hb (by omega) hl).1 hgo
      obtain ⟨f1, f2, hlean⟩ := x_leanNow (cr := cr) hw hx ht hL hfo hp hcr hl hgo
      have lb : lT d c fo t cr k last ≤ 1 := lB_b
      have epow : (tV d t 1 + 1) ^ (m + 1) = (tV d t 1 + 1) ^ m * (tV d t 1 + 1) := by rw [Nat.pow_succ]
      have hU' : U * (tV d t 1 + 1) ^ m ≤ 12960000 := by
        refine Nat.le_trans ?_ hU
        rw [epow]
        exact Nat.mul_le_mul_left U (Nat.le_mul_of_pos_right _ (by omega))
      have o1 : oS [37, 38] [0, 1, 2, 3] [18, 19] [] σ (uA (uA σ 18 f1) 19 f2) := oS_uA (by decide) (oS_uA (by decide) oS_r)
      obtain ⟨r0, r1, r2, r3, r37, r38⟩ := hR
      have e4 : (4 : Int32) = zI (4 : Nat) := rfl
      -- share
      have share : ∀ τ, sI τ 41 = zI (tV d t 1) → f_Tree_shareOf (zJ (U * (tV d t 1 + 1) ^ (m + 1) : Nat)) τ = some (zJ (U * (tV d t 1 + 1) ^ m : Nat)) := by
        intro τ h41
        unfold f_Tree_shareOf
        have e0 : (0 : Int32) = zI (0 : Nat) := rfl
        rw [h41, zS, lt_s', e0, if_pos (by rw [zI_lt (by omega) (by omega) (by omega) (by omega)]; omega), zJ_w (by omega) (by omega), nzJ_z (by omega) (by omega) (by omega), gd_t, zJ_div (by omega) (by omega) (by omega) (by omega), ← Int.natCast_ediv, epow, ← Nat.mul_assoc, Nat.mul_div_cancel _ (by omega)]
      -- the sums after the leans
      have body : ∀ (τ : St) (J2' : Nat), oS [37, 38] [0, 1, 2, 3] [18, 19] [] σ τ → xR J0 (J1 + U * (tV d t 1 + 1) ^ (m + 1)) J2' J3 f g τ → (J2' + U * (lf * (tV d t 1 + 1) ^ (m + 1)) = J2 + U * (max lf (lT d c fo t cr k last) * (tV d t 1 + 1) ^ (m + 1))) → ∃ (K0 K1 K2 f' g' : Nat) (σ1 : St), f_Tree_goOn_149 (f_Tree_goOn dep) (zI fo) (zI k) (zI cr) (zJ (U * (tV d t 1 + 1) ^ (m + 1) : Nat)) (zI lf) (zI (lT d c fo t cr k last)) τ = some σ1 ∧ oS [37, 38] [0, 1, 2, 3] [18, 19] [] σ σ1 ∧ xR K0 K1 K2 (J3 + U * TS d c fo be t vCr (m + 1) k cr last rg lf) f' g' σ1 ∧ K0 + U * (rg * (tV d t 1 + 1) ^ (m + 1)) = J0 + U * TS d c fo be t vRg (m + 1) k cr last rg lf ∧ K1 + U * (k * (tV d t 1 + 1) ^ (m + 1)) = J1 + U * TS d c fo be t vK (m + 1) k cr last rg lf ∧ K2 + U * (lf * (tV d t 1 + 1) ^ (m + 1)) = J2 + U * TS d c fo be t vLf (m + 1) k cr last rg lf ∧ (∀ x, x ≤ f' ↔ (x ≤ f ∧ ∀ r, r < (tV d t 1 + 1) ^ (m + 1) → x ≤ PV d c fo be t vK (m + 1) k cr last rg lf r)) ∧ (∀ x, g' ≤ x ↔ (g ≤ x ∧ ∀ r, r < (tV d t 1 + 1) ^ (m + 1) → PV d c fo be t vK (m + 1) k cr last rg lf r ≤ x)) ∧ f' ≤ 4 ∧ g' ≤ 4 := by
        intro τ J2' oτ hRτ hJ2
        have hLτ := xL_o2 hL oτ (by decide) (by decide)
        obtain ⟨K0, K1, K2, f', g', σ1, w1, w2, w3, w4, w5, w6, w7, w8, w9, w10⟩ := go_slips (rg := rg) hw ht hp hsl hb (show m < dep by omega) (show k + (m + 1) = sV d 0 from h2) hcr hl hlf hU' ih (tV d t 1 + 1) 0 FU J0 _ J2' J3 f g τ (by omega) (FU_gt (by omega)) (XD_oS hx oτ (by decide) (by decide)) hLτ hRτ hf hg
        have eB : (tV d t 1 + 1) * (tV d t 1 + 1) ^ m = (tV d t 1 + 1) ^ (m + 1) := by rw [epow, Nat.mul_comm]
        rw [eB] at w4 w5 w6
        refine ⟨K0, K1, K2, f', g', σ1, ?_, oS_t oτ w2, ?_, ?_, ?_, ?_, fun x => ?_, fun x => ?_, w9, w10⟩
        · unfold f_Tree_goOn_149
          rw [share τ hLτ.1.2.1, bp_s]
          exact w1
        · rw [TS_g hgo]
          exact w3
        · rw [TS_g hgo]
          exact w4
        · rw [TS_g hgo]
          rw [Nat.succ_mul, Nat.mul_add] at w5
          omega
        · rw [TS_g hgo]
          omega
        · rw [w7 x]
          have := rows_split (B := tV d t 1 + 1) (m := m) (by omega) (P := fun o r => x ≤ PV d c fo be t vK m (k + 1) (crT d c fo be t cr k last o) (hT d c fo be t cr k last o) (rg + oneIf be (hT d c fo be t cr k last o)) (max lf (lT d c fo t cr k last)) r)
          constructor
          · intro h
            refine ⟨h.1, fun r hr => ?_⟩
            rw [PV_g hgo]
            exact this.mpr (fun o ho r hr => h.2 o (by omega) (by omega) r hr) r hr
          · intro h
            refine ⟨h.1, fun o _ ho r hr => ?_⟩
            exact this.mp (fun r hr => by have := h.2 r hr; rw [PV_g hgo] at this; exact this) o (by omega) r hr
        · rw [w8 x]
          have := rows_split (B := tV d t 1 + 1) (m := m) (by omega) (P := fun o r => PV d c fo be t vK m (k + 1) (crT d c fo be t cr k last o) (hT d c fo be t cr k last o) (rg + oneIf be (hT d c fo be t cr k last o)) (max lf (lT d c fo t cr k last)) r ≤ x)
          constructor
          · intro h
            refine ⟨h.1, fun r hr => ?_⟩
            rw [PV_g hgo]
            exact this.mpr (fun o ho r hr => h.2 o (by omega) (by omega) r hr) r hr
          · intro h
            refine ⟨h.1, fun o _ ho r hr => ?_⟩
            exact this.mp (fun r hr => by have := h.2 r hr; rw [PV_g hgo] at this; exact this) o (by omega) r hr
      have start : f_Tree_goOn (dep + 1) (zI fo) (zI k) (zI cr) (zI last) (zJ (U * (tV d t 1 + 1) ^ (m + 1) : Nat)) (zI lf) σ = f_Tree_goOn_115 (f_Tree_goOn dep) (zI fo) (zI k) (zI cr) (zJ (U * (tV d t 1 + 1) ^ (m + 1) : Nat)) (zI lf) (zI (lT d c fo t cr k last)) (uA (uA σ 18 f1) 19 f2) := by
        show f_Tree_goOnB (f_Tree_goOn dep) (zI fo) (zI k) (zI cr) (zI last) _ (zI lf) σ = _
        unfold f_Tree_goOnB f_Tree_goOn_114
        rw [e4, if_neg (by rw [zI_le (by omega) (by omega) (by omega) (by omega)]; omega), XS, bp_s, if_neg (by decide)]
        exact hlean (fun l σ => f_Tree_goOn_115 (f_Tree_goOn dep) (zI fo) (zI k) (zI cr) (zJ (U * (tV d t 1 + 1) ^ (m + 1) : Nat)) (zI lf) l σ)
      rw [start]
      unfold f_Tree_goOn_115
      have a1 : sJ (uA (uA σ 18 f1) 19 f2) 1 = zJ J1 := r1
      have a2 : ∀ v, sJ (uJ (uA (uA σ 18 f1) 19 f2) 1 v) 2 = zJ J2 := fun v => r2
      rw [a1, zJ_add, ← Int.natCast_add, lt_s', a2, zJ_add, ← Int.natCast_add]
      have oA : oS [37, 38] [0, 1, 2, 3] [18, 19] [] σ (uJ (uA (uA σ 18 f1) 19 f2) 1 (zJ (J1 + U * (tV d t 1 + 1) ^ (m + 1) : Nat))) := oS_uJ (by decide) o1
      have xA : xR J0 (J1 + U * (tV d t 1 + 1) ^ (m + 1)) J2 J3 f g (uJ (uA (uA σ 18 f1) 19 f2) 1 (zJ (J1 + U * (tV d t 1 + 1) ^ (m + 1) : Nat))) := ⟨r0, rfl, r2, r3, r37, r38⟩
      by_cases l0 : lT d c fo t cr k last = 0
      · have hz : zI ((lT d c fo t cr k last : Nat) : Int) = 0 := by rw [l0]; rfl
        rw [if_pos hz]
        exact body _ J2 oA xA (by rw [l0, Nat.max_eq_left (by omega)])
      · have l1 : lT d c fo t cr k last = 1 := by omega
        have hz : ¬ zI ((lT d c fo t cr k last : Nat) : Int) = 0 := by rw [l1]; decide
        rw [if_neg hz]
        rcases (show lf = 0 ∨ lf = 1 by omega) with rfl | rfl
        · rw [if_pos (by decide), lt_s']
          exact body _ (J2 + U * (tV d t 1 + 1) ^ (m + 1)) (oS_uJ (by decide) oA) ⟨r0, rfl, rfl, r3, r37, r38⟩ (by rw [l1, Nat.zero_mul, Nat.mul_zero, Nat.max_eq_right (by omega), Nat.one_mul]; rfl)
        · rw [if_neg (by decide)]
          exact body _ J2 oA xA (by rw [l1, Nat.max_self])
    · exact leaf (m + 1) dep k cr last rg lf J0 J1 J2 J3 f g σ h1 h2 hL hcr hl hU hR hf hg hgo (fun v => TS_n hgo) (fun r => PV_n hgo)
theorem TS_b {val : Nat → Nat → Nat → Nat → Nat} {X K R : Nat} (hv : ∀ k cr rg lf, k ≤ K → cr ≤ 999 → rg ≤ R → lf ≤ 1 → val k cr rg lf ≤ X) : ∀ m k cr last rg lf, k + m ≤ K → cr ≤ 999 → rg + m ≤ R → lf ≤ 1 → TS d c fo be t val m k cr last rg lf ≤ X * (tV d t 1 + 1) ^ m := by
  intro m
  induction m with
  | zero =>
    intro k cr last rg lf h1 h2 h3 h4
    rw [Nat.pow_zero, Nat.mul_one]
    exact hv k cr rg lf h1 h2 h3 h4
  | succ m ih =>
    intro k cr last rg lf h1 h2 h3 h4
    rcases gO_d d c be t k last with hgo | hgo
    · rw [TS_g hgo]
      have hone : ∀ h, oneIf be h ≤ 1 := by intro h; unfold oneIf; split <;> omega
      have lb : lT d c fo t cr k last ≤ 1 := lB_b
      have hs : ∀ n u, sm (fun o => TS d c fo be t val m (k + 1) (crT d c fo be t cr k last o) (hT d c fo be t cr k last o) (rg + oneIf be (hT d c fo be t cr k last o)) (max lf (lT d c fo t cr k last))) n u ≤ n * (X * (tV d t 1 + 1) ^ m) := by
        intro n
        induction n with
        | zero => intro u; exact Nat.zero_le _
        | succ n ihn =>
          intro u
          have a := ih (k + 1) (crT d c fo be t cr k last u) (hT d c fo be t cr k last u) (rg + oneIf be (hT d c fo be t cr k last u)) (max lf (lT d c fo t cr k last)) (by omega) (by unfold crT; omega) (by have := hone (hT d c fo be t cr k last u); omega) (by omega)
          have b := ihn (u + 1)
          rw [Nat.succ_mul]
          show _ + _ ≤ _
          exact Nat.le_trans (Nat.add_le_add a b) (by rw [Nat.add_comm]; exact Nat.le_refl _)
      have := hs (tV d t 1 + 1) 0
      rw [Nat.pow_succ]
      have e : (tV d t 1 + 1) * (X * (tV d t 1 + 1) ^ m) = X * ((tV d t 1 + 1) ^ m * (tV d t 1 + 1)) := by
        rw [Nat.mul_comm, Nat.mul_assoc]
      rw [← e]
      exact this
    · rw [TS_n hgo]
      exact Nat.mul_le_mul_right _ (hv k cr rg lf (by omega) h2 (by omega) h4)
end
/-- the weight of a row -/
def uU (B N : Nat) : Nat := (60 / B) ^ N * 60 ^ (4 - N)
theorem uU_e {B N : Nat} (h1 : 1 ≤ B) (h2 : B ≤ 6) (h3 : N ≤ 4) : uU B N * B ^ N = 12960000 := by
  unfold uU
  have hB : 60 / B * B = 60 := by
    rcases (show B = 1 ∨ B = 2 ∨ B = 3 ∨ B = 4 ∨ B = 5 ∨ B = 6 by omega) with rfl | rfl | rfl | rfl | rfl | rfl <;> rfl
  rw [Nat.mul_right_comm, ← Nat.mul_pow, hB, ← Nat.pow_add]
  have e : N + (4 - N) = 4 := by omega
  rw [e]
theorem x_walk {d : FD} {c : Nat → Nat} {fo be t : Nat} {σ : St} (hw : wfD d) (ht : t < nT d) (hfo : fo < 2 ^ nR d) (hp : c 5 ≤ 9) (hsl : c 4 ≤ 90) (hb : be ≤ 99) (hx : XD d σ) (hL : xL 40 17 d c t be σ) :
    ∃ (f' g' : Nat) (σ1 : St), f_Tree_walk (zI fo) σ = some σ1 ∧ oS [37, 38] [0, 1, 2, 3] [18, 19] [] σ σ1 ∧ xR (uU (tV d t 1 + 1) (sV d 0) * TR d c fo be t vRg) (uU (tV d t 1 + 1) (sV d 0) * TR d c fo be t vK) (uU (tV d t 1 + 1) (sV d 0) * TR d c fo be t vLf) (uU (tV d t 1 + 1) (sV d 0) * TR d c fo be t vCr) f' g' σ1 ∧ (∀ x, x ≤ f' ↔ (x ≤ 4 ∧ ∀ r, r < (tV d t 1 + 1) ^ sV d 0 → x ≤ PR d c fo be t vK r)) ∧ (∀ x, g' ≤ x ↔ (∀ r, r < (tV d t 1 + 1) ^ sV d 0 → PR d c fo be t vK r ≤ x)) ∧ f' ≤ 4 ∧ g' ≤ 4 := by
  obtain ⟨t1, t2, t3, t4, t5, t6, t7⟩ := hw.2.2.2.2.1 t ht
  obtain ⟨s1, s2, s3, s4, s5, s6, s7⟩ := hw.2.2.2.2.2.1
  have hU := uU_e (B := tV d t 1 + 1) (N := sV d 0) (by omega) (by omega) s2
  unfold f_Tree_walk
  simp only [lt_q]
  generalize hσ6 : uI (uI (uJ (uJ (uJ (uJ σ 0 0) 1 0) 2 0) 3 0) 37 4) 38 0 = σ6
  have o6 : oS [37, 38] [0, 1, 2, 3] [18, 19] [] σ σ6 := by
    rw [← hσ6]
    exact oS_uI (by decide) (oS_uI (by decide) (oS_uJ (by decide) (oS_uJ (by decide) (oS_uJ (by decide) (oS_uJ (by decide) oS_r)))))
  have hL6 := xL_o2 hL o6 (by decide) (by decide)
  obtain ⟨K0, K1, K2, f', g', σ1, w1, w2, w3, w4, w5, w6, w7, w8, w9, w10⟩ := go_all (U := uU (tV d t 1 + 1) (sV d 0)) hw ht hfo hp hsl hb (sV d 0) 6 0 (sV d 1) 0 0 0 0 0 0 0 4 0 σ6 (by omega) (by omega) (XD_oS hx o6 (by decide) (by decide)) hL6 (by omega) (by omega) (by omega) (by rw [hU]; omega) (by rw [← hσ6]; exact ⟨rfl, rfl, rfl, rfl, rfl, rfl⟩) (by omega) (by omega)
  rw [hU] at w1
  have e51 : sI σ6 51 = zI (sV d 1) := hL6.2.1.2.2.2.2.2
  have w1' : f_Tree_goOn 6 (zI fo) 0 (zI (sV d 1)) 0 12960000 0 σ6 = some σ1 := w1
  rw [e51, w1', bp_s]
  rw [Nat.zero_mul, Nat.mul_zero, Nat.add_zero, Nat.zero_add] at w4 w5 w6
  rw [Nat.zero_add] at w3
  rw [w4, w5, w6] at w3
  refine ⟨f', g', σ1, rfl, oS_t o6 w2, w3, w7, fun x => ?_, w9, w10⟩
  rw [w8 x]
  exact ⟨fun h => h.2, fun h => ⟨Nat.zero_le _, h⟩⟩
theorem thou {U T R p : Nat} (hU : U * R = 12960000) (hT : T ≤ 1000 * R) (hp : p ≤ 9) (hR : 0 < R) (hU0 : 0 < U) (σ τ : St) (hj : sJ τ 0 = zJ R) : f_Tree_thousandths (zJ ((U * T) * p : Nat)) σ = f_M_thousandths (zJ (T * p : Nat)) τ ∧ (f_Tree_thousandths (zJ ((U * T) * p : Nat)) σ).isSome = true := by
  have hR2 : R ≤ 12960000 := by
    rw [← hU]
    exact Nat.le_mul_of_pos_left R hU0
  have h1 : U * T ≤ 12960000 * 1000 := by
    have : U * T ≤ U * (1000 * R) := Nat.mul_le_mul_left U hT
    have e : U * (1000 * R) = 1000 * (U * R) := by rw [← Nat.mul_assoc, Nat.mul_comm U 1000, Nat.mul_assoc]
    rw [e, hU] at this
    omega
  have h2 : U * T * p ≤ 12960000 * 1000 * 9 := Nat.mul_le_mul h1 hp
  have h3 : T * p ≤ 1000 * 12960000 * 9 := Nat.mul_le_mul (Nat.le_trans hT (Nat.mul_le_mul_left 1000 hR2)) hp
  unfold f_Tree_thousandths f_M_thousandths
  have e1 : (1000 : Int64) = zJ (1000 : Nat) := rfl
  have e2 : (12960000 : Int64) = zJ (12960000 : Nat) := rfl
  rw [hj, e1, e2, zJ_mul, zJ_mul, ← Int.natCast_mul, ← Int.natCast_mul, nzJ_z (by omega) (by omega) (by omega), gd_t, zJ_div (by omega) (by omega) (by omega) (by omega), zJ_div (by omega) (by omega) (by omega) (by omega), ← Int.natCast_ediv, ← Int.natCast_ediv, zJ_n, zJ_n]
  have e : U * T * p * 1000 / 12960000 = 1000 * (T * p) / R := by
    have e3 : U * T * p * 1000 = U * (1000 * (T * p)) := by
      rw [Nat.mul_assoc U T p, Nat.mul_assoc U (T * p) 1000, Nat.mul_comm (T * p) 1000]
    rw [e3, ← hU, Nat.mul_div_mul_left _ _ hU0]
  rw [e]
  exact ⟨rfl, rfl⟩
theorem sim_tree : Sim_tree Rel := by
  intro a1 a2 σx σm h
  obtain ⟨z, h1, h2, rfl⟩ := zI_of a1
  obtain ⟨y, h3, h4, rfl⟩ := zI_of a2
  have h' := h
  obtain ⟨hQ, d, hw, hx, hm, hS, a, w, hs, ks, hh, hX, hM⟩ := h
  have hc := hh.2.1 a (Nat.le_refl a)
  obtain ⟨c0, cc1, c2, c3, c4, c5, c6, c7, c8⟩ := hc
  obtain ⟨x17, x18, x19, x90, x91, x92, x24⟩ := hX.2.1
  unfold f_BH_tree f_M_tree
  rw [x_isTrier hw hx h1 h2, m_isTrier hw hm h1 h2, bp_s, bp_s]
  have i5 : f_M_isIn (zI y).toInt64 0 5 σm = some (if 0 ≤ y ∧ y ≤ 5 then zI 1 else zI 0) := by simp (disch := omega) only [zI_lit, zJ_lit, zI_neg, zJ_neg, zI_add, zI_sub, zI_mul, zJ_add, zJ_sub, zJ_mul, zI_lt, zI_le, zI_eq, zJ_lt, zJ_le, zJ_eq, zJ_w, zJ_n, in_z, zI_cl, zI_in, nz_z, nzJ_z, iMin_z, iMax_z, lg_cmp_lt, lg_cmp_le, lg_cmp_gt, lg_cmp_ge, lg_cmp_eq, lt_q, gd_q, bp_q, bd_q, Int.toNat_natCast, Int.toNat_zero, Int.toNat_one, Int.reduceToNat, ite_true, ite_false, bz, isB_i, isB0, isB1]
  rw [i5, bp_s]
  by_cases g : 0 ≤ z ∧ z < nT d
  · rw [if_neg (fun e => bz0.mp e g), if_neg (fun e => bz0.mp e g)]
    obtain ⟨t, rfl⟩ := Int.eq_ofNat_of_zero_le g.1
    have ht : t < nT d := by omega
    obtain ⟨t1, t2, t3, t4, t5, t6, t7⟩ := hw.2.2.2.2.1 t ht
    obtain ⟨s1, s2, s3, s4, s5, s6, s7⟩ := hw.2.2.2.2.2.1
    obtain ⟨σ1, L1, L2, L3⟩ := xo_load_2 (c := hs a) hw hx x90 x91 x92 ht
    have y19 : sI σ1 19 = zI (hs a 2) := by rw [L3.1 19 (by decide)]; exact x19
    obtain ⟨f', g', σ2, W1, W2, W3, W4, W5, W6, W7⟩ := x_walk (fo := hs a 2) hw ht c2 c7 c5 c4 (XD_oS hx L3 (by decide) (by decide)) L2
    rw [L1, bp_s, y19, W1, bp_s]
    have oX : oS [37, 38, 40, 41, 42, 43, 44, 45, 46, 47, 48, 49, 50, 51] [0, 1, 2, 3] [17, 18, 19] [] σx σ2 := oS_t (oS_w L3 (by decide) (by decide) (by decide) (by decide)) (oS_w W2 (by decide) (by decide) (by decide) (by decide))
    have RX := Rel_eX h' (eX_oS oX (by decide) (by decide))
    by_cases gy : 0 ≤ y ∧ y ≤ 5
    · rw [if_neg (fun e => bz0.mp e gy)]
      have hfo : hs a 2 < 64 := by
        have : 2 ^ nR d ≤ 2 ^ 6 := Nat.pow_le_pow_right (by omega) hw.2.2.1
        omega
      have m2 : sA σm 11 2 = zI (hs a 2) := hM.2.2.2.1.1 2 (by omega)
      have m3 : sA σm 11 3 = zI (hs a 3) := hM.2.2.2.1.1 3 (by omega)
      obtain ⟨F, G, τ, M1, M2, M3, M4, M5, M6, M7, M8⟩ := m_grows (c := hs a) (fo := hs a 2) (be := hs a 3) hw ht hfo c7 c5 c4 hm (hM.2.2.2.1.1 4 (by omega)) (hM.2.2.2.1.1 5 (by omega))
      rw [cl2, cl3, m2, m3, M1, bp_s]
      have RM := Rel_eM RX (eM_oS M2 (by decide) (by decide) (by decide) (by decide))
      obtain ⟨r0, r1, r2, r3, r37, r38⟩ := W3
      obtain ⟨q1, q2, q3, q4, q24, q25⟩ := M4
      have ef : f' = F := Nat.le_antisymm ((M5 f').mpr ((W4 f').mp (Nat.le_refl _))) ((W4 F).mpr ((M5 F).mp (Nat.le_refl _)))
      have eg : g' = G := Nat.le_antisymm ((W5 G).mpr ((M6 G).mp (Nat.le_refl _))) ((M6 g').mpr ((W5 g').mp (Nat.le_refl _)))
      have hU := uU_e (B := tV d t 1 + 1) (N := sV d 0) (by omega) (by omega) s2
      have hR0 : 0 < (tV d t 1 + 1) ^ sV d 0 := Nat.pow_pos (by omega)
      have hU0 : 0 < uU (tV d t 1 + 1) (sV d 0) := by
        apply Nat.pos_of_ne_zero
        intro e
        rw [e, Nat.zero_mul] at hU
        exact absurd hU (by decide)
      have bv : ∀ v, (∀ k cr rg lf, k ≤ 4 → cr ≤ 999 → rg ≤ 4 → lf ≤ 1 → v k cr rg lf ≤ 1000) → TR d (hs a) (hs a 2) (hs a 3) t v ≤ 1000 * (tV d t 1 + 1) ^ sV d 0 := by
        intro v hv
        exact TS_b (K := 4) (R := 4) hv (sV d 0) 0 (sV d 1) 0 0 0 (by omega) (by omega) (by omega) (by omega)
      have T : ∀ (v : Nat → Nat → Nat → Nat → Nat) (p : Nat), (∀ k cr rg lf, k ≤ 4 → cr ≤ 999 → rg ≤ 4 → lf ≤ 1 → v k cr rg lf ≤ 1000) → p ≤ 9 → f_Tree_thousandths (zJ ((uU (tV d t 1 + 1) (sV d 0) * TR d (hs a) (hs a 2) (hs a 3) t v) * p : Nat)) σ2 = f_M_thousandths (zJ (TR d (hs a) (hs a 2) (hs a 3) t v * p : Nat)) τ ∧ (f_Tree_thousandths (zJ ((uU (tV d t 1 + 1) (sV d 0) * TR d (hs a) (hs a 2) (hs a 3) t v) * p : Nat)) σ2).isSome = true := fun v p hv hp => thou hU (bv v hv) hp hR0 hU0 σ2 τ M3
      have use : ∀ (X Y : Option Int32), X = Y ∧ X.isSome = true → ∃ (r : Int32) (σx1 σm1 : St), (bp (bp X fun r_8 => some r_8) fun r_8 => some (r_8, σ2)) = some (r, σx1) ∧ (bp Y fun r_8 => some (r_8, τ)) = some (r, σm1) ∧ Rel σx1 σm1 := by
        intro X Y hXY
        obtain ⟨e, hs⟩ := hXY
        subst e
        cases X with
        | none => exact absurd hs (by simp)
        | some r => exact ⟨r, _, _, rfl, rfl, RM⟩
      obtain ⟨y, rfl⟩ := Int.eq_ofNat_of_zero_le gy.1
      unfold f_Tree_fact
      rw [r0, r1, r2, r3, r37, r38, q1, q2, q3, q4, q24, q25]
      have y48 : sI σ2 48 = zI (hs a 5) := by
        rw [W2.1 48 (by decide)]
        exact L2.2.1.2.2.1
      rw [y48, zJ_w (by omega) (by omega), zJ_mul, ← Int.natCast_mul]
      have T0 := T vRg 1 (fun k cr rg lf _ _ h _ => by show rg ≤ 1000; omega) (by omega)
      have T1 := T vK (hs a 5) (fun k cr rg lf h _ _ _ => by show k ≤ 1000; omega) c7
      have T4 := T vLf 1 (fun k cr rg lf _ _ _ h => by show lf ≤ 1000; omega) (by omega)
      have T5 := T vCr 1 (fun k cr rg lf _ h _ _ => by show cr ≤ 1000; omega) (by omega)
      rw [Nat.mul_one, Nat.mul_one] at T0 T4 T5
      rcases (show y = 0 ∨ y = 1 ∨ y = 2 ∨ y = 3 ∨ y = 4 ∨ y = 5 by omega) with rfl | rfl | rfl | rfl | rfl | rfl
      · rw [if_pos (by decide), if_pos (by decide)]
        exact use _ _ T0
      · rw [if_neg (by decide), if_pos (by decide), if_neg (by decide), if_pos (by decide)]
        exact use _ _ T1
      · rw [if_neg (by decide), if_neg (by decide), if_pos (by decide), if_neg (by decide), if_neg (by decide), if_pos (by decide), ef]
        exact ⟨_, _, _, rfl, rfl, RM⟩
      · rw [if_neg (by decide), if_neg (by decide), if_neg (by decide), if_pos (by decide), if_neg (by decide), if_neg (by decide), if_neg (by decide), if_pos (by decide), eg]
        exact ⟨_, _, _, rfl, rfl, RM⟩
      · rw [if_neg (by decide), if_neg (by decide), if_neg (by decide), if_neg (by decide), if_pos (by decide), if_neg (by decide), if_neg (by decide), if_neg (by decide), if_neg (by decide), if_pos (by decide)]
        exact use _ _ T4
      · rw [if_neg (by decide), if_neg (by decide), if_neg (by decide), if_neg (by decide), if_neg (by decide), if_pos (by decide), if_neg (by decide), if_neg (by decide), if_neg (by decide), if_neg (by decide), if_neg (by decide)]
        exact use _ _ T5
    · rw [if_pos (bz0.mpr gy)]
      have ne : ∀ k : Nat, k ≤ 5 → ¬ zI y = zI (k : Int) := by
        intro k hk
        rw [zI_eq (by omega) (by omega) (by omega) (by omega)]
        omega
      have n0 : ¬ zI y = (0 : Int32) := ne 0 (by omega)
      have n1 : ¬ zI y = (1 : Int32) := ne 1 (by omega)
      have n2 : ¬ zI y = (2 : Int32) := ne 2 (by omega)
      have n3 : ¬ zI y = (3 : Int32) := ne 3 (by omega)
      have n4 : ¬ zI y = (4 : Int32) := ne 4 (by omega)
      have n5 : ¬ zI y = (5 : Int32) := ne 5 (by omega)
      unfold f_Tree_fact
      rw [if_neg n0, if_neg n1, if_neg n2, if_neg n3, if_neg n4, if_neg n5, bp_s]
      exact ⟨_, _, _, rfl, rfl, RX⟩
  · rw [if_pos (bz0.mpr g), if_pos (bz0.mpr g)]
    exact ⟨_, _, _, rfl, rfl, h'⟩
