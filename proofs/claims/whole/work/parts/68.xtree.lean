-- ===== X's tree =====
def xR (J0 J1 J2 J3 f g : Nat) (σ : St) : Prop := sJ σ 0 = zJ J0 ∧ sJ σ 1 = zJ J1 ∧ sJ σ 2 = zJ J2 ∧ sJ σ 3 = zJ J3 ∧ sI σ 37 = zI f ∧ sI σ 38 = zI g
/-- the blow that X is about to see: the lean -/
theorem x_leanNow {d : FD} {c : Nat → Nat} {fo be t cr k last : Nat} {σ : St} (hw : wfD d) (hx : XD d σ) (ht : t < nT d) (hL : xL 40 17 d c t be σ) (hfo : fo < 2 ^ nR d) (hp : c 5 ≤ 9) (hcr : cr ≤ 999) (hl : last ≤ 99) (hg : gO d c be t k last) : ∃ f1 f2, (∀ (Z : Int32 → St → Option St), (bp (f_Showman_look_2 (zI cr) (zI k) (zI last) 0 σ) fun σ_4 => bp (f_Turn_coinsBehind (zI k) σ_4) fun r_6 => bp (f_Showman_lookAt_2 (sI σ_4 45) r_6 σ_4) fun σ_8 => if zI (fo : Int) = 0 then Z 0 σ_8 else bd (f_Showman_rulesThatHold_2 σ_8) fun r_10 σ_11 => if (r_10 &&& zI (fo : Int)) = 0 then Z 0 σ_11 else Z 1 σ_11) = Z (zI (lT d c fo t cr k last)) (uA (uA σ 18 f1) 19 f2)) := by
  obtain ⟨t1, t2, t3, t4, t5, t6, t7⟩ := hw.2.2.2.2.1 t ht
  obtain ⟨s1, s2, s3, s4, s5, s6, s7⟩ := hw.2.2.2.2.2.1
  obtain ⟨g1, g2, g3⟩ := hg
  have kpb := kp_b (k := k) (p := c 5) (by omega) hp
  have kp1 : (k + 1) * c 5 = k * c 5 + c 5 := Nat.succ_mul k (c 5)
  have XC := x_coinsBehind (k := k) hL
  have eco : ((tV d t 3 : Int) - ((k * c 5 : Nat) : Int)) = ((tV d t 3 - k * c 5 : Nat) : Int) := by omega
  have cb : ∀ f, f_Turn_coinsBehind (zI k) (uA σ 18 f) = some (zI ((tV d t 3 - k * c 5 : Nat) : Int)) := fun f => by
    rw [← eco]
    exact XC
  have c45 : ∀ f, sI (uA σ 18 f) 45 = zI (tV d t 5) := fun f => hL.1.2.2.2.2.2
  let gg : Nat → Int32 := upd (upd (upd (upd (upd (upd (sA σ 18) 0 (zI cr)) 1 (zI k)) 2 (zI last)) 4 0) 3 (zI (tV d t 5))) 5 (zI ((tV d t 3 - k * c 5 : Nat) : Int))
  have hgk : ∀ i, i < 6 → sA (uA σ 18 gg) 18 i = zI (fA cr k last (tV d t 5) 0 (tV d t 3 - k * c 5) i) := by
    intro i hi
    rw [sA_eq]
    match i, hi with
    | 0, _ => rfl
    | 1, _ => rfl
    | 2, _ => rfl
    | 3, _ => rfl
    | 4, _ => rfl
    | 5, _ => rfl
  have hoX : oS [] [] [18, 19] [] σ (uA σ 18 gg) := oS_uA (by decide) oS_r
  obtain ⟨f', q1, q2⟩ := x_lean_2 (σ := uA σ 18 gg) (fo := fo) hw (XD_oS hx hoX (by decide) (by decide)) hgk (fA_b (by omega) (by omega) (by omega) (by omega) (by omega) (by omega)) hfo
  have head : ∀ (Z : Int32 → St → Option St), (bp (f_Showman_look_2 (zI cr) (zI k) (zI last) 0 σ) fun σ_4 => bp (f_Turn_coinsBehind (zI k) σ_4) fun r_6 => bp (f_Showman_lookAt_2 (sI σ_4 45) r_6 σ_4) fun σ_8 => if zI (fo : Int) = 0 then Z 0 σ_8 else bd (f_Showman_rulesThatHold_2 σ_8) fun r_10 σ_11 => if (r_10 &&& zI (fo : Int)) = 0 then Z 0 σ_11 else Z 1 σ_11) = if zI (fo : Int) = 0 then Z 0 (uA σ 18 gg) else bd (f_Showman_rulesThatHold_2 (uA σ 18 gg)) fun r_10 σ_11 => if (r_10 &&& zI (fo : Int)) = 0 then Z 0 σ_11 else Z 1 σ_11 := by
    intro Z
    unfold f_Showman_look_2 f_Showman_lookAt_2
    simp only [lt_q, bp_q, uA_uA, sA_eq, cl0, cl1, cl2, cl3, cl4, cl5, cb, c45]
    rfl
  have pb : 2 ^ nR d ≤ 2 ^ 6 := Nat.pow_le_pow_right (by omega) hw.2.2.1
  have e0 : (0 : Int32) = zI (0 : Nat) := rfl
  have hlT : lT d c fo t cr k last = leN d (fA cr k last (tV d t 5) 0 (tV d t 3 - k * c 5)) fo := rfl
  by_cases z : fo = 0
  · refine ⟨gg, sA (uA σ 18 gg) 19, fun Z => ?_⟩
    have hn : ¬ rL d (fA cr k last (tV d t 5) 0 (tV d t 3 - k * c 5)) fo := by
      unfold rL
      rw [z, Nat.and_zero]
      exact fun h => h rfl
    rw [head, if_pos (by rw [z]; rfl), uA_same, hlT, leN_0 hn]
    rfl
  · refine ⟨gg, f', fun Z => ?_⟩
    rw [head, if_neg (by rw [e0, zI_eq (by omega) (by omega) (by omega) (by omega)]; omega), q1, bd_s, hlT]
    by_cases L : rL d (fA cr k last (tV d t 5) 0 (tV d t 3 - k * c 5)) fo
    · rw [if_neg (fun e => q2.mp e L), leN_1 L]
      rfl
    · rw [if_pos (q2.mpr L), leN_0 L]
      rfl
section
variable {d : FD} {c : Nat → Nat} {fo be t : Nat}
theorem xL_o2 {σ σ' : St} {J B : List Nat} (hL : xL 40 17 d c t be σ) {I A : List Nat} (o : oS I J A B σ σ') (hi : ∀ k, k ∈ [40, 41, 42, 43, 44, 45, 46, 47, 48, 49, 50, 51] → k ∉ I) (ha : 17 ∉ A) : xL 40 17 d c t be σ' := by
  unfold xL
  simp only [Nat.reduceAdd]
  rw [o.1 40 (hi 40 (by decide)), o.1 41 (hi 41 (by decide)), o.1 42 (hi 42 (by decide)), o.1 43 (hi 43 (by decide)), o.1 44 (hi 44 (by decide)), o.1 45 (hi 45 (by decide)), o.1 46 (hi 46 (by decide)), o.1 47 (hi 47 (by decide)), o.1 48 (hi 48 (by decide)), o.1 49 (hi 49 (by decide)), o.1 50 (hi 50 (by decide)), o.1 51 (hi 51 (by decide)), o.2.2.1 17 ha]
  exact hL
/-- what goOn owes at a node with m tries left -/
def GO (d : FD) (c : Nat → Nat) (fo be t U m : Nat) : Prop := ∀ (dep k cr last rg lf J0 J1 J2 J3 f g : Nat) (σ : St), m < dep → k + m = sV d 0 → XD d σ → xL 40 17 d c t be σ → cr ≤ 999 → last ≤ 99 → lf ≤ 1 → U * (tV d t 1 + 1) ^ m ≤ 12960000 → xR J0 J1 J2 J3 f g σ → f ≤ 4 → g ≤ 4 →
  ∃ (K0 K1 K2 f' g' : Nat) (σ1 : St), f_Tree_goOn dep (zI fo) (zI k) (zI cr) (zI last) (zJ (U * (tV d t 1 + 1) ^ m : Nat)) (zI lf) σ = some σ1 ∧ oS [37, 38] [0, 1, 2, 3] [18, 19] [] σ σ1 ∧ xR K0 K1 K2 (J3 + U * TS d c fo be t vCr m k cr last rg lf) f' g' σ1 ∧ K0 + U * (rg * (tV d t 1 + 1) ^ m) = J0 + U * TS d c fo be t vRg m k cr last rg lf ∧ K1 + U * (k * (tV d t 1 + 1) ^ m) = J1 + U * TS d c fo be t vK m k cr last rg lf ∧ K2 + U * (lf * (tV d t 1 + 1) ^ m) = J2 + U * TS d c fo be t vLf m k cr last rg lf ∧ (∀ x, x ≤ f' ↔ (x ≤ f ∧ ∀ r, r < (tV d t 1 + 1) ^ m → x ≤ PV d c fo be t vK m k cr last rg lf r)) ∧ (∀ x, g' ≤ x ↔ (g ≤ x ∧ ∀ r, r < (tV d t 1 + 1) ^ m → PV d c fo be t vK m k cr last rg lf r ≤ x)) ∧ f' ≤ 4 ∧ g' ≤ 4
theorem go_leaf {m dep k cr last lf J0 J1 J2 J3 f g U : Nat} {σ : St} (hw : wfD d) (ht : t < nT d) (hp : c 5 ≤ 9) (hb : be ≤ 99) (hdep : 0 < dep) (hk : k + m = sV d 0) (hL : xL 40 17 d c t be σ) (hcr : cr ≤ 999) (hl : last ≤ 99) (hU : U * (tV d t 1 + 1) ^ m ≤ 12960000) (hR : xR J0 J1 J2 J3 f g σ) (hf : f ≤ 4) (hg : g ≤ 4) (hn : ¬ gO d c be t k last) : ∃ σ1, f_Tree_goOn dep (zI fo) (zI k) (zI cr) (zI last) (zJ (U * (tV d t 1 + 1) ^ m : Nat)) (zI lf) σ = some σ1 ∧ oS [37, 38] [0, 1, 2, 3] [18, 19] [] σ σ1 ∧ xR J0 J1 J2 (J3 + U * (cr * (tV d t 1 + 1) ^ m)) (min f k) (max g k) σ1 := by
  have hT := hw.2.2.2.2.1 t ht
  have hS := hw.2.2.2.2.2.1
  have s2 := hS.2.1
  obtain ⟨dep, rfl⟩ : ∃ q, dep = q + 1 := ⟨dep - 1, by omega⟩
  have XS := (x_goesOn (k := k) (last := last) hL hT hS hp hb (by omega) hl).2 hn
  obtain ⟨r0, r1, r2, r3, r37, r38⟩ := hR
  have L18 : f_Tree_goOn_18 (f_Tree_goOn dep) (zI k) (zI cr) (zJ (U * (tV d t 1 + 1) ^ m : Nat)) σ = some (uJ (uI (uI σ 37 (zI (min f k : Nat))) 38 (zI (max g k : Nat))) 3 (zJ (J3 + U * (cr * (tV d t 1 + 1) ^ m) : Nat))) := by
    unfold f_Tree_goOn_18
    have a38 : ∀ v, sI (uI σ 37 v) 38 = zI g := fun v => r38
    have a3 : ∀ v w, sJ (uI (uI σ 37 v) 38 w) 3 = zJ J3 := fun v w => r3
    have em : min (f : Int) (k : Int) = ((min f k : Nat) : Int) := by omega
    have ex : max (g : Int) (k : Int) = ((max g k : Nat) : Int) := by omega
    rw [r37, iMin_z (by omega) (by omega) (by omega) (by omega), em, lt_s', a38, iMax_z (by omega) (by omega) (by omega) (by omega), ex, lt_s', a3, zJ_w (by omega) (by omega), zJ_mul, ← Int.natCast_mul, zJ_add, ← Int.natCast_add, lt_s']
    have e : U * (tV d t 1 + 1) ^ m * cr = U * (cr * (tV d t 1 + 1) ^ m) := by
      rw [Nat.mul_assoc, Nat.mul_comm _ cr]
    rw [e]
  refine ⟨uJ (uI (uI σ 37 (zI (min f k : Nat))) 38 (zI (max g k : Nat))) 3 (zJ (J3 + U * (cr * (tV d t 1 + 1) ^ m) : Nat)), ?_, oS_uJ (by decide) (oS_uI (by decide) (oS_uI (by decide) oS_r)), r0, r1, r2, rfl, rfl, rfl⟩
  show f_Tree_goOnB (f_Tree_goOn dep) (zI fo) (zI k) (zI cr) (zI last) _ (zI lf) σ = _
  unfold f_Tree_goOnB
  rw [XS, bp_s, if_pos rfl, L18, ite_self]
theorem go_slips {U m dep k cr last rg lf : Nat} (hw : wfD d) (ht : t < nT d) (hp : c 5 ≤ 9) (hsl : c 4 ≤ 90) (hb : be ≤ 99) (hdep : m < dep) (hk : k + (m + 1) = sV d 0) (hcr : cr ≤ 999) (hl : last ≤ 99) (hlf : lf ≤ 1) (hU : U * (tV d t 1 + 1) ^ m ≤ 12960000) (hGO : GO d c fo be t U m) :
    ∀ (n o q J0 J1 J2 J3 f g : Nat) (σ : St), o + n = tV d t 1 + 1 → n < q → XD d σ → xL 40 17 d c t be σ → xR J0 J1 J2 J3 f g σ → f ≤ 4 → g ≤ 4 →
      ∃ (K0 K1 K2 f' g' : Nat) (σ1 : St), f_Tree_goOn_160 (f_Tree_goOn dep) q (zI fo) (zI k) (zI cr) (zI lf) (zI (lT d c fo t cr k last)) (zJ (U * (tV d t 1 + 1) ^ m : Nat)) (zI o) σ = some σ1 ∧ oS [37, 38] [0, 1, 2, 3] [18, 19] [] σ σ1 ∧ xR K0 K1 K2 (J3 + U * sm (fun o => TS d c fo be t vCr m (k + 1) (crT d c fo be t cr k last o) (hT d c fo be t cr k last o) (rg + oneIf be (hT d c fo be t cr k last o)) (max lf (lT d c fo t cr k last))) n o) f' g' σ1 ∧ K0 + U * (rg * (n * (tV d t 1 + 1) ^ m)) = J0 + U * sm (fun o => TS d c fo be t vRg m (k + 1) (crT d c fo be t cr k last o) (hT d c fo be t cr k last o) (rg + oneIf be (hT d c fo be t cr k last o)) (max lf (lT d c fo t cr k last))) n o ∧ K1 + U * ((k + 1) * (n * (tV d t 1 + 1) ^ m)) = J1 + U * sm (fun o => TS d c fo be t vK m (k + 1) (crT d c fo be t cr k last o) (hT d c fo be t cr k last o) (rg + oneIf be (hT d c fo be t cr k last o)) (max lf (lT d c fo t cr k last))) n o ∧ K2 + U * (max lf (lT d c fo t cr k last) * (n * (tV d t 1 + 1) ^ m)) = J2 + U * sm (fun o => TS d c fo be t vLf m (k + 1) (crT d c fo be t cr k last o) (hT d c fo be t cr k last o) (rg + oneIf be (hT d c fo be t cr k last o)) (max lf (lT d c fo t cr k last))) n o ∧ (∀ x, x ≤ f' ↔ (x ≤ f ∧ ∀ o', o ≤ o' → o' < o + n → ∀ r, r < (tV d t 1 + 1) ^ m → x ≤ PV d c fo be t vK m (k + 1) (crT d c fo be t cr k last o') (hT d c fo be t cr k last o') (rg + oneIf be (hT d c fo be t cr k last o')) (max lf (lT d c fo t cr k last)) r)) ∧ (∀ x, g' ≤ x ↔ (g ≤ x ∧ ∀ o', o ≤ o' → o' < o + n → ∀ r, r < (tV d t 1 + 1) ^ m → PV d c fo be t vK m (k + 1) (crT d c fo be t cr k last o') (hT d c fo be t cr k last o') (rg + oneIf be (hT d c fo be t cr k last o')) (max lf (lT d c fo t cr k last)) r ≤ x)) ∧ f' ≤ 4 ∧ g' ≤ 4 := by
  have hTt := hw.2.2.2.2.1 t ht
  obtain ⟨t1, t2, t3, t4, t5, t6, t7⟩ := hw.2.2.2.2.1 t ht
  have hS := hw.2.2.2.2.2.1
  have s2 := hS.2.1
  have lb : lT d c fo t cr k last ≤ 1 := lB_b
  intro n
  induction n with
  | zero =>
    intro o q J0 J1 J2 J3 f g σ h1 h2 hx hL hR hf hg
    obtain ⟨q, rfl⟩ : ∃ r, q = r + 1 := ⟨q - 1, by omega⟩
    have e41 : sI σ 41 = zI (tV d t 1) := hL.1.2.1
    refine ⟨J0, J1, J2, f, g, σ, ?_, oS_r, hR, ?_, ?_, ?_, fun x => ⟨fun h => ⟨h, fun o' _ _ => by omega⟩, fun h => h.1⟩, fun x => ⟨fun h => ⟨h, fun o' _ _ => by omega⟩, fun h => h.1⟩, hf, hg⟩
    · show f_Tree_goOn_160b (f_Tree_goOn dep) (f_Tree_goOn_160 (f_Tree_goOn dep) q) _ _ _ _ _ _ (zI o) σ = _
      unfold f_Tree_goOn_160b
      rw [e41, if_pos (by rw [zI_lt (by omega) (by omega) (by omega) (by omega)]; omega)]
    · rw [Nat.zero_mul, Nat.mul_zero]
      rfl
    · rw [Nat.zero_mul, Nat.mul_zero]
      rfl
    · rw [Nat.zero_mul, Nat.mul_zero]
      rfl
  | succ n ih =>
    intro o q J0 J1 J2 J3 f g σ h1 h2 hx hL hR hf hg
    obtain ⟨q, rfl⟩ : ∃ r, q = r + 1 := ⟨q - 1, by omega⟩
    have e41 : sI σ 41 = zI (tV d t 1) := hL.1.2.1
    have hh : hT d c fo be t cr k last o ≤ be := hG_b
    have H := x_height_2 (k := k) (o := o) (l := lT d c fo t cr k last) hL hTt hb hsl (by omega) (by omega) lb
    have H' : f_Turn_height_2 (zI k) (zI o) (zI (lT d c fo t cr k last)) σ = some (zI (hT d c fo be t cr k last o)) := H
    have RI := x_isRing (h := hT d c fo be t cr k last o) hL hb (by omega)
    -- the child
    have child : ∀ (σ' : St) (J0' : Nat), oS [37, 38] [0, 1, 2, 3] [18, 19] [] σ σ' → xR J0' J1 J2 J3 f g σ' → J0' = J0 + U * (oneIf be (hT d c fo be t cr k last o) * (tV d t 1 + 1) ^ m) → ∃ (K0 K1 K2 f' g' : Nat) (σ1 : St), f_Tree_goOn_209 (f_Tree_goOn dep) (f_Tree_goOn_160 (f_Tree_goOn dep) q) (zI fo) (zI k) (zI cr) (zI lf) (zI (lT d c fo t cr k last)) (zJ (U * (tV d t 1 + 1) ^ m : Nat)) (zI o) (zI (hT d c fo be t cr k last o)) σ' = f_Tree_goOn_160 (f_Tree_goOn dep) q (zI fo) (zI k) (zI cr) (zI lf) (zI (lT d c fo t cr k last)) (zJ (U * (tV d t 1 + 1) ^ m : Nat)) (zI (o + 1 : Nat)) σ1 ∧ oS [37, 38] [0, 1, 2, 3] [18, 19] [] σ σ1 ∧ xR K0 K1 K2 (J3 + U * TS d c fo be t vCr m (k + 1) (crT d c fo be t cr k last o) (hT d c fo be t cr k last o) (rg + oneIf be (hT d c fo be t cr k last o)) (max lf (lT d c fo t cr k last))) f' g' σ1 ∧ K0 + U * (rg * (tV d t 1 + 1) ^ m) = J0 + U * TS d c fo be t vRg m (k + 1) (crT d c fo be t cr k last o) (hT d c fo be t cr k last o) (rg + oneIf be (hT d c fo be t cr k last o)) (max lf (lT d c fo t cr k last)) ∧ K1 + U * ((k + 1) * (tV d t 1 + 1) ^ m) = J1 + U * TS d c fo be t vK m (k + 1) (crT d c fo be t cr k last o) (hT d c fo be t cr k last o) (rg + oneIf be (hT d c fo be t cr k last o)) (max lf (lT d c fo t cr k last)) ∧ K2 + U * (max lf (lT d c fo t cr k last) * (tV d t 1 + 1) ^ m) = J2 + U * TS d c fo be t vLf m (k + 1) (crT d c fo be t cr k last o) (hT d c fo be t cr k last o) (rg + oneIf be (hT d c fo be t cr k last o)) (max lf (lT d c fo t cr k last)) ∧ (∀ x, x ≤ f' ↔ (x ≤ f ∧ ∀ r, r < (tV d t 1 + 1) ^ m → x ≤ PV d c fo be t vK m (k + 1) (crT d c fo be t cr k last o) (hT d c fo be t cr k last o) (rg + oneIf be (hT d c fo be t cr k last o)) (max lf (lT d c fo t cr k last)) r)) ∧ (∀ x, g' ≤ x ↔ (g ≤ x ∧ ∀ r, r < (tV d t 1 + 1) ^ m → PV d c fo be t vK m (k + 1) (crT d c fo be t cr k last o) (hT d c fo be t cr k last o) (rg + oneIf be (hT d c fo be t cr k last o)) (max lf (lT d c fo t cr k last)) r ≤ x)) ∧ f' ≤ 4 ∧ g' ≤ 4 := by
      intro σ' J0' o' hR' hJ0
      have hL' := xL_o2 hL o' (by decide) (by decide)
      have B := x_brings (h := hT d c fo be t cr k last o) hL' hS hb (by omega)
      have br := bR_b (d := d) (be := be) (h := hT d c fo be t cr k last o) hS
      have e999 : (999 : Int32) = zI (999 : Nat) := rfl
      have em : min ((999 : Nat) : Int) ((cr + bR d be (hT d c fo be t cr k last o) : Nat) : Int) = ((crT d c fo be t cr k last o : Nat) : Int) := by
        unfold crT
        omega
      have hcr' : crT d c fo be t cr k last o ≤ 999 := by unfold crT; omega
      obtain ⟨K0, K1, K2, f', g', σ1, w1, w2, w3, w4, w5, w6, w7, w8, w9, w10⟩ := hGO dep (k + 1) (crT d c fo be t cr k last o) (hT d c fo be t cr k last o) (rg + oneIf be (hT d c fo be t cr k last o)) (max lf (lT d c fo t cr k last)) J0' J1 J2 J3 f g σ' hdep (by omega) (XD_oS hx o' (by decide) (by decide)) hL' hcr' (by omega) (by omega) hU hR' hf hg
      refine ⟨K0, K1, K2, f', g', σ1, ?_, oS_t o' w2, w3, ?_, w5, w6, w7, w8, w9, w10⟩
      · unfold f_Tree_goOn_209 f_Tree_goOn_251 f_Tree_goOn_256
        rw [B, bp_s, zI_add, ← Int.natCast_add, e999, iMin_z (by omega) (by omega) (by omega) (by omega), em, zS, zS, lt_s']
        have fl1 : ∀ {α : Type} (P Q : α), (if zI (lf : Int) = 0 then (if zI (lT d c fo t cr k last : Nat) = 0 then P else Q) else Q) = if max lf (lT d c fo t cr k last) = 0 then P else Q := by
          intro α P Q
          rcases (show lf = 0 ∨ lf = 1 by omega) with rfl | rfl
          · rw [if_pos (by decide)]
            rcases (show lT d c fo t cr k last = 0 ∨ lT d c fo t cr k last = 1 by omega) with e | e
            · rw [e, if_pos (by decide), if_pos (by decide)]
            · rw [e, if_neg (by decide), if_neg (by decide)]
          · rw [if_neg (by decide), if_neg (by omega)]
        rw [fl1]
        by_cases q0 : max lf (lT d c fo t cr k last) = 0
        · rw [if_pos q0]
          rw [q0] at w1
          have w1' : f_Tree_goOn dep (zI fo) (zI (k + 1 : Nat)) (zI (crT d c fo be t cr k last o : Nat)) (zI (hT d c fo be t cr k last o : Nat)) (zJ (U * (tV d t 1 + 1) ^ m : Nat)) 0 σ' = some σ1 := w1
          rw [w1', bp_s, lt_s']
        · rw [if_neg q0]
          have q1 : max lf (lT d c fo t cr k last) = 1 := by omega
          rw [q1] at w1
          have w1' : f_Tree_goOn dep (zI fo) (zI (k + 1 : Nat)) (zI (crT d c fo be t cr k last o : Nat)) (zI (hT d c fo be t cr k last o : Nat)) (zJ (U * (tV d t 1 + 1) ^ m : Nat)) 1 σ' = some σ1 := w1
          rw [w1', bp_s, lt_s']
      · rw [Nat.add_mul, Nat.mul_add] at w4
        omega
    have hstep : ∃ (K0 K1 K2 f' g' : Nat) (σ1 : St), f_Tree_goOn_160 (f_Tree_goOn dep) (q + 1) (zI fo) (zI k) (zI cr) (zI lf) (zI (lT d c fo t cr k last)) (zJ (U * (tV d t 1 + 1) ^ m : Nat)) (zI o) σ = f_Tree_goOn_160 (f_Tree_goOn dep) q (zI fo) (zI k) (zI cr) (zI lf) (zI (lT d c fo t cr k last)) (zJ (U * (tV d t 1 + 1) ^ m : Nat)) (zI (o + 1 : Nat)) σ1 ∧ oS [37, 38] [0, 1, 2, 3] [18, 19] [] σ σ1 ∧ xR K0 K1 K2 (J3 + U * TS d c fo be t vCr m (k + 1) (crT d c fo be t cr k last o) (hT d c fo be t cr k last o) (rg + oneIf be (hT d c fo be t cr k last o)) (max lf (lT d c fo t cr k last))) f' g' σ1 ∧ K0 + U * (rg * (tV d t 1 + 1) ^ m) = J0 + U * TS d c fo be t vRg m (k + 1) (crT d c fo be t cr k last o) (hT d c fo be t cr k last o) (rg + oneIf be (hT d c fo be t cr k last o)) (max lf (lT d c fo t cr k last)) ∧ K1 + U * ((k + 1) * (tV d t 1 + 1) ^ m) = J1 + U * TS d c fo be t vK m (k + 1) (crT d c fo be t cr k last o) (hT d c fo be t cr k last o) (rg + oneIf be (hT d c fo be t cr k last o)) (max lf (lT d c fo t cr k last)) ∧ K2 + U * (max lf (lT d c fo t cr k last) * (tV d t 1 + 1) ^ m) = J2 + U * TS d c fo be t vLf m (k + 1) (crT d c fo be t cr k last o) (hT d c fo be t cr k last o) (rg + oneIf be (hT d c fo be t cr k last o)) (max lf (lT d c fo t cr k last)) ∧ (∀ x, x ≤ f' ↔ (x ≤ f ∧ ∀ r, r < (tV d t 1 + 1) ^ m → x ≤ PV d c fo be t vK m (k + 1) (crT d c fo be t cr k last o) (hT d c fo be t cr k last o) (rg + oneIf be (hT d c fo be t cr k last o)) (max lf (lT d c fo t cr k last)) r)) ∧ (∀ x, g' ≤ x ↔ (g ≤ x ∧ ∀ r, r < (tV d t 1 + 1) ^ m → PV d c fo be t vK m (k + 1) (crT d c fo be t cr k last o) (hT d c fo be t cr k last o) (rg + oneIf be (hT d c fo be t cr k last o)) (max lf (lT d c fo t cr k last)) r ≤ x)) ∧ f' ≤ 4 ∧ g' ≤ 4 := by
      show ∃ (K0 K1 K2 f' g' : Nat) (σ1 : St), f_Tree_goOn_160b (f_Tree_goOn dep) (f_Tree_goOn_160 (f_Tree_goOn dep) q) (zI fo) (zI k) (zI cr) (zI lf) (zI (lT d c fo t cr k last)) (zJ (U * (tV d t 1 + 1) ^ m : Nat)) (zI o) σ = _ ∧ _
      unfold f_Tree_goOn_160b
      obtain ⟨r0, r1, r2, r3, r37, r38⟩ := hR
      rw [e41, if_neg (by rw [zI_lt (by omega) (by omega) (by omega) (by omega)]; omega), H', bp_s, RI, bp_s]
      by_cases qr : be ≤ hT d c fo be t cr k last o
      · have e1 : oneIf be (hT d c fo be t cr k last o) = 1 := if_pos qr
        rw [if_neg (fun e => bz0.mp e qr), r0, zJ_add, ← Int.natCast_add, lt_s']
        exact child _ _ (oS_uJ (by decide) oS_r) ⟨rfl, r1, r2, r3, r37, r38⟩ (by rw [e1, Nat.one_mul])
      · have e1 : oneIf be (hT d c fo be t cr k last o) = 0 := if_neg qr
        rw [if_pos (bz0.mpr qr)]
        exact child σ J0 oS_r ⟨r0, r1, r2, r3, r37, r38⟩ (by rw [e1, Nat.zero_mul, Nat.mul_zero, Nat.add_zero])
    obtain ⟨K0, K1, K2, f', g', σ1, w1, w2, w3, w4, w5, w6, w7, w8, w9, w10⟩ := hstep
    obtain ⟨L0, L1, L2, f2, g2, σ2, v1, v2, v3, v4, v5, v6, v7, v8, v9, v10⟩ := ih (o + 1) q K0 K1 K2 _ f' g' σ1 (by omega) (by omega) (XD_oS hx w2 (by decide) (by decide)) (xL_o2 hL w2 (by decide) (by decide)) w3 w9 w10
    have es : ∀ (F : Nat → Nat), sm F (n + 1) o = F o + sm F n (o + 1) := fun F => rfl
    refine ⟨L0, L1, L2, f2, g2, σ2, ?_, oS_t w2 v2, ?_, ?_, ?_, ?_, fun x => ?_, fun x => ?_, v9, v10⟩
    · rw [w1]
      exact v1
    · simp only [es]
      rw [Nat.mul_add, ← Nat.add_assoc]
      exact v3
    · simp only [es]
      rw [Nat.succ_mul, Nat.mul_add, Nat.mul_add, Nat.mul_add]
      omega
    · simp only [es]
      rw [Nat.succ_mul n, Nat.mul_add, Nat.mul_add, Nat.mul_add]
      omega
    · simp only [es]
      rw [Nat.succ_mul, Nat.mul_add, Nat.mul_add, Nat.mul_add]
      omega
    · rw [v7 x, w7 x]
      constructor
      · intro h
        refine ⟨h.1.1, fun o' a1 a2 => ?_⟩
        by_cases e : o' = o
        · rw [e]
          exact h.1.2
        · exact h.2 o' (by omega) (by omega)
      · intro h
        exact ⟨⟨h.1, h.2 o (by omega) (by omega)⟩, fun o' a1 a2 => h.2 o' (by omega) (by omega)⟩
    · rw [v8 x, w8 x]
      constructor
      · intro h
        refine ⟨h.1.1, fun o' a1 a2 => ?_⟩
        by_cases e : o' = o
        · rw [e]
          exact h.1.2
        · exact h.2 o' (by omega) (by omega)
      · intro h
        exact ⟨⟨h.1, h.2 o (by omega) (by omega)⟩, fun o' a1 a2 => h.2 o' (by omega) (by omega)⟩
end
