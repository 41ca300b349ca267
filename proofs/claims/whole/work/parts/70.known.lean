-- ===== what is known of the blows =====
noncomputable def NB (d : FD) (c : Nat → Nat) (fo be t : Nat) : Nat → Nat → Nat → Nat → Nat
  | 0, _, _, _ => 0
  | m + 1, k, cr, last => @ite Nat (gO d c be t k last) (Classical.propDecidable _) ((tV d t 1 + 1) ^ (m + 1) + sm (fun o => NB d c fo be t m (k + 1) (crT d c fo be t cr k last o) (hT d c fo be t cr k last o)) (tV d t 1 + 1) 0) 0
section
variable {d : FD} {c : Nat → Nat} {fo be t : Nat}
theorem NB_g {m k cr last : Nat} (h : gO d c be t k last) : NB d c fo be t (m + 1) k cr last = (tV d t 1 + 1) ^ (m + 1) + sm (fun o => NB d c fo be t m (k + 1) (crT d c fo be t cr k last o) (hT d c fo be t cr k last o)) (tV d t 1 + 1) 0 := if_pos h
theorem NB_n {m k cr last : Nat} (h : ¬ gO d c be t k last) : NB d c fo be t m k cr last = 0 := by
  cases m with
  | zero => rfl
  | succ m => exact if_neg h
theorem NB_TS : ∀ m k cr last rg lf, TS d c fo be t vK m k cr last rg lf = k * (tV d t 1 + 1) ^ m + NB d c fo be t m k cr last := by
  intro m
  induction m with
  | zero =>
    intro k cr last rg lf
    rw [Nat.pow_zero, Nat.mul_one]
    rfl
  | succ m ih =>
    intro k cr last rg lf
    rcases gO_d d c be t k last with g | g
    · rw [TS_g g, NB_g g]
      have e : (fun o => TS d c fo be t vK m (k + 1) (crT d c fo be t cr k last o) (hT d c fo be t cr k last o) (rg + oneIf be (hT d c fo be t cr k last o)) (max lf (lT d c fo t cr k last))) = (fun o => (k + 1) * (tV d t 1 + 1) ^ m + NB d c fo be t m (k + 1) (crT d c fo be t cr k last o) (hT d c fo be t cr k last o)) := by
        funext o
        exact ih _ _ _ _ _
      rw [e, sm_add, sm_const]
      have e2 : (tV d t 1 + 1) * ((k + 1) * (tV d t 1 + 1) ^ m) = k * (tV d t 1 + 1) ^ (m + 1) + (tV d t 1 + 1) ^ (m + 1) := by
        rw [Nat.pow_succ, Nat.mul_left_comm, Nat.mul_comm (tV d t 1 + 1) ((tV d t 1 + 1) ^ m), Nat.succ_mul]
      rw [e2, Nat.add_assoc]
    · rw [TS_n g, NB_n g]
      rfl
end
def ix (k near led : Nat) : Nat := (k * 4 + near) * 12 + led
/-- the height before: by the slip and the lean -/
def lastOf (d : FD) (c : Nat → Nat) (be t k led : Nat) : Nat := if k = 0 then 0 else hG be (c 4) (tV d t 0) (tV d t 2) (k - 1) (led % 6) (led / 6)
def cb (d : FD) (k near : Nat) : Nat := min 999 (sV d 1 + near * sV d 4 + (k - near) * sV d 5)
def wU (B N m : Nat) : Nat := (60 / B) ^ m * 60 ^ (4 - N)
noncomputable def mskOf (d : FD) (c : Nat → Nat) (be t k near led : Nat) : Nat := mk (rH d (fA (cb d k near) k (lastOf d c be t k led) (tV d t 5) 0 (tV d t 3 - k * c 5))) (nR d)
noncomputable def vOf (d : FD) (c : Nat → Nat) (fo be t k near led : Nat) : Nat := wU (tV d t 1 + 1) (sV d 0) (sV d 0 - k) * NB d c fo be t (sV d 0 - k) k (cb d k near) (lastOf d c be t k led)
def memB (d : FD) (c : Nat → Nat) (fo be t : Nat) (σ : St) : Prop := ∀ k near led, k ≤ 3 → near ≤ k → led < 12 → sB σ 0 (ix k near led) = zJ (-1) ∨ sB σ 0 (ix k near led) = zJ (vOf d c fo be t k near led)
def memR (d : FD) (c : Nat → Nat) (be t : Nat) (σ : St) : Prop := ∀ k near led, k ≤ 3 → near ≤ k → led < 12 → sA σ 20 (ix k near led) = zI (-1) ∨ sA σ 20 (ix k near led) = zI (mskOf d c be t k near led)
theorem wU_e {B N m : Nat} (h1 : 1 ≤ B) (h2 : B ≤ 6) (h3 : N ≤ 4) (hm : m ≤ N) : wU B N m * B ^ m = 60 ^ (4 - (N - m)) := by
  unfold wU
  have hB : 60 / B * B = 60 := by
    rcases (show B = 1 ∨ B = 2 ∨ B = 3 ∨ B = 4 ∨ B = 5 ∨ B = 6 by omega) with rfl | rfl | rfl | rfl | rfl | rfl <;> rfl
  rw [Nat.mul_right_comm, ← Nat.mul_pow, hB, ← Nat.pow_add]
  have e : m + (4 - N) = 4 - (N - m) := by omega
  rw [e]
theorem wU_s {B N m : Nat} : wU B N (m + 1) = 60 / B * wU B N m := by
  unfold wU
  rw [Nat.pow_succ, Nat.mul_right_comm, Nat.mul_comm]
theorem NB_b {d : FD} {c : Nat → Nat} {fo be t : Nat} : ∀ m k cr last, NB d c fo be t m k cr last ≤ m * (tV d t 1 + 1) ^ m := by
  intro m
  induction m with
  | zero => intro k cr last; exact Nat.zero_le _
  | succ m ih =>
    intro k cr last
    rcases gO_d d c be t k last with g | g
    · rw [NB_g g]
      have hs : ∀ n u, sm (fun o => NB d c fo be t m (k + 1) (crT d c fo be t cr k last o) (hT d c fo be t cr k last o)) n u ≤ n * (m * (tV d t 1 + 1) ^ m) := by
        intro n
        induction n with
        | zero => intro u; exact Nat.zero_le _
        | succ n ihn =>
          intro u
          have a := ih (k + 1) (crT d c fo be t cr k last u) (hT d c fo be t cr k last u)
          have b := ihn (u + 1)
          rw [Nat.succ_mul]
          show _ + _ ≤ _
          exact Nat.le_trans (Nat.add_le_add a b) (by rw [Nat.add_comm]; exact Nat.le_refl _)
      have := hs (tV d t 1 + 1) 0
      have e : (tV d t 1 + 1) * (m * (tV d t 1 + 1) ^ m) = m * (tV d t 1 + 1) ^ (m + 1) := by
        rw [Nat.pow_succ, Nat.mul_left_comm, Nat.mul_comm (tV d t 1 + 1)]
      rw [e] at this
      rw [Nat.succ_mul]
      omega
    · rw [NB_n g]
      exact Nat.zero_le _
theorem p60 {m : Nat} (h : m ≤ 4) : 60 ^ m ≤ 12960000 := Nat.le_trans (Nat.pow_le_pow_right (by omega) h) (by decide)
theorem wNB_b {d : FD} {c : Nat → Nat} {fo be t m k cr last : Nat} (h2 : tV d t 1 ≤ 5) (h3 : sV d 0 ≤ 4) (hm : m ≤ sV d 0) : wU (tV d t 1 + 1) (sV d 0) m * NB d c fo be t m k cr last ≤ 51840000 := by
  have h := NB_b (d := d) (c := c) (fo := fo) (be := be) (t := t) m k cr last
  have e := wU_e (B := tV d t 1 + 1) (N := sV d 0) (m := m) (by omega) (by omega) h3 hm
  have h4 : wU (tV d t 1 + 1) (sV d 0) m * NB d c fo be t m k cr last ≤ wU (tV d t 1 + 1) (sV d 0) m * (m * (tV d t 1 + 1) ^ m) := Nat.mul_le_mul_left _ h
  rw [Nat.mul_left_comm, e] at h4
  have h5 := p60 (m := 4 - (sV d 0 - m)) (by omega)
  have h6 : m * 60 ^ (4 - (sV d 0 - m)) ≤ 4 * 12960000 := Nat.mul_le_mul (by omega) h5
  omega
theorem ix_inj {k near led k' near' led' : Nat} (h1 : k ≤ 3) (h2 : near ≤ k) (h3 : led < 12) (h1' : k' ≤ 3) (h2' : near' ≤ k') (h3' : led' < 12) (h : ix k near led = ix k' near' led') : k = k' ∧ near = near' ∧ led = led' := by
  unfold ix at h
  omega
/-- X's crowd, by how many were near -/
theorem x_crowdBehind {d : FD} {c : Nat → Nat} {be t k near : Nat} {σ : St} (hw : wfD d) (hL : xL 40 17 d c t be σ) (hk : k ≤ 4) (hn : near ≤ k) : f_Turn_crowdBehind (zI k) (zI near) σ = some (zI (cb d k near)) := by
  obtain ⟨s1, s2, s3, s4, s5, s6, s7⟩ := hw.2.2.2.2.2.1
  obtain ⟨-, ⟨-, -, -, -, -, e11⟩, -, f1, f2⟩ := hL
  simp only [Nat.reduceAdd] at e11
  unfold f_Turn_crowdBehind cb
  have e999 : (999 : Int32) = zI (999 : Nat) := rfl
  have b1 : near * sV d 4 ≤ 4 * 9 := Nat.mul_le_mul (by omega) s6
  have b2 : (k - near) * sV d 5 ≤ 4 * 9 := Nat.mul_le_mul (by omega) s7
  have ek : zI (k : Int) - zI (near : Int) = zI ((k - near : Nat) : Int) := by
    rw [zI_sub]
    congr 1
    omega
  rw [e11, cl1, cl2, f1, f2, ek, zI_mul, zI_mul, zI_add, zI_add, ← Int.natCast_mul, ← Int.natCast_mul, ← Int.natCast_add, ← Int.natCast_add, e999, iMin_z (by omega) (by omega) (by omega) (by omega)]
  congr 2
  omega
theorem msk_b {d : FD} {c : Nat → Nat} {be t k near led : Nat} (hr : nR d ≤ 6) : mskOf d c be t k near led < 64 := by
  have := mk_b (rH d (fA (cb d k near) k (lastOf d c be t k led) (tV d t 5) 0 (tV d t 3 - k * c 5))) (nR d)
  have : 2 ^ nR d ≤ 2 ^ 6 := Nat.pow_le_pow_right (by omega) hr
  unfold mskOf
  omega
theorem x_rulesAt {d : FD} {c : Nat → Nat} {fo be t k near led : Nat} {σ : St} (hw : wfD d) (ht : t < nT d) (hx : XD d σ) (hL : xL 40 17 d c t be σ) (hp : c 5 ≤ 9) (hb : be ≤ 99) (hk : k ≤ 3) (hn : near ≤ k) (hl : led < 12) (hfo : fo < 2 ^ nR d) (hg : gO d c be t k (lastOf d c be t k led)) (hR : memR d c be t σ) : ∃ σ1, f_Tree_rulesAt (zI (ix k near led)) (zI k) (zI near) (zI (lastOf d c be t k led)) σ = some (zI (mskOf d c be t k near led), σ1) ∧ oS [] [] [18, 19, 20] [] σ σ1 ∧ memR d c be t σ1 := by
  obtain ⟨t1, t2, t3, t4, t5, t6, t7⟩ := hw.2.2.2.2.1 t ht
  obtain ⟨s1, s2, s3, s4, s5, s6, s7⟩ := hw.2.2.2.2.2.1
  obtain ⟨g1, g2, g3⟩ := hg
  have hix : ix k near led < 192 := by unfold ix; omega
  have kpb := kp_b (k := k) (p := c 5) (by omega) hp
  have kp1 : (k + 1) * c 5 = k * c 5 + c 5 := Nat.succ_mul k (c 5)
  have hlast : lastOf d c be t k led ≤ 99 := by
    unfold lastOf
    split
    · omega
    · exact Nat.le_trans hG_b hb
  have hcb : cb d k near ≤ 999 := by unfold cb; omega
  have mb := msk_b (d := d) (c := c) (be := be) (t := t) (k := k) (near := near) (led := led) hw.2.2.1
  unfold f_Tree_rulesAt f_Tree_rulesAt_67
  rw [zI_in (by omega) (by omega) (by omega), gd_t, zI_cl (by omega) (by omega), Int.toNat_natCast]
  rcases hR k near led hk hn hl with h | h
  · have h' : sA σ 20 (ix k near led) = -1 := h
    rw [if_pos h']
    have XC := x_coinsBehind (k := k) hL
    have eco : ((tV d t 3 : Int) - ((k * c 5 : Nat) : Int)) = ((tV d t 3 - k * c 5 : Nat) : Int) := by omega
    have cbd : ∀ f, f_Turn_coinsBehind (zI k) (uA σ 18 f) = some (zI ((tV d t 3 - k * c 5 : Nat) : Int)) := fun f => by
      rw [← eco]
      exact XC
    have c45 : ∀ f, sI (uA σ 18 f) 45 = zI (tV d t 5) := fun f => hL.1.2.2.2.2.2
    unfold f_Showman_look_2 f_Showman_lookAt_2
    rw [x_crowdBehind hw hL (by omega) hn, bp_s]
    simp only [lt_q, bp_q, uA_uA, sA_eq, cl0, cl1, cl2, cl3, cl4, cl5, cbd, c45]
    generalize hgg : upd _ 5 (zI ((tV d t 3 - k * c 5 : Nat) : Int)) = gg
    have hgk : ∀ i, i < 6 → sA (uA σ 18 gg) 18 i = zI (fA (cb d k near) k (lastOf d c be t k led) (tV d t 5) 0 (tV d t 3 - k * c 5) i) := by
      intro i hi
      rw [sA_eq, ← hgg]
      match i, hi with
      | 0, _ => rfl
      | 1, _ => rfl
      | 2, _ => rfl
      | 3, _ => rfl
      | 4, _ => rfl
      | 5, _ => rfl
    have hoX : oS [] [] [18, 19, 20] [] σ (uA σ 18 gg) := oS_uA (by decide) oS_r
    obtain ⟨f', q1, -⟩ := x_lean_2 (σ := uA σ 18 gg) (fo := fo) hw (XD_oS hx hoX (by decide) (by decide)) hgk (fA_b (by omega) (by omega) (by omega) (by omega) (by omega) (by omega)) hfo
    have emk : mk (rH d (fA (cb d k near) k (lastOf d c be t k led) (tV d t 5) 0 (tV d t 3 - k * c 5))) (nR d) = mskOf d c be t k near led := rfl
    rw [q1, bd_s, gd_t, emk, gd_t, upd_e, if_pos rfl]
    refine ⟨_, rfl, oS_uA (by decide) (oS_uA (by decide) hoX), ?_⟩
    intro k' near' led' b1 b2 b3
    rw [sA_eq, upd_e]
    by_cases e : ix k' near' led' = ix k near led
    · obtain ⟨e1, e2, e3⟩ := ix_inj b1 b2 b3 hk hn hl e
      subst e1 e2 e3
      rw [if_pos rfl]
      exact .inr rfl
    · rw [if_neg e]
      exact hR k' near' led' b1 b2 b3
  · have ne : ¬ sA σ 20 (ix k near led) = -1 := by
      have em : (-1 : Int32) = zI (-1) := rfl
      rw [h, em, zI_eq (by omega) (by omega) (by omega) (by omega)]
      omega
    rw [if_neg ne, gd_t, h]
    exact ⟨_, rfl, oS_r, hR⟩
