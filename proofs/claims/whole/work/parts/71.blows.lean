-- ===== blows from a state on =====
section
variable {d : FD} {c : Nat → Nat} {fo be t : Nat}
def BF (d : FD) (c : Nat → Nat) (fo be t m : Nat) : Prop := ∀ (dep k near led last : Nat) (σ : St), m < dep → k + m = sV d 0 → near ≤ k → led < 12 → (k ≤ 3 → last = lastOf d c be t k led) → last ≤ 99 → XD d σ → xL 40 17 d c t be σ → memB d c fo be t σ → (fo = 0 ∨ memR d c be t σ) → ∃ σ1, f_Tree_blowsFrom dep (zI fo) (zI k) (zI near) (zI led) (zI last) (zJ (60 ^ (4 - k) : Nat)) σ = some (zJ (wU (tV d t 1 + 1) (sV d 0) m * NB d c fo be t m k (cb d k near) last : Nat), σ1) ∧ oS [] [] [18, 19, 20] [0] σ σ1 ∧ memB d c fo be t σ1 ∧ (memR d c be t σ → memR d c be t σ1)
theorem nb_child {m k near last o near' : Nat} (hw : wfD d) (hn : near ≤ k) (hk : k ≤ 3) (hnear : near' = near + (if hT d c fo be t (cb d k near) k last o < be ∧ be ≤ hT d c fo be t (cb d k near) k last o + sV d 2 then 1 else 0)) : NB d c fo be t m (k + 1) (cb d (k + 1) near') (hT d c fo be t (cb d k near) k last o) = NB d c fo be t m (k + 1) (crT d c fo be t (cb d k near) k last o) (hT d c fo be t (cb d k near) k last o) := by
  obtain ⟨s1, s2, s3, s4, s5, s6, s7⟩ := hw.2.2.2.2.2.1
  generalize hh : hT d c fo be t (cb d k near) k last o = h at hnear
  have ecr : crT d c fo be t (cb d k near) k last o = min 999 (cb d k near + bR d be h) := by
    unfold crT
    rw [hh]
  by_cases q : be ≤ h
  · have ng : ¬ gO d c be t (k + 1) h := fun g => by
      rcases g.2.2 with e | e <;> omega
    rw [NB_n ng, NB_n ng]
  · rw [ecr]
    congr 1
    unfold bR
    rw [if_neg q]
    by_cases q2 : be ≤ h + sV d 2
    · rw [if_pos q2]
      rw [if_pos ⟨by omega, q2⟩] at hnear
      subst hnear
      unfold cb
      have e : k + 1 - (near + 1) = k - near := by omega
      rw [e, Nat.succ_mul]
      omega
    · rw [if_neg q2]
      rw [if_neg (fun e => q2 e.2), Nat.add_zero] at hnear
      rw [hnear]
      unfold cb
      have e : k + 1 - near = (k - near) + 1 := by omega
      rw [e, Nat.succ_mul]
      omega
theorem bf_slips {m dep k near led last : Nat} (hw : wfD d) (ht : t < nT d) (hp : c 5 ≤ 9) (hsl : c 4 ≤ 90) (hb : be ≤ 99) (hdep : m < dep) (hk : k + (m + 1) = sV d 0) (hn : near ≤ k) (hled : led < 12) (hlast : last = lastOf d c be t k led) (hgo : gO d c be t k last) (hBF : BF d c fo be t m) :
    ∀ (n o q S : Nat) (σ : St), o + n = tV d t 1 + 1 → n < q → XD d σ → xL 40 17 d c t be σ → memB d c fo be t σ → (fo = 0 ∨ memR d c be t σ) → S = wU (tV d t 1 + 1) (sV d 0) m * sm (fun o => NB d c fo be t m (k + 1) (crT d c fo be t (cb d k near) k last o) (hT d c fo be t (cb d k near) k last o)) o 0 →
      ∃ σ1, f_Tree_blowsFrom_98 (f_Tree_blowsFrom dep) q (zI fo) (zI k) (zI near) (zJ (60 ^ (4 - k) : Nat)) (zI (ix k near led)) (zI (lT d c fo t (cb d k near) k last)) (zJ S) (zI o) σ = some (zJ (wU (tV d t 1 + 1) (sV d 0) (m + 1) * NB d c fo be t (m + 1) k (cb d k near) last : Nat), σ1) ∧ oS [] [] [18, 19, 20] [0] σ σ1 ∧ memB d c fo be t σ1 ∧ (memR d c be t σ → memR d c be t σ1) := by
  have hTt := hw.2.2.2.2.1 t ht
  obtain ⟨t1, t2, t3, t4, t5, t6, t7⟩ := hw.2.2.2.2.1 t ht
  have hS := hw.2.2.2.2.2.1
  have s2 := hS.2.1
  have lb : lT d c fo t (cb d k near) k last ≤ 1 := lB_b
  have hix : ix k near led < 192 := by unfold ix; omega
  intro n
  induction n with
  | zero =>
    intro o q S σ h1 h2 hx hL hB hR hSe
    obtain ⟨q, rfl⟩ : ∃ r, q = r + 1 := ⟨q - 1, by omega⟩
    have e41 : sI σ 41 = zI (tV d t 1) := hL.1.2.1
    have eo : o = tV d t 1 + 1 := by omega
    subst eo
    have hd60 : 60 / (tV d t 1 + 1) ≤ 60 := Nat.div_le_self _ _
    have share : f_Tree_shareOf 60 σ = some (zJ (60 / (tV d t 1 + 1) : Nat)) := by
      unfold f_Tree_shareOf
      have e0 : (0 : Int32) = zI (0 : Nat) := rfl
      have e60 : (60 : Int64) = zJ (60 : Nat) := rfl
      rw [e41, zS, lt_s', e0, if_pos (by rw [zI_lt (by omega) (by omega) (by omega) (by omega)]; omega), zJ_w (by omega) (by omega), nzJ_z (by omega) (by omega) (by omega), gd_t, e60, zJ_div (by omega) (by omega) (by omega) (by omega), ← Int.natCast_ediv]
    have ew := wU_e (B := tV d t 1 + 1) (N := sV d 0) (m := m + 1) (by omega) (by omega) s2 (by omega)
    have e4 : 4 - (sV d 0 - (m + 1)) = 4 - k := by omega
    rw [e4] at ew
    have val : 60 ^ (4 - k) + S * (60 / (tV d t 1 + 1)) = wU (tV d t 1 + 1) (sV d 0) (m + 1) * NB d c fo be t (m + 1) k (cb d k near) last := by
      rw [NB_g hgo, Nat.mul_add, ew, hSe, wU_s]
      congr 1
      rw [Nat.mul_comm, Nat.mul_assoc]
    have step : f_Tree_blowsFrom_98 (f_Tree_blowsFrom dep) (q + 1) (zI fo) (zI k) (zI near) (zJ (60 ^ (4 - k) : Nat)) (zI (ix k near led)) (zI (lT d c fo t (cb d k near) k last)) (zJ S) (zI (tV d t 1 + 1 : Nat)) σ = some (zJ (wU (tV d t 1 + 1) (sV d 0) (m + 1) * NB d c fo be t (m + 1) k (cb d k near) last : Nat), uB σ 0 (vp_updL (sB σ 0) (ix k near led) (zJ (wU (tV d t 1 + 1) (sV d 0) (m + 1) * NB d c fo be t (m + 1) k (cb d k near) last : Nat)))) := by
      show f_Tree_blowsFrom_98b (f_Tree_blowsFrom dep) (f_Tree_blowsFrom_98 (f_Tree_blowsFrom dep) q) _ _ _ _ _ _ _ _ σ = _
      unfold f_Tree_blowsFrom_98b
      rw [e41, if_pos (by rw [zI_lt (by omega) (by omega) (by omega) (by omega)]; omega), share, bp_s, zI_in (by omega) (by omega) (by omega), gd_t, zI_cl (by omega) (by omega), Int.toNat_natCast, zJ_mul, ← Int.natCast_mul, zJ_add, ← Int.natCast_add, val, lt_s', gd_t, sB_eq, updL_e, if_pos rfl]
    refine ⟨_, step, oS_uB (by decide) oS_r, ?_, ?_⟩
    · intro k' near' led' b1 b2 b3
      rw [sB_eq, updL_e]
      by_cases e : ix k' near' led' = ix k near led
      · obtain ⟨e1, e2, e3⟩ := ix_inj b1 b2 b3 (by omega) hn hled e
        subst e1 e2 e3
        rw [if_pos rfl]
        refine .inr ?_
        unfold vOf
        have em : sV d 0 - k' = m + 1 := by omega
        rw [em, ← hlast]
      · rw [if_neg e]
        exact hB k' near' led' b1 b2 b3
    · exact fun h => h
  | succ n ih =>
    intro o q S σ h1 h2 hx hL hB hR hSe
    obtain ⟨q, rfl⟩ : ∃ r, q = r + 1 := ⟨q - 1, by omega⟩
    have e41 : sI σ 41 = zI (tV d t 1) := hL.1.2.1
    have hh : hT d c fo be t (cb d k near) k last o ≤ be := hG_b
    have H : f_Turn_height_2 (zI k) (zI o) (zI (lT d c fo t (cb d k near) k last)) σ = some (zI (hT d c fo be t (cb d k near) k last o)) := x_height_2 (k := k) (o := o) (l := lT d c fo t (cb d k near) k last) hL hTt hb hsl (by omega) (by omega) lb
    have N := x_isNear (h := hT d c fo be t (cb d k near) k last o) hL hS hb (by omega)
    have p1 := p60 (m := 4 - k) (by omega)
    have e60 : zJ ((60 ^ (4 - k) : Nat) : Int) / 60 = zJ (60 ^ (4 - (k + 1)) : Nat) := by
      have e : (60 : Int64) = zJ (60 : Nat) := rfl
      have e2 : 60 ^ (4 - k) = 60 ^ (4 - (k + 1)) * 60 := by
        have : 4 - k = (4 - (k + 1)) + 1 := by omega
        rw [this, Nat.pow_succ]
      rw [e2] at p1 ⊢
      generalize 60 ^ (4 - (k + 1)) = P at p1
      rw [e, zJ_div (by omega) (by omega) (by omega) (by omega), ← Int.natCast_ediv, Nat.mul_div_cancel _ (by omega)]
    -- the child
    have child : ∀ near' : Nat, near' = near + (if hT d c fo be t (cb d k near) k last o < be ∧ be ≤ hT d c fo be t (cb d k near) k last o + sV d 2 then 1 else 0) → ∃ σ1, f_Tree_blowsFrom dep (zI fo) (zI (k + 1 : Nat)) (zI near') (zI (o + 6 * lT d c fo t (cb d k near) k last : Nat)) (zI (hT d c fo be t (cb d k near) k last o)) (zJ (60 ^ (4 - (k + 1)) : Nat)) σ = some (zJ (wU (tV d t 1 + 1) (sV d 0) m * NB d c fo be t m (k + 1) (crT d c fo be t (cb d k near) k last o) (hT d c fo be t (cb d k near) k last o) : Nat), σ1) ∧ oS [] [] [18, 19, 20] [0] σ σ1 ∧ memB d c fo be t σ1 ∧ (memR d c be t σ → memR d c be t σ1) := by
      intro near' hnear
      obtain ⟨σ1, w1, w2, w3, w4⟩ := hBF dep (k + 1) near' (o + 6 * lT d c fo t (cb d k near) k last) (hT d c fo be t (cb d k near) k last o) σ hdep (by omega) (by rw [hnear]; split <;> omega) (by omega) (fun _ => by
        unfold lastOf hT
        rw [if_neg (by omega), Nat.add_sub_cancel]
        have e1 : (o + 6 * lT d c fo t (cb d k near) k last) % 6 = o := by omega
        have e2 : (o + 6 * lT d c fo t (cb d k near) k last) / 6 = lT d c fo t (cb d k near) k last := by omega
        rw [e1, e2]) (by omega) hx hL hB hR
      rw [nb_child hw hn (by omega) hnear] at w1
      exact ⟨σ1, w1, w2, w3, w4⟩
    have main : ∀ near' : Nat, near' = near + (if hT d c fo be t (cb d k near) k last o < be ∧ be ≤ hT d c fo be t (cb d k near) k last o + sV d 2 then 1 else 0) → ∀ t0 : Int32, zI (near : Int) + t0 = zI (near' : Int) → ∃ σ1, f_Tree_blowsFrom_143 (f_Tree_blowsFrom dep) (f_Tree_blowsFrom_98 (f_Tree_blowsFrom dep) q) (zI fo) (zI k) (zI near) (zJ (60 ^ (4 - k) : Nat)) (zI (ix k near led)) (zI (lT d c fo t (cb d k near) k last)) (zJ S) (zI o) (zI (hT d c fo be t (cb d k near) k last o)) t0 (zI near) σ = some (zJ (wU (tV d t 1 + 1) (sV d 0) (m + 1) * NB d c fo be t (m + 1) k (cb d k near) last : Nat), σ1) ∧ oS [] [] [18, 19, 20] [0] σ σ1 ∧ memB d c fo be t σ1 ∧ (memR d c be t σ → memR d c be t σ1) := by
      intro near' hnear t0 ht0
      obtain ⟨σ1, w1, w2, w3, w4⟩ := child near' hnear
      obtain ⟨σ2, v1, v2, v3, v4⟩ := ih (o + 1) q (S + wU (tV d t 1 + 1) (sV d 0) m * NB d c fo be t m (k + 1) (crT d c fo be t (cb d k near) k last o) (hT d c fo be t (cb d k near) k last o)) σ1 (by omega) (by omega) (XD_oS hx w2 (by decide) (by decide)) (xL_o2 hL w2 (by decide) (by decide)) w3 (hR.imp id w4) (by rw [sm_last, Nat.zero_add, Nat.mul_add, ← hSe])
      refine ⟨σ2, ?_, oS_t w2 v2, v3, fun h => v4 (w4 h)⟩
      rw [← v1]
      unfold f_Tree_blowsFrom_143 f_Tree_blowsFrom_171
      have eled : zI (o : Int) + 6 = zI (o + 6 : Nat) := by
        rw [zI_lit, zI_add]
        rfl
      rw [ht0, lt_s', zS, zS, e60, eled]
      rcases (show lT d c fo t (cb d k near) k last = 0 ∨ lT d c fo t (cb d k near) k last = 1 by omega) with e | e
      · rw [e] at w1 ⊢
        have eo : o + 6 * 0 = o := by omega
        rw [eo] at w1
        rw [if_pos (by decide), w1, bd_s, zJ_add, ← Int.natCast_add, lt_s', lt_s']
      · rw [e] at w1 ⊢
        have eo : o + 6 * 1 = o + 6 := by omega
        rw [eo] at w1
        rw [if_neg (by decide), w1, bd_s, zJ_add, ← Int.natCast_add, lt_s', lt_s']
    show ∃ σ1, f_Tree_blowsFrom_98b (f_Tree_blowsFrom dep) (f_Tree_blowsFrom_98 (f_Tree_blowsFrom dep) q) _ _ _ _ _ _ _ _ σ = _ ∧ _
    unfold f_Tree_blowsFrom_98b
    rw [e41, if_neg (by rw [zI_lt (by omega) (by omega) (by omega) (by omega)]; omega), H, bp_s, N, bp_s]
    by_cases qn : hT d c fo be t (cb d k near) k last o < be ∧ be ≤ hT d c fo be t (cb d k near) k last o + sV d 2
    · rw [if_neg (fun e => bz0.mp e qn)]
      exact main (near + 1) (by rw [if_pos qn]) 1 (zS near)
    · rw [if_pos (bz0.mpr qn)]
      exact main near (by rw [if_neg qn, Nat.add_zero]) 0 (by rw [zI_lit, zI_add]; exact congrArg zI (Int.add_zero _))
theorem bf_all (hw : wfD d) (ht : t < nT d) (hfo : fo < 2 ^ nR d) (hp : c 5 ≤ 9) (hsl : c 4 ≤ 90) (hb : be ≤ 99) : ∀ m, BF d c fo be t m := by
  have hTt := hw.2.2.2.2.1 t ht
  obtain ⟨t1, t2, t3, t4, t5, t6, t7⟩ := hw.2.2.2.2.1 t ht
  have hS := hw.2.2.2.2.2.1
  have s2 := hS.2.1
  have e00 : (0 : Int32) = zI (0 : Nat) := rfl
  have e192 : (192 : Int32) = zI (192 : Nat) := rfl
  have eix : ∀ k near led : Nat, (zI (k : Int) * 4 + zI (near : Int)) * 12 + zI (led : Int) = zI (ix k near led : Nat) := by
    intro k near led
    simp only [zI_lit, zI_mul, zI_add]
    rfl
  intro m
  -- nothing more
  have zero : ∀ (m dep k near led last : Nat) (σ : St), 0 < dep → k ≤ 4 → near ≤ k → led < 12 → last ≤ 99 → xL 40 17 d c t be σ → ¬ gO d c be t k last → f_Tree_blowsFrom dep (zI fo) (zI k) (zI near) (zI led) (zI last) (zJ (60 ^ (4 - k) : Nat)) σ = some (zJ (wU (tV d t 1 + 1) (sV d 0) m * NB d c fo be t m k (cb d k near) last : Nat), σ) := by
    intro m dep k near led last σ h1 h2 h3 h4 h5 hL hn
    obtain ⟨dep, rfl⟩ : ∃ q, dep = q + 1 := ⟨dep - 1, by omega⟩
    have XS := (x_goesOn (k := k) (last := last) hL hTt hS hp hb h2 h5).2 hn
    have hixb : ix k near led < 300 := by unfold ix; omega
    show f_Tree_blowsFromB (f_Tree_blowsFrom dep) (zI fo) (zI k) (zI near) (zI led) (zI last) _ σ = _
    unfold f_Tree_blowsFromB
    rw [eix, lt_s', e00, if_neg (by rw [zI_lt (by omega) (by omega) (by omega) (by omega)]; omega), ← e00, XS, bp_s, if_pos rfl, ite_self, NB_n hn, Nat.mul_zero]
    rfl
  induction m with
  | zero =>
    intro dep k near led last σ h1 h2 h3 h4 h5 h6 hx hL hB hR
    exact ⟨σ, zero 0 dep k near led last σ h1 (by omega) h3 h4 h6 hL (fun g => by have := g.1; omega), oS_r, hB, fun h => h⟩
  | succ m ih =>
    intro dep k near led last σ h1 h2 h3 h4 h5 h6 hx hL hB hR
    rcases gO_d d c be t k last with hgo | hgo
    · obtain ⟨dep, rfl⟩ : ∃ q, dep = q + 1 := ⟨dep - 1, by omega⟩
      have hlast := h5 (by omega)
      have XS := (x_goesOn (k := k) (last := last) hL hTt hS hp hb (by omega) h6).1 hgo
      have hix : ix k near led < 192 := by unfold ix; omega
      have lb : lT d c fo t (cb d k near) k last ≤ 1 := lB_b
      show ∃ σ1, f_Tree_blowsFromB (f_Tree_blowsFrom dep) (zI fo) (zI k) (zI near) (zI led) (zI last) _ σ = _ ∧ _
      unfold f_Tree_blowsFromB f_Tree_blowsFrom_89 f_Tree_blowsFrom_90
      simp only [lg_cmp_eq]
      rw [eix, lt_s', e192, if_neg (by rw [e00, zI_lt (by omega) (by omega) (by omega) (by omega)]; omega), if_neg (by rw [zI_le (by omega) (by omega) (by omega) (by omega)]; omega), XS, bp_s, if_neg (by decide), zI_in (by omega) (by omega) (by omega), gd_t, zI_cl (by omega) (by omega), Int.toNat_natCast, gd_t]
      have slips : ∀ σ', oS [] [] [18, 19, 20] [] σ σ' → (fo = 0 ∨ memR d c be t σ') → (memR d c be t σ → memR d c be t σ') → ∃ σ1, f_Tree_blowsFrom_98 (f_Tree_blowsFrom dep) FU (zI fo) (zI k) (zI near) (zJ (60 ^ (4 - k) : Nat)) (zI (ix k near led)) (zI (lT d c fo t (cb d k near) k last)) 0 0 σ' = some (zJ (wU (tV d t 1 + 1) (sV d 0) (m + 1) * NB d c fo be t (m + 1) k (cb d k near) last : Nat), σ1) ∧ oS [] [] [18, 19, 20] [0] σ σ1 ∧ memB d c fo be t σ1 ∧ (memR d c be t σ → memR d c be t σ1) := by
        intro σ' o hR' hm'
        have hB' : memB d c fo be t σ' := by
          intro k' near' led' b1 b2 b3
          rw [o.2.2.2 0 (by decide)]
          exact hB k' near' led' b1 b2 b3
        obtain ⟨σ1, w1, w2, w3, w4⟩ := bf_slips hw ht hp hsl hb (show m < dep by omega) h2 h3 h4 hlast hgo ih (tV d t 1 + 1) 0 FU 0 σ' (by omega) (FU_gt (by omega)) (XD_oS hx o (by decide) (by decide)) (xL_o2 hL o (by decide) (by decide)) hB' hR' (by rw [show sm (fun o => NB d c fo be t m (k + 1) (crT d c fo be t (cb d k near) k last o) (hT d c fo be t (cb d k near) k last o)) 0 0 = 0 from rfl, Nat.mul_zero])
        exact ⟨σ1, w1, oS_t (oS_w o (by decide) (by decide) (by decide) (by decide)) w2, w3, fun h => w4 (hm' h)⟩
      have hvb := wNB_b (d := d) (c := c) (fo := fo) (be := be) (t := t) (m := m + 1) (k := k) (cr := cb d k near) (last := last) t3 s2 (by omega)
      rcases hB k near led (by omega) h3 h4 with hb1 | hb1
      · have hb1' : sB σ 0 (ix k near led) = -1 := hb1
        rw [if_pos hb1']
        by_cases z : fo = 0
        · have hz : zI (fo : Int) = 0 := by rw [z]; rfl
          have hl0 : lT d c fo t (cb d k near) k last = 0 := by
            have hn : ¬ rL d (fA (cb d k near) k last (tV d t 5) 0 (tV d t 3 - k * c 5)) fo := by
              unfold rL
              rw [z, Nat.and_zero]
              exact fun h => h rfl
            exact leN_0 hn
          rw [if_pos hz]
          obtain ⟨σ1, w⟩ := slips σ oS_r hR (fun h => h)
          rw [hl0] at w
          exact ⟨σ1, w⟩
        · have pb : 2 ^ nR d ≤ 2 ^ 6 := Nat.pow_le_pow_right (by omega) hw.2.2.1
          have hz : ¬ zI (fo : Int) = 0 := by
            rw [e00, zI_eq (by omega) (by omega) (by omega) (by omega)]
            omega
          rw [hlast] at hgo
          obtain ⟨σ2, u1, u2, u3⟩ := x_rulesAt (fo := fo) hw ht hx hL hp hb (by omega) h3 h4 hfo hgo (hR.resolve_left z)
          rw [← hlast] at u1 hgo
          rw [if_neg hz, u1, bd_s]
          have mb := msk_b (d := d) (c := c) (be := be) (t := t) (k := k) (near := near) (led := led) hw.2.2.1
          have hle : mskOf d c be t k near led &&& fo ≤ fo := Nat.and_le_right
          have iff0 : (zI (mskOf d c be t k near led : Nat) &&& zI (fo : Int) = 0) ↔ ¬ rL d (fA (cb d k near) k last (tV d t 5) 0 (tV d t 3 - k * c 5)) fo := by
            rw [and_nat (by omega) (by omega), e00, zI_eq (by omega) (by omega) (by omega) (by omega)]
            unfold rL
            have em : mskOf d c be t k near led = mk (rH d (fA (cb d k near) k last (tV d t 5) 0 (tV d t 3 - k * c 5))) (nR d) := by
              unfold mskOf
              rw [← hlast]
            rw [em]
            constructor
            · intro h q
              exact q (by omega)
            · intro h
              have : mk (rH d (fA (cb d k near) k last (tV d t 5) 0 (tV d t 3 - k * c 5))) (nR d) &&& fo = 0 := Classical.byContradiction h
              rw [this]
          obtain ⟨σ1, w⟩ := slips σ2 (oS_w u2 (by decide) (by decide) (by decide) (by decide)) (.inr u3) (fun _ => u3)
          by_cases L : rL d (fA (cb d k near) k last (tV d t 5) 0 (tV d t 3 - k * c 5)) fo
          · have hl1 : lT d c fo t (cb d k near) k last = 1 := leN_1 L
            rw [hl1] at w
            rw [if_neg (fun e => iff0.mp e L)]
            exact ⟨σ1, w⟩
          · have hl0 : lT d c fo t (cb d k near) k last = 0 := leN_0 L
            rw [hl0] at w
            rw [if_pos (iff0.mpr L)]
            exact ⟨σ1, w⟩
      · have ev : vOf d c fo be t k near led = wU (tV d t 1 + 1) (sV d 0) (m + 1) * NB d c fo be t (m + 1) k (cb d k near) last := by
          unfold vOf
          have em : sV d 0 - k = m + 1 := by omega
          rw [em, ← hlast]
        rw [ev] at hb1
        have ne : ¬ sB σ 0 (ix k near led) = -1 := by
          have em : (-1 : Int64) = zJ (-1) := rfl
          rw [hb1, em, zJ_eq (by omega) (by omega) (by omega) (by omega)]
          omega
        rw [if_neg ne, hb1]
        exact ⟨σ, rfl, oS_r, hB, fun h => h⟩
    · exact ⟨σ, zero (m + 1) dep k near led last σ (by omega) (by omega) h3 h4 h6 hL hgo, oS_r, hB, fun h => h⟩
end
