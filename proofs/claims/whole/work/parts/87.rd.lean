-- ===== parts, products, sums =====
def oProd (b : Nat → Nat) (n ee bs dp : Nat) (L W : List Nat) (s : Nat) (r : Option (Int32 × St)) (x1 : Int32) (m : Option St) (σx σm : St) : Prop := (∃ (C Lm T : List Nat) (q' g' : Nat) (σx' σm' : St) (s' : Nat) (st' : Bool), r = some (1, σx') ∧ m = ME x1 q' g' σm' ∧ ER b n ee bs dp (L ++ C) Lm (T ++ W) s' st' σx' σm' ∧ L ++ C = Lm ++ T ∧ (∀ v, v ∈ T → v = 3 ∨ v = 4) ∧ ¬ (s' < n ∧ (b s' = 42 ∨ b s' = 47)) ∧ tyN (2 + 3 * (6 - dp)) C ∧ xK σx σx' ∧ eK σm σm' ∧ s < s' ∧ n + 2 ≤ s' + q' ∧ n + 2 ≤ s' + g') ∨ oFail r m σx σm
def oSum (b : Nat → Nat) (n ee bs dp : Nat) (L W : List Nat) (s : Nat) (r : Option (Int32 × St)) (x1 : Int32) (m : Option St) (σx σm : St) : Prop := (∃ (C Lm P : List Nat) (q' g' : Nat) (σx' σm' : St) (s' : Nat) (st' : Bool), r = some (1, σx') ∧ m = ME x1 q' g' σm' ∧ ER b n ee bs dp (L ++ C) Lm (P ++ W) s' st' σx' σm' ∧ L ++ C = Lm ++ P ∧ (∀ v, v ∈ P → 1 ≤ v ∧ v ≤ 4) ∧ noOp b n s' ∧ tyN (3 + 3 * (6 - dp)) C ∧ xK σx σx' ∧ eK σm σm' ∧ s < s' ∧ n + 2 ≤ s' + q' ∧ n + 2 ≤ s' + g') ∨ oFail r m σx σm
def SumOK (b : Nat → Nat) (n ee : Nat) (kS : Int32 → St → Option (Int32 × St)) (dp : Nat) : Prop := ∀ (x1 : Int32) (q f bs : Nat) (L W : List Nat) (s : Nat) (st : Bool) (σx σm : St), cW bs W → ER b n ee bs dp L L W s st σx σm → n + 2 ≤ s + q → n + 2 ≤ s + f → oSum b n ee bs dp L W s (kS (zI dp) σx) x1 (MP x1 q f σm) σx σm
def ProdOK (b : Nat → Nat) (n ee : Nat) (kS : Int32 → St → Option (Int32 × St)) (dp : Nat) : Prop := ∀ (x1 : Int32) (q f bs : Nat) (L W : List Nat) (s : Nat) (st : Bool) (σx σm : St), bs ≤ W.length → W.head? ≠ some 3 → W.head? ≠ some 4 → ER b n ee bs dp L L W s st σx σm → n + 2 ≤ s + q → n + 2 ≤ s + f → oProd b n ee bs dp L W s (f_Parser_readProduct kS (zI dp) σx) x1 (MP x1 q f σm) σx σm
def PartOK (b : Nat → Nat) (n ee : Nat) (kS : Int32 → St → Option (Int32 × St)) (dp : Nat) : Prop := ∀ (x1 : Int32) (q f bs : Nat) (L W : List Nat) (s : Nat) (st : Bool) (σx σm : St), bs ≤ W.length → ER b n ee bs dp L L W s st σx σm → n + 2 ≤ s + q → n + 2 ≤ s + f → oPart b n ee bs dp (1 + 3 * (6 - dp)) L W s (f_Parser_readPart kS (zI dp) σx) x1 (MP x1 q f σm) σx σm
theorem x_opener {dp : Nat} {σx σx' : St} (hd : dp < 6) (h : f_Reader_step σx = some σx') : f_Parser_passOpener (zI dp) σx = some (1, σx') := by
  unfold f_Parser_passOpener
  have e6 : (6 : Int32) = zI (6 : Nat) := rfl
  rw [e6, if_pos (by rw [zI_lt (by omega) (by omega) (by omega) (by omega)]; omega), h, bp_s]
theorem x_deep {dp s : Nat} {σx : St} (hd : dp = 6) (h : sI σx 9 = zI s) : f_Parser_passOpener (zI dp) σx = some (0, uI (uI σx 4 4) 5 (zI s)) := by
  unfold f_Parser_passOpener
  rw [hd, if_neg (by decide), h, x_tell, bd_s]
  rfl
theorem x_pass {c : Nat} {σx σx' : St} (h1 : f_Reader_isSign (zI c) σx = some 1) (h : f_Reader_step σx = some σx') : f_Parser_passSign (zI c) σx = some (1, σx') := by
  unfold f_Parser_passSign
  rw [h1, bp_s, if_neg (by decide), h, bp_s]
theorem x_passNo {c : Nat} {σx σx' : St} (h1 : f_Reader_isSign (zI c) σx = some 0) (h : f_Parser_tellWrong σx = some (0, σx')) : f_Parser_passSign (zI c) σx = some (0, σx') := by
  unfold f_Parser_passSign
  rw [h1, bp_s, if_pos rfl, h, bd_s]
  rfl
theorem oFail_m {r r' : Option (Int32 × St)} {m m' : Option St} {σx σm : St} (h : oFail r m σx σm) (hr : ∀ σ, r = some (0, σ) → r' = some (0, σ)) (hm : m' = m) : oFail r' m' σx σm := by
  obtain ⟨f, pl, σx', σm', h1, h2, h3, h4, h5⟩ := h
  exact ⟨f, pl, σx', σm', hr _ h1, hm.trans h2, h3, h4, h5⟩
section
variable {b : Nat → Nat} {n ee : Nat}
theorem t_part {kS : Int32 → St → Option (Int32 × St)} {dp : Nat} (hd : dp ≤ 6) (hS : dp < 6 → SumOK b n ee kS (dp + 1)) : PartOK b n ee kS dp := by
  intro x1 q f bs L W s st σx σm hbs h hq hf
  obtain ⟨hs, hn⟩ := ER_s h
  have h0 := h
  have a1 := h.1
  have hkb := kd_b (b := b) (n := n) (s := s) (st := st)
  have e2 : (2 : Int32) = zI (2 : Nat) := rfl
  by_cases c40 : s < n ∧ b s = 40
  · have ek := kd_sg (st := st) (sg_e (c := 40) (by omega)) c40
    have i40 : f_Reader_isSign 40 σx = some 1 := (x_isSign a1.1 a1.2.2.1 (sg_e (c := 40) (by omega))).1 c40
    unfold f_Parser_readPart
    rw [a1.2.2.1.2.1, ek, if_neg (by decide), i40, bp_s, if_neg (by decide)]
    by_cases cd : dp = 6
    · obtain ⟨σm', m1, m2, m3⟩ := mv_deep (x1 := x1) h0 c40 cd hq hf
      rw [x_deep cd a1.2.2.1.1, bd_s, if_pos rfl]
      exact .inr ⟨4, s, _, σm', rfl, m1, m2, oS_uI (by decide) (oS_uI (by decide) oS_r), m3⟩
    · obtain ⟨f', σx', σm', s', st', m1, m2, m3, m4, m5, m6, m7, m8⟩ := mv_open (x1 := x1) (q := q) h0 c40 (by omega) hf
      rw [x_opener (by omega) m2, bd_s, if_neg (by decide), zS, m3]
      have hR := hS (by omega) x1 q f' bs L (20 :: W) s' st' σx' σm' (.inr ⟨20, W, rfl, rfl, hbs⟩) m4 (by omega) m8
      rcases hR with ⟨C, Lm, P, q2, g2, σx2, σm2, s2, st2, r1, r2, r3, r4, r5, r6, r7, r8, r9, r10, r11, r12⟩ | hR
      · rw [r1, bd_s, if_neg (by decide), r2]
        by_cases c41 : s2 < n ∧ b s2 = 41
        · obtain ⟨g3, σx3, σm3, s3, st3, z1, z2, z3, z4, z5, z6, z7, z8⟩ := mv_close (x1 := x1) (q := q2) (v := 20) (.inl rfl) r3 hbs r5 c41 r12
          have pp : f_Parser_passSign 41 σx2 = some (1, σx3) := x_pass (c := 41) z1 z2
          rw [pp, bd_s, if_neg (by decide)]
          rw [if_pos rfl, List.append_nil, ← r4] at z4
          exact .inl ⟨C, q2, g3, σx3, σm3, s3, st3, rfl, z3, z4, tyN_m r7 (by omega), xK_t m5 (xK_t r8 z5), eK_t m6 (eK_t r9 z6), by omega, by omega, z8⟩
        · obtain ⟨z1, z2, σm3, z3, z4, z5, z6⟩ := mv_bad (x1 := x1) (v := 20) (c := 41) (.inl ⟨.inl rfl, rfl⟩) r3 hbs r5 r6 c41 r11 r12
          have pp : f_Parser_passSign 41 σx2 = some (0, _) := x_passNo (c := 41) z1 z2
          rw [pp, bd_s, if_pos rfl]
          exact .inr ⟨1, s2, _, σm3, rfl, z3, z4, xF_t (xK_F (xK_t m5 r8)) z5, eF_t (eK_t m6 r9).1 z6⟩
      · refine .inr (oFail_t m5 m6 (oFail_m hR (fun σ e => ?_) rfl))
        rw [e, bd_s, if_pos rfl]
  · have n40 : f_Reader_isSign 40 σx = some 0 := x_noSign (c := 40) a1 (sg_e (by omega)) c40
    -- the pair
    have pair : ∀ j v : Nat, (j = 25 ∧ v = 23) ∨ (j = 26 ∧ v = 24) → (kd b n s st = 1 ∧ wAt b n s j) → oPart b n ee bs dp (1 + 3 * (6 - dp)) L W s (f_Parser_readPair kS (zI dp) (zI (xC (v - 18) : Nat)) σx) x1 (MP x1 q f σm) σx σm := by
      intro j v hjv hw
      have hj : j = 25 ∨ j = 26 := by omega
      have hjm : j - 4 = 21 ∨ j - 4 = 22 := by omega
      have hvm : v = 20 ∨ v = 23 ∨ v = 24 := by omega
      have hv20 : ¬ v = 20 := by omega
      have hev : j - 4 + 2 = v := by omega
      obtain ⟨σx1, u1, u2⟩ := mv_pair (x1 := x1) h0 hj hw hq hf
      have sk : zI ((40 : Nat) : Int) = (40 : Int32) := rfl
      rw [sk] at u2
      unfold f_Parser_readPair f_Parser_readPair_74 f_Parser_readPair_75
      rw [u1, bp_s]
      rcases u2 with ⟨v1, pl, σm', v2, v3, v4, v5, v6⟩ | ⟨v1, cd, pl, σm', v2, v3, v4, v5, v6⟩ | ⟨v1, v2, cd⟩
      · rw [v1, bp_s, if_pos rfl, v2, bd_s]
        exact .inr ⟨1, pl, _, σm', rfl, v3, v4, v5, v6⟩
      · rw [v1, bp_s, if_neg (by decide), x_deep cd v2, bd_s, if_pos rfl, if_pos rfl]
        exact .inr ⟨4, pl, _, σm', rfl, v3, v4, v5, v6⟩
      · obtain ⟨f', σx', σm', s', st', m2, m3, m4, m5, m6, m7, m8⟩ := v2 (by omega)
        clear v2
        have hmk : isMk (j - 4) = true := by rcases hj with rfl | rfl <;> rfl
        rw [v1, bp_s, if_neg (by decide), x_opener (by omega) m2, bd_s, if_neg (by decide), zS, m3]
        have hR := hS (by omega) x1 q f' bs L ((j - 4) :: W) s' st' σx' σm' (.inr ⟨j - 4, W, rfl, hmk, hbs⟩) m4 (by omega) m8
        rcases hR with ⟨C, Lm, P, q2, g2, σx2, σm2, s2, st2, r1, r2, r3, r4, r5, r6, r7, r8, r9, r10, r11, r12⟩ | hR
        · rw [r1, bd_s, if_neg (by decide), r2]
          by_cases c44 : s2 < n ∧ b s2 = 44
          · obtain ⟨q3, σx3, σm3, s3, st3, z1, z2, z3, z4, z5, z6, z7, z8⟩ := mv_comma (x1 := x1) (v := j - 4) hjm r3 hbs r5 c44 r11 r12
            have pp : f_Parser_passSign 44 σx2 = some (1, σx3) := x_pass (c := 44) z1 z2
            rw [pp, bd_s, if_neg (by decide), z3]
            rw [← r4] at z4
            have ev : j - 4 + 2 = v := hev
            rw [ev] at z4
            have hmk2 : isMk v = true := by rcases hjv with ⟨_, rfl⟩ | ⟨_, rfl⟩ <;> rfl
            have hFU : n + 2 ≤ s3 + FU := by
              have : FU = 100000 := rfl
              omega
            have hR2 := hS (by omega) x1 q3 FU bs (L ++ C) (v :: W) s3 st3 σx3 σm3 (.inr ⟨v, W, rfl, hmk2, hbs⟩) z4 z8 hFU
            rcases hR2 with ⟨C', Lm', P', q4, g4, σx4, σm4, s4, st4, t1, t2, t3, t4, t5, t6, t7, t8, t9, t10, t11, t12⟩ | hR2
            · rw [t1, bd_s, if_neg (by decide), t2]
              by_cases c41 : s4 < n ∧ b s4 = 41
              · obtain ⟨g5, σx5, σm5, s5, st5, y1, y2, y3, y4, y5, y6, y7, y8⟩ := mv_close (x1 := x1) (q := q4) (v := v) hvm t3 hbs t5 c41 t12
                have pp : f_Parser_passSign 41 σx4 = some (1, σx5) := x_pass (c := 41) y1 y2
                have hb4 := ER_s t3
                have hb5 := ER_s y4
                rw [pp, bd_s, if_neg (by decide), if_neg (by decide)]
                rw [if_neg hv20, ← t4] at y4
                obtain ⟨d1, d2, d3, d4, d5, d6, d7, d8⟩ := y4
                have hll : (L ++ C ++ C').length + 1 + W.length + 1 + ee < s5 := by
                  rw [List.length_append (as := L ++ C ++ C')] at d7
                  exact d7
                obtain ⟨σx6, w1, w2, w3⟩ := x_emit (c := v - 18) d2 (by omega)
                rw [w1, bp_s]
                have eC : L ++ (C ++ C' ++ [v - 18]) = L ++ C ++ C' ++ [v - 18] := by simp
                refine .inl ⟨C ++ C' ++ [v - 18], q4, g5, σx6, σm5, s5, st5, rfl, y3, ⟨SY_o d1 w3 (oS_r (I := []) (J := []) (A := []) (B := [])) (by decide) (by decide) (by decide) (by decide), by rw [eC]; exact w2, by rw [eC]; exact d3, d4, d5, d6, by rw [eC]; exact d7, d8⟩, ?_, xK_t m5 (xK_t r8 (xK_t z5 (xK_t t8 (xK_t y5 (xK_e w3))))), eK_t m6 (eK_t r9 (eK_t z6 (eK_t t9 y6))), by omega, by omega, y8⟩
                exact tyN_o (tyN_m r7 (by omega)) t7 (by omega) (by omega)
              · obtain ⟨y1, y2, σm5, y3, y4, y5, y6⟩ := mv_bad (x1 := x1) (v := v) (c := 41) (.inl ⟨hvm, rfl⟩) t3 hbs t5 t6 c41 t11 t12
                have pp : f_Parser_passSign 41 σx4 = some (0, _) := x_passNo (c := 41) y1 y2
                rw [pp, bd_s, if_pos rfl, if_pos rfl]
                exact .inr ⟨1, s4, _, σm5, rfl, y3, y4, xF_t (xK_F (xK_t m5 (xK_t r8 (xK_t z5 t8)))) y5, eF_t (eK_t m6 (eK_t r9 (eK_t z6 t9))).1 y6⟩
            · refine .inr (oFail_t (xK_t m5 (xK_t r8 z5)) (eK_t m6 (eK_t r9 z6)) (oFail_m hR2 (fun σ e => ?_) rfl))
              rw [e, bd_s, if_pos rfl, if_pos rfl]
              rfl
          · obtain ⟨z1, z2, σm3, z3, z4, z5, z6⟩ := mv_bad (x1 := x1) (v := j - 4) (c := 44) (.inr ⟨hjm, rfl⟩) r3 hbs r5 r6 c44 r11 r12
            have pp : f_Parser_passSign 44 σx2 = some (0, _) := x_passNo (c := 44) z1 z2
            rw [pp, bd_s, if_pos rfl, if_pos rfl]
            exact .inr ⟨1, s2, _, σm3, rfl, z3, z4, xF_t (xK_F (xK_t m5 r8)) z5, eF_t (eK_t m6 r9).1 z6⟩
        · refine .inr (oFail_t m5 m6 (oFail_m hR (fun σ e => ?_) rfl))
          rw [e, bd_s, if_pos rfl, if_pos rfl]
          rfl
    have unb : ∀ (x : Int32), oPart b n ee bs dp (1 + 3 * (6 - dp)) L W s (f_Parser_readPair kS (zI dp) x σx) x1 (MP x1 q f σm) σx σm → oPart b n ee bs dp (1 + 3 * (6 - dp)) L W s (bd (f_Parser_readPair kS (zI dp) x σx) fun r_8 σ_9 => gd (isB r_8) <| some (r_8, σ_9)) x1 (MP x1 q f σm) σx σm := by
      intro x hx
      rcases hx with ⟨C, q', g', σx', σm', s', st', r1, r2⟩ | hR
      · refine .inl ⟨C, q', g', σx', σm', s', st', ?_, r2⟩
        rw [r1]
        rfl
      · refine .inr (oFail_m hR (fun σ e => ?_) rfl)
        rw [e]
        rfl
    by_cases c25 : kd b n s st = 1 ∧ wAt b n s 25
    · have i25 : f_Reader_isWord 25 σx = some 1 := (x_isWord (j := 25) a1.1.1 a1.2.2.1 a1.2.2.2.2.2 (by omega)).1 c25
      unfold f_Parser_readPart
      rw [a1.2.2.1.2.1, c25.1, if_neg (by decide), n40, bp_s, if_pos rfl, i25, bp_s, if_neg (by decide)]
      exact unb _ (pair 25 23 (.inl ⟨rfl, rfl⟩) c25)
    · have i25 : f_Reader_isWord 25 σx = some 0 := x_noWord (j := 25) a1 (by omega) c25
      by_cases c26 : kd b n s st = 1 ∧ wAt b n s 26
      · have i26 : f_Reader_isWord 26 σx = some 1 := (x_isWord (j := 26) a1.1.1 a1.2.2.1 a1.2.2.2.2.2 (by omega)).1 c26
        unfold f_Parser_readPart
        rw [a1.2.2.1.2.1, c26.1, if_neg (by decide), n40, bp_s, if_pos rfl, i25, bp_s, if_pos rfl, i26, bp_s, if_neg (by decide)]
        exact unb _ (pair 26 24 (.inr ⟨rfl, rfl⟩) c26)
      · rcases t_small (x1 := x1) kS h0 c40 c25 c26 hq hf with ⟨C, q', g', σx', σm', s', st', r1, r2, r3, r4, r5⟩ | hR
        · exact .inl ⟨C, q', g', σx', σm', s', st', r1, r2, r3, tyN_m r4 (by omega), r5⟩
        · exact .inr hR
end
