-- ===== all but some places =====
def oS (I J A B : List Nat) (σ σ' : St) : Prop := (∀ k, k ∉ I → sI σ' k = sI σ k) ∧ (∀ k, k ∉ J → sJ σ' k = sJ σ k) ∧ (∀ k, k ∉ A → sA σ' k = sA σ k) ∧ (∀ k, k ∉ B → sB σ' k = sB σ k)
section
variable {I J A B : List Nat} {σ σ' σ'' : St}
theorem oS_r : oS I J A B σ σ := ⟨fun _ _ => rfl, fun _ _ => rfl, fun _ _ => rfl, fun _ _ => rfl⟩
theorem oS_t (h : oS I J A B σ σ') (h2 : oS I J A B σ' σ'') : oS I J A B σ σ'' := ⟨fun k hk => (h2.1 k hk).trans (h.1 k hk), fun k hk => (h2.2.1 k hk).trans (h.2.1 k hk), fun k hk => (h2.2.2.1 k hk).trans (h.2.2.1 k hk), fun k hk => (h2.2.2.2 k hk).trans (h.2.2.2 k hk)⟩
theorem oS_uI {k : Nat} {v : Int32} (hk : k ∈ I) (h : oS I J A B σ σ') : oS I J A B σ (uI σ' k v) := by
  refine ⟨fun j hj => ?_, h.2.1, h.2.2.1, h.2.2.2⟩
  rw [sI_uI, if_neg (show ¬ j = k from fun e => hj (by rw [e]; exact hk))]
  exact h.1 j hj
theorem oS_uJ {k : Nat} {v : Int64} (hk : k ∈ J) (h : oS I J A B σ σ') : oS I J A B σ (uJ σ' k v) := by
  refine ⟨h.1, fun j hj => ?_, h.2.2.1, h.2.2.2⟩
  rw [sJ_uJ, if_neg (show ¬ j = k from fun e => hj (by rw [e]; exact hk))]
  exact h.2.1 j hj
theorem oS_uA {k : Nat} {v : Nat → Int32} (hk : k ∈ A) (h : oS I J A B σ σ') : oS I J A B σ (uA σ' k v) := by
  refine ⟨h.1, h.2.1, fun j hj => ?_, h.2.2.2⟩
  rw [sA_uA, if_neg (show ¬ j = k from fun e => hj (by rw [e]; exact hk))]
  exact h.2.2.1 j hj
theorem oS_uB {k : Nat} {v : Nat → Int64} (hk : k ∈ B) (h : oS I J A B σ σ') : oS I J A B σ (uB σ' k v) := by
  refine ⟨h.1, h.2.1, h.2.2.1, fun j hj => ?_⟩
  rw [sB_uB, if_neg (show ¬ j = k from fun e => hj (by rw [e]; exact hk))]
  exact h.2.2.2 j hj
theorem oS_w {I' J' A' B' : List Nat} (h : oS I J A B σ σ') (h1 : ∀ k, k ∈ I → k ∈ I') (h2 : ∀ k, k ∈ J → k ∈ J') (h3 : ∀ k, k ∈ A → k ∈ A') (h4 : ∀ k, k ∈ B → k ∈ B') : oS I' J' A' B' σ σ' := ⟨fun k hk => h.1 k (fun e => hk (h1 k e)), fun k hk => h.2.1 k (fun e => hk (h2 k e)), fun k hk => h.2.2.1 k (fun e => hk (h3 k e)), fun k hk => h.2.2.2 k (fun e => hk (h4 k e))⟩
theorem eX_oS (h : oS I J A B σ σ') (hi : ∀ k, k ∈ [0, 1, 2, 3, 4, 5, 17, 18, 19, 22, 23, 24, 53, 54, 55] → k ∉ I) (ha : ∀ k, k ∈ [0, 1, 9, 10, 11, 12, 13, 21, 22, 23, 24, 25, 26, 27, 28, 29, 30] → k ∉ A) : eX σ σ' :=
  ⟨⟨h.1 0 (hi 0 (by decide)), h.1 1 (hi 1 (by decide)), h.1 2 (hi 2 (by decide)), h.1 3 (hi 3 (by decide)), h.1 4 (hi 4 (by decide)), h.1 5 (hi 5 (by decide)), h.1 17 (hi 17 (by decide)), h.1 18 (hi 18 (by decide)), h.1 19 (hi 19 (by decide)), h.1 22 (hi 22 (by decide)), h.1 23 (hi 23 (by decide)), h.1 24 (hi 24 (by decide)), h.1 53 (hi 53 (by decide)), h.1 54 (hi 54 (by decide)), h.1 55 (hi 55 (by decide))⟩,
    h.2.2.1 0 (ha 0 (by decide)), h.2.2.1 1 (ha 1 (by decide)), h.2.2.1 9 (ha 9 (by decide)), h.2.2.1 10 (ha 10 (by decide)), h.2.2.1 11 (ha 11 (by decide)), h.2.2.1 12 (ha 12 (by decide)), h.2.2.1 13 (ha 13 (by decide)), h.2.2.1 21 (ha 21 (by decide)), h.2.2.1 22 (ha 22 (by decide)), h.2.2.1 23 (ha 23 (by decide)), h.2.2.1 24 (ha 24 (by decide)), h.2.2.1 25 (ha 25 (by decide)), h.2.2.1 26 (ha 26 (by decide)), h.2.2.1 27 (ha 27 (by decide)), h.2.2.1 28 (ha 28 (by decide)), h.2.2.1 29 (ha 29 (by decide)), h.2.2.1 30 (ha 30 (by decide))⟩
theorem XD_oS {d : FD} (hd : XD d σ) (h : oS I J A B σ σ') (hi : ∀ k, k ∈ [53, 54, 55] → k ∉ I) (ha : ∀ k, k ∈ [21, 22, 23, 24, 25, 26, 27] → k ∉ A) : XD d σ' := by
  unfold XD
  rw [h.1 53 (hi 53 (by decide)), h.1 54 (hi 54 (by decide)), h.1 55 (hi 55 (by decide)), h.2.2.1 21 (ha 21 (by decide)), h.2.2.1 22 (ha 22 (by decide)), h.2.2.1 23 (ha 23 (by decide)), h.2.2.1 24 (ha 24 (by decide)), h.2.2.1 25 (ha 25 (by decide)), h.2.2.1 26 (ha 26 (by decide)), h.2.2.1 27 (ha 27 (by decide))]
  exact hd
theorem MD_oS {d : FD} (hd : MD d σ) (h : oS I J A B σ σ') (ha : ∀ k, k ∈ [2, 3, 4, 5, 6, 8, 9] → k ∉ A) (hb : 0 ∉ B) : MD d σ' := by
  unfold MD
  rw [h.2.2.1 2 (ha 2 (by decide)), h.2.2.1 3 (ha 3 (by decide)), h.2.2.1 4 (ha 4 (by decide)), h.2.2.1 5 (ha 5 (by decide)), h.2.2.1 6 (ha 6 (by decide)), h.2.2.1 8 (ha 8 (by decide)), h.2.2.1 9 (ha 9 (by decide)), h.2.2.2 0 hb]
  exact hd
theorem eM_oS (h : oS I J A B σ σ') (hi : ∀ k, k ∈ [0, 6, 7, 26, 27, 28, 29, 30] → k ∉ I) (hj : 5 ∉ J) (ha : ∀ k, k ∈ [0, 1, 11, 12, 13, 14, 15, 2, 3, 4, 5, 6, 8, 9] → k ∉ A) (hb : 0 ∉ B) : eM σ σ' := by
  have a2 := h.2.2.1 2 (ha 2 (by decide))
  have a3 := h.2.2.1 3 (ha 3 (by decide))
  have a4 := h.2.2.1 4 (ha 4 (by decide))
  have a5 := h.2.2.1 5 (ha 5 (by decide))
  have a6 := h.2.2.1 6 (ha 6 (by decide))
  have a8 := h.2.2.1 8 (ha 8 (by decide))
  have a9 := h.2.2.1 9 (ha 9 (by decide))
  have b0 := h.2.2.2 0 hb
  exact ⟨⟨h.1 0 (hi 0 (by decide)), h.1 6 (hi 6 (by decide)), h.1 7 (hi 7 (by decide)), h.1 26 (hi 26 (by decide)), h.1 27 (hi 27 (by decide)), h.1 28 (hi 28 (by decide)), h.1 29 (hi 29 (by decide)), h.1 30 (hi 30 (by decide)), h.2.1 5 hj⟩, ⟨h.2.2.1 0 (ha 0 (by decide)), h.2.2.1 1 (ha 1 (by decide)), h.2.2.1 11 (ha 11 (by decide)), h.2.2.1 12 (ha 12 (by decide)), h.2.2.1 13 (ha 13 (by decide)), h.2.2.1 14 (ha 14 (by decide)), h.2.2.1 15 (ha 15 (by decide))⟩, by rw [a2], by rw [a2], by rw [a2], fun k => by rw [a3], fun k => by rw [a4], fun k => by rw [a5], fun k => by rw [a6], fun k => by rw [a8], fun k => by rw [a9], fun k => by rw [b0], fun k => by rw [b0]⟩
end
-- ===== acts =====
/-- how many acts stay below a new one -/
def aB (a : Nat) : Nat := if a < 20 then a else 19
theorem x_addAct {a : Nat} {k v : Int32} {σ : St} (ha : a ≤ 20) (h : sI σ 23 = zI a) : ∃ σ1, f_Book_addAct k v σ = some σ1 ∧ oS [23] [] [10, 11, 12] [] σ σ1 ∧ sI σ1 23 = zI (aB a + 1 : Nat) ∧ (∀ j, j < aB a → sA σ1 10 j = sA σ 10 (j + (a - aB a)) ∧ sA σ1 11 j = sA σ 11 (j + (a - aB a)) ∧ sA σ1 12 j = sA σ 12 (j + (a - aB a))) ∧ sA σ1 10 (aB a) = k ∧ sA σ1 11 (aB a) = v ∧ sA σ1 12 (aB a) = 0 := by
  have key : ∀ (b : Nat) (τ : St), b < 20 → sI τ 23 = zI b → f_Book_addAct_60 k v τ = some (uI (uA (uA (uA τ 10 (upd (sA τ 10) b k)) 11 (upd (sA τ 11) b v)) 12 (upd (sA τ 12) b 0)) 23 (zI (b + 1 : Nat))) := by
    intro b τ hb e
    unfold f_Book_addAct_60
    have i1 : ∀ f, sI (uA τ 10 f) 23 = zI b := fun f => e
    have i2 : ∀ f g, sI (uA (uA τ 10 f) 11 g) 23 = zI b := fun f g => e
    have i3 : ∀ f g h, sI (uA (uA (uA τ 10 f) 11 g) 12 h) 23 = zI b := fun f g h => e
    simp only [e, i1, i2, i3, lt_q, zI_in (a := (b : Int)) (n := 20) (by omega) (by omega) (by omega), gd_q, zI_cl (a := (b : Int)) (by omega) (by omega), Int.toNat_natCast, zS]
    rfl
  unfold f_Book_addAct
  rw [h]
  have e20 : (20 : Int32) = zI (20 : Nat) := rfl
  by_cases c : a < 20
  · have eb : aB a = a := if_pos c
    rw [e20, if_pos (by rw [zI_lt (by omega) (by omega) (by omega) (by omega)]; omega), key a σ c h, eb, Nat.sub_self]
    refine ⟨_, rfl, oS_uI (by decide) (oS_uA (by decide) (oS_uA (by decide) (oS_uA (by decide) oS_r))), rfl, fun j hj => ⟨?_, ?_, ?_⟩, ?_, ?_, ?_⟩
    · show upd (sA σ 10) a k j = _
      rw [upd_e, if_neg (by omega)]
      rfl
    · show upd (sA σ 11) a v j = _
      rw [upd_e, if_neg (by omega)]
      rfl
    · show upd (sA σ 12) a 0 j = _
      rw [upd_e, if_neg (by omega)]
      rfl
    · show upd (sA σ 10) a k a = _
      rw [upd_e, if_pos rfl]
    · show upd (sA σ 11) a v a = _
      rw [upd_e, if_pos rfl]
    · show upd (sA σ 12) a 0 a = _
      rw [upd_e, if_pos rfl]
  · have eb : aB a = 19 := if_neg c
    have ea : a = 20 := by omega
    subst ea
    have c19 : (19 : Int32).toNatClampNeg = 19 := rfl
    rw [e20, if_neg (by rw [zI_lt (by omega) (by omega) (by omega) (by omega)]; omega), lt_s', lt_s', lt_s', lt_s', cl0, cl1, c19, key 19 _ (by omega) rfl, eb]
    refine ⟨_, rfl, oS_uI (by decide) (oS_uA (by decide) (oS_uA (by decide) (oS_uA (by decide) (oS_uI (by decide) (oS_uA (by decide) (oS_uA (by decide) (oS_uA (by decide) oS_r))))))), rfl, fun j hj => ⟨?_, ?_, ?_⟩, ?_, ?_, ?_⟩
    · show upd (va_cpy (sA σ 10) (sA σ 10) 1 0 19) 19 k j = _
      rw [upd_e, if_neg (by omega)]
      unfold va_cpy
      rw [if_pos (by omega)]
      congr 1
      omega
    · show upd (va_cpy (sA σ 11) (sA σ 11) 1 0 19) 19 v j = _
      rw [upd_e, if_neg (by omega)]
      unfold va_cpy
      rw [if_pos (by omega)]
      congr 1
      omega
    · show upd (va_cpy (sA σ 12) (sA σ 12) 1 0 19) 19 0 j = _
      rw [upd_e, if_neg (by omega)]
      unfold va_cpy
      rw [if_pos (by omega)]
      congr 1
      omega
    · show upd (va_cpy (sA σ 10) (sA σ 10) 1 0 19) 19 k 19 = _
      rw [upd_e, if_pos rfl]
    · show upd (va_cpy (sA σ 11) (sA σ 11) 1 0 19) 19 v 19 = _
      rw [upd_e, if_pos rfl]
    · show upd (va_cpy (sA σ 12) (sA σ 12) 1 0 19) 19 0 19 = _
      rw [upd_e, if_pos rfl]
/-- copying n places, one after the other, from p on -/
theorem keeps_15 {w : Nat} {σ : St} (hw : w < 20) (e27 : sI σ 27 = zI w) : ∀ (m k q : Nat) (g : Nat → Int32), k + m = 7 → m < q → (∀ i, i < k → g (307 * w + i) = sA σ 11 i) → (∀ i, ¬ (307 * w ≤ i ∧ i < 307 * w + 307) → g i = sA σ 13 i) → ∃ g', f_M_keeps_15 q (zI k) (uA σ 13 g) = f_M_keeps_50 FU 0 (uA σ 13 g') ∧ (∀ i, i < 7 → g' (307 * w + i) = sA σ 11 i) ∧ (∀ i, ¬ (307 * w ≤ i ∧ i < 307 * w + 307) → g' i = sA σ 13 i) := by
  intro m
  induction m with
  | zero =>
    intro k q g h1 h2 h3 h4
    obtain ⟨q, rfl⟩ : ∃ r, q = r + 1 := ⟨q - 1, by omega⟩
    have e7 : (7 : Int32) = zI (7 : Nat) := rfl
    refine ⟨g, ?_, fun i hi => h3 i (by omega), h4⟩
    show f_M_keeps_15b (f_M_keeps_15 q) (zI k) (uA σ 13 g) = _
    unfold f_M_keeps_15b
    rw [e7, if_pos (by rw [zI_le (by omega) (by omega) (by omega) (by omega)]; omega)]
  | succ m ih =>
    intro k q g h1 h2 h3 h4
    obtain ⟨q, rfl⟩ : ∃ r, q = r + 1 := ⟨q - 1, by omega⟩
    have e7 : (7 : Int32) = zI (7 : Nat) := rfl
    have ei : (307 * zI (w : Int) + zI (k : Int) : Int32) = zI ((307 * w + k : Nat) : Int) := by simp only [zI_lit, zI_mul, zI_add]; rfl
    have e27' : sI (uA σ 13 g) 27 = zI w := e27
    have st : f_M_keeps_15 (q + 1) (zI k) (uA σ 13 g) = f_M_keeps_15 q (zI (k + 1 : Nat)) (uA σ 13 (upd g (307 * w + k) (sA σ 11 k))) := by
      show f_M_keeps_15b (f_M_keeps_15 q) (zI k) (uA σ 13 g) = _
      unfold f_M_keeps_15b
      rw [e7, if_neg (by rw [zI_le (by omega) (by omega) (by omega) (by omega)]; omega), zI_in (by omega) (by omega) (by omega), gd_t, e27', ei, zI_in (by omega) (by omega) (by omega), gd_t, zI_cl (by omega) (by omega), zI_cl (by omega) (by omega), Int.toNat_natCast, Int.toNat_natCast, zS, lt_s', lt_s', uA_uA, sA_eq]
      rfl
    rw [st]
    refine ih (k + 1) q _ (by omega) (by omega) (fun i hi => ?_) (fun i hi => ?_)
    · rw [upd_e]
      by_cases c : i = k
      · rw [if_pos (by omega), c]
      · rw [if_neg (by omega)]
        exact h3 i (by omega)
    · rw [upd_e, if_neg (by omega)]
      exact h4 i hi
theorem keeps_50 {w : Nat} {σ : St} (hw : w < 20) (e27 : sI σ 27 = zI w) (f7 : Nat → Int32) : ∀ (m k q : Nat) (g : Nat → Int32), k + m = 300 → m < q → (∀ i, i < 7 → g (307 * w + i) = f7 i) → (∀ i, i < k → g (307 * w + 7 + i) = sA σ 12 i) → (∀ i, ¬ (307 * w ≤ i ∧ i < 307 * w + 307) → g i = sA σ 13 i) → ∃ g', f_M_keeps_50 q (zI k) (uA σ 13 g) = (if (20 : Int32) ≤ sI σ 26 then some (uA σ 13 g') else some (uI (uA σ 13 g') 26 (sI σ 26 + 1))) ∧ (∀ i, i < 7 → g' (307 * w + i) = f7 i) ∧ (∀ i, i < 300 → g' (307 * w + 7 + i) = sA σ 12 i) ∧ (∀ i, ¬ (307 * w ≤ i ∧ i < 307 * w + 307) → g' i = sA σ 13 i) := by
  intro m
  induction m with
  | zero =>
    intro k q g h1 h2 h3 h4 h5
    obtain ⟨q, rfl⟩ : ∃ r, q = r + 1 := ⟨q - 1, by omega⟩
    have e7 : (300 : Int32) = zI (300 : Nat) := rfl
    refine ⟨g, ?_, h3, fun i hi => h4 i (by omega), h5⟩
    show f_M_keeps_50b (f_M_keeps_50 q) (zI k) (uA σ 13 g) = _
    unfold f_M_keeps_50b
    rw [e7, if_pos (by rw [zI_le (by omega) (by omega) (by omega) (by omega)]; omega)]
    rfl
  | succ m ih =>
    intro k q g h1 h2 h3 h4 h5
    obtain ⟨q, rfl⟩ : ∃ r, q = r + 1 := ⟨q - 1, by omega⟩
    have e7 : (300 : Int32) = zI (300 : Nat) := rfl
    have ei : (307 * zI (w : Int) + 7 + zI (k : Int) : Int32) = zI ((307 * w + 7 + k : Nat) : Int) := by simp only [zI_lit, zI_mul, zI_add]; rfl
    have e27' : sI (uA σ 13 g) 27 = zI w := e27
    have st : f_M_keeps_50 (q + 1) (zI k) (uA σ 13 g) = f_M_keeps_50 q (zI (k + 1 : Nat)) (uA σ 13 (upd g (307 * w + 7 + k) (sA σ 12 k))) := by
      show f_M_keeps_50b (f_M_keeps_50 q) (zI k) (uA σ 13 g) = _
      unfold f_M_keeps_50b
      rw [e7, if_neg (by rw [zI_le (by omega) (by omega) (by omega) (by omega)]; omega), zI_in (by omega) (by omega) (by omega), gd_t, e27', ei, zI_in (by omega) (by omega) (by omega), gd_t, zI_cl (by omega) (by omega), zI_cl (by omega) (by omega), Int.toNat_natCast, Int.toNat_natCast, zS, lt_s', lt_s', uA_uA, sA_eq]
      rfl
    rw [st]
    refine ih (k + 1) q _ (by omega) (by omega) (fun i hi => ?_) (fun i hi => ?_) (fun i hi => ?_)
    · rw [upd_e, if_neg (by omega)]
      exact h3 i hi
    · rw [upd_e]
      by_cases c : i = k
      · rw [if_pos (by omega), c]
      · rw [if_neg (by omega)]
        exact h4 i (by omega)
    · rw [upd_e, if_neg (by omega)]
      exact h5 i hi
theorem m_keeps {a w : Nat} {σ : St} (ha : a ≤ 20) (hw : w < 20) (e26 : sI σ 26 = zI a) (e27 : sI σ 27 = zI w) : ∃ σ1, f_M_keeps σ = some σ1 ∧ oS [26, 27] [] [13] [] σ σ1 ∧ sI σ1 26 = zI (aB a + 1 : Nat) ∧ sI σ1 27 = zI ((w + 1) % 20 : Nat) ∧ (∀ i, i < 7 → sA σ1 13 (307 * ((w + 1) % 20) + i) = sA σ 11 i) ∧ (∀ i, i < 300 → sA σ1 13 (307 * ((w + 1) % 20) + 7 + i) = sA σ 12 i) ∧ (∀ i, ¬ (307 * ((w + 1) % 20) ≤ i ∧ i < 307 * ((w + 1) % 20) + 307) → sA σ1 13 i = sA σ 13 i) := by
  unfold f_M_keeps
  have ew : iR (sI σ 27 + 1) 20 = zI ((w + 1) % 20 : Nat) := by
    have e20 : (20 : Int32) = zI (20 : Nat) := rfl
    rw [e27, zS, e20, zI_rem (by omega) (by omega) (by omega) (by omega), ← Int.natCast_emod]
  rw [ew, lt_s']
  generalize hw' : (w + 1) % 20 = w'
  have hw2 : w' < 20 := by omega
  obtain ⟨g, g1, g2, g3⟩ := keeps_15 (σ := uI σ 27 (zI w')) hw2 rfl 7 0 FU (sA (uI σ 27 (zI w')) 13) (by omega) (FU_gt (by omega)) (fun i hi => by omega) (fun i hi => rfl)
  rw [uA_same] at g1
  obtain ⟨g', q1, q2, q3, q4⟩ := keeps_50 (σ := uI σ 27 (zI w')) hw2 rfl (sA (uI σ 27 (zI w')) 11) 300 0 FU g (by omega) (FU_gt (by omega)) g2 (fun i hi => by omega) g3
  have q1' : f_M_keeps_50 FU 0 (uA (uI σ 27 (zI w')) 13 g) = _ := q1
  have g1' : f_M_keeps_15 FU 0 (uI σ 27 (zI w')) = _ := g1
  rw [g1', q1']
  have s26 : sI (uI σ 27 (zI w')) 26 = zI a := e26
  rw [s26]
  have e20 : (20 : Int32) = zI (20 : Nat) := rfl
  by_cases c : a < 20
  · have eb : aB a = a := if_pos c
    rw [e20, if_neg (by rw [zI_le (by omega) (by omega) (by omega) (by omega)]; omega), zS, eb]
    exact ⟨_, rfl, oS_uI (by decide) (oS_uA (by decide) (oS_uI (by decide) oS_r)), rfl, rfl, q2, q3, q4⟩
  · have eb : aB a = 19 := if_neg c
    have ea : a = 20 := by omega
    rw [e20, if_pos (by rw [zI_le (by omega) (by omega) (by omega) (by omega)]; omega), eb]
    refine ⟨_, rfl, oS_uA (by decide) (oS_uI (by decide) oS_r), ?_, rfl, q2, q3, q4⟩
    show sI σ 26 = _
    rw [e26, ea]
