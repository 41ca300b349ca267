variable {p : Program} {l : Launch} {e : Env} {s : State} {m : MethodId} {below : List Frame} {meth : Method} {c : Code} {g : GX} {A : Nat → Prop} {b L : Nat} {xs : Nat → Int32} {cells slots : Nat} {Q : State → Prop}
def Sim_feed (Rel : St → St → Prop) : Prop := ∀ (a1 : Int32) (a2 : Int32) (a3 : Int32) (a4 : Int32) (a5 : Int32) (σx σm : St), Rel σx σm → ∃ (r : Int32) (σx1 : St) (σm1 : St), f_BH_feed a1 a2 a3 a4 a5 σx = some (r, σx1) ∧ f_M_feed a1 a2 a3 a4 a5 σm = some (r, σm1) ∧ Rel σx1 σm1
def Sim_end (Rel : St → St → Prop) : Prop := ∀ (a1 : Int32) (σx σm : St), Rel σx σm → ∃ (r : Int32) (σx1 : St) (σm1 : St), f_BH_end a1 σx = some (r, σx1) ∧ f_M_end a1 σm = some (r, σm1) ∧ Rel σx1 σm1
def Sim_fair (Rel : St → St → Prop) : Prop := ∀ (σx σm : St), Rel σx σm → ∃ (r : Int32) (σx1 : St) (σm1 : St), f_BH_fair  σx = some (r, σx1) ∧ f_M_fair  σm = some (r, σm1) ∧ Rel σx1 σm1
def Sim_fault (Rel : St → St → Prop) : Prop := ∀ (a1 : Int32) (σx σm : St), Rel σx σm → ∃ (r : Int32), f_BH_fault a1 σx = some r ∧ f_M_fault a1 σm = some r
def Sim_has (Rel : St → St → Prop) : Prop := ∀ (a1 : Int32) (σx σm : St), Rel σx σm → ∃ (r : Int32), f_BH_has a1 σx = some r ∧ f_M_has a1 σm = some r
def Sim_letter (Rel : St → St → Prop) : Prop := ∀ (a1 : Int32) (a2 : Int32) (a3 : Int32) (σx σm : St), Rel σx σm → ∃ (r : Int32), f_BH_letter a1 a2 a3 σx = some r ∧ f_M_letter a1 a2 a3 σm = some r
def Sim_trier (Rel : St → St → Prop) : Prop := ∀ (a1 : Int32) (a2 : Int32) (σx σm : St), Rel σx σm → ∃ (r : Int32), f_BH_trier a1 a2 σx = some r ∧ f_M_trier a1 a2 σm = some r
def Sim_mark (Rel : St → St → Prop) : Prop := ∀ (a1 : Int32) (σx σm : St), Rel σx σm → ∃ (r : Int32), f_BH_mark a1 σx = some r ∧ f_M_mark a1 σm = some r
def Sim_past (Rel : St → St → Prop) : Prop := ∀ (a1 : Int32) (σx σm : St), Rel σx σm → ∃ (r : Int32), f_BH_past a1 σx = some r ∧ f_M_past a1 σm = some r
def Sim_high (Rel : St → St → Prop) : Prop := ∀ (a1 : Int32) (a2 : Int32) (a3 : Int32) (a4 : Int32) (σx σm : St), Rel σx σm → (a4 = 0 ∨ a4 = 1) → ∃ (r : Int32) (σx1 : St), f_BH_high a1 a2 a3 a4 σx = some (r, σx1) ∧ f_M_high a1 a2 a3 a4 σm = some r ∧ Rel σx1 σm
def Sim_hard (Rel : St → St → Prop) : Prop := ∀ (a1 : Int32) (a2 : Int32) (σx σm : St), Rel σx σm → (a2 = 0 ∨ a2 = 1) → ∃ (r : Int32), f_BH_hard a1 a2 σx = some r ∧ f_M_hard a1 a2 σm = some r
def Sim_wide (Rel : St → St → Prop) : Prop := ∀ (a1 : Int32) (a2 : Int32) (σx σm : St), Rel σx σm → (a2 = 0 ∨ a2 = 1) → ∃ (r : Int32), f_BH_wide a1 a2 σx = some r ∧ f_M_wide a1 a2 σm = some r
def Sim_leans (Rel : St → St → Prop) : Prop := ∀ (a1 : Int32) (a2 : Int32) (a3 : Int32) (a4 : Int32) (a5 : Int32) (σx σm : St), Rel σx σm → ∃ (r : Int32) (σx1 : St) (σm1 : St), f_BH_leans a1 a2 a3 a4 a5 σx = some (r, σx1) ∧ f_M_leans a1 a2 a3 a4 a5 σm = some (r, σm1) ∧ Rel σx1 σm1
def Sim_tree (Rel : St → St → Prop) : Prop := ∀ (a1 : Int32) (a2 : Int32) (σx σm : St), Rel σx σm → ∃ (r : Int32) (σx1 : St) (σm1 : St), f_BH_tree a1 a2 σx = some (r, σx1) ∧ f_M_tree a1 a2 σm = some (r, σm1) ∧ Rel σx1 σm1
def Sim_best (Rel : St → St → Prop) : Prop := ∀ (a1 : Int32) (σx σm : St), Rel σx σm → ∃ (r : Int32) (σx1 : St) (σm1 : St), f_BH_best a1 σx = some (r, σx1) ∧ f_M_best a1 σm = some (r, σm1) ∧ Rel σx1 σm1
def Sim_honest (Rel : St → St → Prop) : Prop := ∀ (a1 : Int32) (σx σm : St), Rel σx σm → ∃ (r : Int32) (σx1 : St) (σm1 : St), f_BH_honest a1 σx = some (r, σx1) ∧ f_M_honest a1 σm = some (r, σm1) ∧ Rel σx1 σm1
def Sim_bet (Rel : St → St → Prop) : Prop := ∀ (a1 : Int32) (a2 : Int32) (a3 : Int32) (σx σm : St), Rel σx σm → ∃ (r : Int32), f_BH_bet a1 a2 a3 σx = some r ∧ f_M_bet a1 a2 a3 σm = some r
def Sim_night (Rel : St → St → Prop) : Prop := ∀ (σx σm : St), Rel σx σm → ∃ (r : Int32) (σx1 : St) (σm1 : St), f_BH_night  σx = some (r, σx1) ∧ f_M_night  σm = some (r, σm1) ∧ Rel σx1 σm1
def Sim_rule (Rel : St → St → Prop) : Prop := ∀ (a1 : Int32) (a2 : Int32) (σx σm : St), Rel σx σm → (a2 = 0 ∨ a2 = 1) → ∃ (r : Int32) (σx1 : St) (σm1 : St), f_BH_rule a1 a2 σx = some (r, σx1) ∧ f_M_rule a1 a2 σm = some (r, σm1) ∧ Rel σx1 σm1
def Sim_set (Rel : St → St → Prop) : Prop := ∀ (a1 : Int32) (a2 : Int32) (σx σm : St), Rel σx σm → ∃ (r : Int32) (σx1 : St) (σm1 : St), f_BH_set a1 a2 σx = some (r, σx1) ∧ f_M_set a1 a2 σm = some (r, σm1) ∧ Rel σx1 σm1
def Sim_undo (Rel : St → St → Prop) : Prop := ∀ (σx σm : St), Rel σx σm → ∃ (r : Int32) (σx1 : St) (σm1 : St), f_BH_undo  σx = some (r, σx1) ∧ f_M_undo  σm = some (r, σm1) ∧ Rel σx1 σm1
def Sim_seed (Rel : St → St → Prop) : Prop := ∀ (a1 : Int32) (σx σm : St), Rel σx σm → ∃ (r : Int32) (σx1 : St) (σm1 : St), f_BH_seed a1 σx = some (r, σx1) ∧ f_M_seed a1 σm = some (r, σm1) ∧ Rel σx1 σm1
def Sim_kept (Rel : St → St → Prop) : Prop := ∀ (a1 : Int32) (a2 : Int32) (σx σm : St), Rel σx σm → ∃ (r : Int32), f_BH_kept a1 a2 σx = some r ∧ f_M_kept a1 a2 σm = some r
def Sim_see (Rel : St → St → Prop) : Prop := ∀ (a1 : Int32) (σx σm : St), Rel σx σm → ∃ (r : Int32) (σx1 : St) (σm1 : St), f_BH_see a1 σx = some (r, σx1) ∧ f_M_see a1 σm = some (r, σm1) ∧ Rel σx1 σm1
def Sim_was (Rel : St → St → Prop) : Prop := ∀ (a1 : Int32) (σx σm : St), Rel σx σm → ∃ (r : Int32) (σx1 : St), f_BH_was a1 σx = some (r, σx1) ∧ f_M_was a1 σm = some r ∧ Rel σx1 σm
def Sim_strong (Rel : St → St → Prop) : Prop := ∀ (a1 : Int32) (σx σm : St), Rel σx σm → ∃ (r : Int32) (σx1 : St), f_BH_strong a1 σx = some (r, σx1) ∧ f_M_strong a1 σm = some r ∧ Rel σx1 σm
def Sim_next (Rel : St → St → Prop) : Prop := ∀ (a1 : Int32) (σx σm : St), Rel σx σm → (a1 = 0 ∨ a1 = 1) → ∃ (r : Int32) (σx1 : St), f_BH_next a1 σx = some (r, σx1) ∧ f_M_next a1 σm = some r ∧ Rel σx1 σm
def Sim_clear (Rel : St → St → Prop) : Prop := ∀ (a1 : Int32) (σx σm : St), Rel σx σm → ∃ (r : Int32) (σx1 : St), f_BH_clear a1 σx = some (r, σx1) ∧ f_M_clear a1 σm = some r ∧ Rel σx1 σm
def Sim_reach (Rel : St → St → Prop) : Prop := ∀ (a1 : Int32) (a2 : Int32) (σx σm : St), Rel σx σm → ∃ (r : Int32), f_BH_reach a1 a2 σx = some r ∧ f_M_reach a1 a2 σm = some r
def Sim_image (Rel : St → St → Prop) : Prop := ∀ (σx σm : St), Rel σx σm → ∃ (r : Int32) (σx1 : St) (σm1 : St), f_BH_image  σx = some (r, σx1) ∧ f_M_image  σm = some (r, σm1) ∧ Rel σx1 σm1
def Sim_octet (Rel : St → St → Prop) : Prop := ∀ (a1 : Int32) (σx σm : St), Rel σx σm → ∃ (r : Int32), f_BH_octet a1 σx = some r ∧ f_M_octet a1 σm = some r
def Sim_on (Rel : St → St → Prop) : Prop := ∀ (σx σm : St), Rel σx σm → ∃ (r : Int32) (σx1 : St) (σm1 : St), f_BH_on  σx = some (r, σx1) ∧ f_M_on  σm = some (r, σm1) ∧ Rel σx1 σm1
def Sim_status (Rel : St → St → Prop) : Prop := ∀ (a1 : Int32) (σx σm : St), Rel σx σm → ∃ (r : Int32), f_BH_status a1 σx = some r ∧ f_M_status a1 σm = some r
set_option maxHeartbeats 4000000 in
theorem law_feed {Rel : St → St → Prop} (hs : Sim_feed Rel) (C : Cx g A p s m #[Value.ref b] meth c code 4 "BellHammerLaw" (some .boolean)) (hX : va_X b L xs s s.heap) (hbl : b < s.heap.size) (hbA : ¬ A b) (hcs : cells ≤ room_1.cells ∧ slots ≤ room_1.slots) {i : Nat} (hi : i + 6 ≤ L) (hL : L ≤ 3072) {qx qm : Nat → Nat} {σx σm : St} (hR : Rel σx σm) {H : Heap} {locs : List Loc} {ls : Array Slot} (hw : Wd2 g A s (wX g qx σx) (wM g qm σm) H locs) (hl : lv_has ls 4 [(0, .ref b), (1, .ref (qx 0)), (2, .ref (qm 0)), (3, .int (nI i))])
    (next : ∀ (qx : Nat → Nat) (σx : St) (qm : Nat → Nat) (σm : St) (H : Heap) (locs : List Loc) (ls : Array Slot), Rel σx σm → Wd2 g A s (wX g qx σx) (wM g qm σm) H locs → lv_has ls 4 [(0, .ref b), (1, .ref (qx 0)), (2, .ref (qm 0)), (3, .int (nI i))] → W p l e room_1 s m #[Value.ref b] below meth c H locs cells slots Q (F0 m 1199 ls [])) : W p l e room_1 s m #[Value.ref b] below meth c H locs cells slots Q (F0 m 180 ls []) := by
  obtain ⟨hx, hb, hml, hown, hts, hK, hA, hZ, hlocks, hr, hN⟩ := id C
  refine lv_aload_n hx hb d_law_180 rfl (lv_at hl 1 rfl) ?_
  refine lv_aload_n hx hb d_law_181 rfl (lv_at hl 0 rfl) ?_
  refine lv_iload_n hx hb d_law_182 rfl (lv_at hl 3 rfl) ?_
  refine lv_iconst (v := 1) hx hb d_law_183 (by decide) ?_
  refine lv_iadd hx hb d_law_184 ?_
  refine va_sld hx hb hX hbl hbA hw.2.2.2.2.2 (six (k := 1) hi hL (by decide)) d_law_185 ?_
  refine lv_aload_n hx hb d_law_186 rfl (lv_at hl 0 rfl) ?_
  refine lv_iload_n hx hb d_law_187 rfl (lv_at hl 3 rfl) ?_
  refine lv_iconst (v := 2) hx hb d_law_188 (by decide) ?_
  refine lv_iadd hx hb d_law_189 ?_
  refine va_sld hx hb hX hbl hbA hw.2.2.2.2.2 (six (k := 2) hi hL (by decide)) d_law_190 ?_
  refine lv_aload_n hx hb d_law_191 rfl (lv_at hl 0 rfl) ?_
  refine lv_iload_n hx hb d_law_192 rfl (lv_at hl 3 rfl) ?_
  refine lv_iconst (v := 3) hx hb d_law_193 (by decide) ?_
  refine lv_iadd hx hb d_law_194 ?_
  refine va_sld hx hb hX hbl hbA hw.2.2.2.2.2 (six (k := 3) hi hL (by decide)) d_law_195 ?_
  refine lv_aload_n hx hb d_law_196 rfl (lv_at hl 0 rfl) ?_
  refine lv_iload_n hx hb d_law_197 rfl (lv_at hl 3 rfl) ?_
  refine lv_iconst (v := 4) hx hb d_law_198 (by decide) ?_
  refine lv_iadd hx hb d_law_199 ?_
  refine va_sld hx hb hX hbl hbA hw.2.2.2.2.2 (six (k := 4) hi hL (by decide)) d_law_200 ?_
  refine lv_aload_n hx hb d_law_201 rfl (lv_at hl 0 rfl) ?_
  refine lv_iload_n hx hb d_law_202 rfl (lv_at hl 3 rfl) ?_
  refine lv_iconst (v := 5) hx hb d_law_203 (by decide) ?_
  refine lv_iadd hx hb d_law_204 ?_
  refine va_sld hx hb hX hbl hbA hw.2.2.2.2.2 (six (k := 5) hi hL (by decide)) d_law_205 ?_
  obtain ⟨r, σx1, σm1, hfx, hfm, hR1⟩ := hs (xs (nI i + 1).toNatClampNeg) (xs (nI i + 2).toNatClampNeg) (xs (nI i + 3).toNatClampNeg) (xs (nI i + 4).toNatClampNeg) (xs (nI i + 5).toNatClampNeg) σx σm hR 
  refine k_call2 (w := wX g qx) (wb := wM g qm σm) (As := [.int (xs (nI i + 1).toNatClampNeg), .int (xs (nI i + 2).toNatClampNeg), .int (xs (nI i + 3).toNatClampNeg), .int (xs (nI i + 4).toNatClampNeg), .int (xs (nI i + 5).toNatClampNeg)]) (rest := []) C hw (c_BH_feed (q := qx) hfx) cv_BH_feed k547 (xr_0 C ⟨hw.1, hw.2.2.1, hw.2.2.2.2.2⟩) (by decide) (by decide) hcs hl.1 rfl (Nat.le_of_ble_eq_true rfl) d_law_206 (fun H locs hw => ?_)
  show W p l e room_1 s m #[Value.ref b] below meth c H locs cells slots Q (F0 m 209 ls [.int r])
  refine lv_aload_n hx hb d_law_209 rfl (lv_at hl 2 rfl) ?_
  refine lv_aload_n hx hb d_law_210 rfl (lv_at hl 0 rfl) ?_
  refine lv_iload_n hx hb d_law_211 rfl (lv_at hl 3 rfl) ?_
  refine lv_iconst (v := 1) hx hb d_law_212 (by decide) ?_
  refine lv_iadd hx hb d_law_213 ?_
  refine va_sld hx hb hX hbl hbA hw.2.2.2.2.2 (six (k := 1) hi hL (by decide)) d_law_214 ?_
  refine lv_aload_n hx hb d_law_215 rfl (lv_at hl 0 rfl) ?_
  refine lv_iload_n hx hb d_law_216 rfl (lv_at hl 3 rfl) ?_
  refine lv_iconst (v := 2) hx hb d_law_217 (by decide) ?_
  refine lv_iadd hx hb d_law_218 ?_
  refine va_sld hx hb hX hbl hbA hw.2.2.2.2.2 (six (k := 2) hi hL (by decide)) d_law_219 ?_
  refine lv_aload_n hx hb d_law_220 rfl (lv_at hl 0 rfl) ?_
  refine lv_iload_n hx hb d_law_221 rfl (lv_at hl 3 rfl) ?_
  refine lv_iconst (v := 3) hx hb d_law_222 (by decide) ?_
  refine lv_iadd hx hb d_law_223 ?_
  refine va_sld hx hb hX hbl hbA hw.2.2.2.2.2 (six (k := 3) hi hL (by decide)) d_law_224 ?_
  refine lv_aload_n hx hb d_law_225 rfl (lv_at hl 0 rfl) ?_
  refine lv_iload_n hx hb d_law_226 rfl (lv_at hl 3 rfl) ?_
  refine lv_iconst (v := 4) hx hb d_law_227 (by decide) ?_
  refine lv_iadd hx hb d_law_228 ?_
  refine va_sld hx hb hX hbl hbA hw.2.2.2.2.2 (six (k := 4) hi hL (by decide)) d_law_229 ?_
  refine lv_aload_n hx hb d_law_230 rfl (lv_at hl 0 rfl) ?_
  refine lv_iload_n hx hb d_law_231 rfl (lv_at hl 3 rfl) ?_
  refine lv_iconst (v := 5) hx hb d_law_232 (by decide) ?_
  refine lv_iadd hx hb d_law_233 ?_
  refine va_sld hx hb hX hbl hbA hw.2.2.2.2.2 (six (k := 5) hi hL (by decide)) d_law_234 ?_
  replace hw := hw.comm
  refine k_call2 (w := wM g qm) (wb := wX g qx σx1) (As := [.int (xs (nI i + 1).toNatClampNeg), .int (xs (nI i + 2).toNatClampNeg), .int (xs (nI i + 3).toNatClampNeg), .int (xs (nI i + 4).toNatClampNeg), .int (xs (nI i + 5).toNatClampNeg)]) (rest := [.int r]) C hw (c_M_feed (q := qm) hfm) cv_M_feed k1342 (mr_0 C ⟨hw.1, hw.2.2.1, hw.2.2.2.2.2⟩) (by decide) (by decide) hcs hl.1 rfl (Nat.le_of_ble_eq_true rfl) d_law_235 (fun H locs hw => ?_)
  replace hw := hw.comm
  show W p l e room_1 s m #[Value.ref b] below meth c H locs cells slots Q (F0 m 238 ls [.int r, .int r])
  refine lv_icmp_eq (tgt := 1199) hx hb d_law_238 (by decide) (fun _ => ?_) (fun cd => absurd rfl cd)
  exact next qx σx1 qm σm1 _ _ _ hR1 hw hl
set_option maxHeartbeats 4000000 in
theorem law_end {Rel : St → St → Prop} (hs : Sim_end Rel) (C : Cx g A p s m #[Value.ref b] meth c code 4 "BellHammerLaw" (some .boolean)) (hX : va_X b L xs s s.heap) (hbl : b < s.heap.size) (hbA : ¬ A b) (hcs : cells ≤ room_1.cells ∧ slots ≤ room_1.slots) {i : Nat} (hi : i + 6 ≤ L) (hL : L ≤ 3072) {qx qm : Nat → Nat} {σx σm : St} (hR : Rel σx σm) {H : Heap} {locs : List Loc} {ls : Array Slot} (hw : Wd2 g A s (wX g qx σx) (wM g qm σm) H locs) (hl : lv_has ls 4 [(0, .ref b), (1, .ref (qx 0)), (2, .ref (qm 0)), (3, .int (nI i))])
    (next : ∀ (qx : Nat → Nat) (σx : St) (qm : Nat → Nat) (σm : St) (H : Heap) (locs : List Loc) (ls : Array Slot), Rel σx σm → Wd2 g A s (wX g qx σx) (wM g qm σm) H locs → lv_has ls 4 [(0, .ref b), (1, .ref (qx 0)), (2, .ref (qm 0)), (3, .int (nI i))] → W p l e room_1 s m #[Value.ref b] below meth c H locs cells slots Q (F0 m 1199 ls [])) : W p l e room_1 s m #[Value.ref b] below meth c H locs cells slots Q (F0 m 243 ls []) := by
  obtain ⟨hx, hb, hml, hown, hts, hK, hA, hZ, hlocks, hr, hN⟩ := id C
  refine lv_aload_n hx hb d_law_243 rfl (lv_at hl 1 rfl) ?_
  refine lv_aload_n hx hb d_law_244 rfl (lv_at hl 0 rfl) ?_
  refine lv_iload_n hx hb d_law_245 rfl (lv_at hl 3 rfl) ?_
  refine lv_iconst (v := 1) hx hb d_law_246 (by decide) ?_
  refine lv_iadd hx hb d_law_247 ?_
  refine va_sld hx hb hX hbl hbA hw.2.2.2.2.2 (six (k := 1) hi hL (by decide)) d_law_248 ?_
  obtain ⟨r, σx1, σm1, hfx, hfm, hR1⟩ := hs (xs (nI i + 1).toNatClampNeg) σx σm hR 
  refine k_call2 (w := wX g qx) (wb := wM g qm σm) (As := [.int (xs (nI i + 1).toNatClampNeg)]) (rest := []) C hw (c_BH_end (q := qx) hfx) cv_BH_end k555 (xr_0 C ⟨hw.1, hw.2.2.1, hw.2.2.2.2.2⟩) (by decide) (by decide) hcs hl.1 rfl (Nat.le_of_ble_eq_true rfl) d_law_249 (fun H locs hw => ?_)
  show W p l e room_1 s m #[Value.ref b] below meth c H locs cells slots Q (F0 m 252 ls [.int r])
  refine lv_aload_n hx hb d_law_252 rfl (lv_at hl 2 rfl) ?_
  refine lv_aload_n hx hb d_law_253 rfl (lv_at hl 0 rfl) ?_
  refine lv_iload_n hx hb d_law_254 rfl (lv_at hl 3 rfl) ?_
  refine lv_iconst (v := 1) hx hb d_law_255 (by decide) ?_
  refine lv_iadd hx hb d_law_256 ?_
  refine va_sld hx hb hX hbl hbA hw.2.2.2.2.2 (six (k := 1) hi hL (by decide)) d_law_257 ?_
  replace hw := hw.comm
  refine k_call2 (w := wM g qm) (wb := wX g qx σx1) (As := [.int (xs (nI i + 1).toNatClampNeg)]) (rest := [.int r]) C hw (c_M_end (q := qm) hfm) cv_M_end k1346 (mr_0 C ⟨hw.1, hw.2.2.1, hw.2.2.2.2.2⟩) (by decide) (by decide) hcs hl.1 rfl (Nat.le_of_ble_eq_true rfl) d_law_258 (fun H locs hw => ?_)
  replace hw := hw.comm
  show W p l e room_1 s m #[Value.ref b] below meth c H locs cells slots Q (F0 m 261 ls [.int r, .int r])
  refine lv_icmp_eq (tgt := 1199) hx hb d_law_261 (by decide) (fun _ => ?_) (fun cd => absurd rfl cd)
  exact next qx σx1 qm σm1 _ _ _ hR1 hw hl
set_option maxHeartbeats 4000000 in
theorem law_fair {Rel : St → St → Prop} (hs : Sim_fair Rel) (C : Cx g A p s m #[Value.ref b] meth c code 4 "BellHammerLaw" (some .boolean)) (hX : va_X b L xs s s.heap) (hbl : b < s.heap.size) (hbA : ¬ A b) (hcs : cells ≤ room_1.cells ∧ slots ≤ room_1.slots) {i : Nat} (hi : i + 6 ≤ L) (hL : L ≤ 3072) {qx qm : Nat → Nat} {σx σm : St} (hR : Rel σx σm) {H : Heap} {locs : List Loc} {ls : Array Slot} (hw : Wd2 g A s (wX g qx σx) (wM g qm σm) H locs) (hl : lv_has ls 4 [(0, .ref b), (1, .ref (qx 0)), (2, .ref (qm 0)), (3, .int (nI i))])
    (next : ∀ (qx : Nat → Nat) (σx : St) (qm : Nat → Nat) (σm : St) (H : Heap) (locs : List Loc) (ls : Array Slot), Rel σx σm → Wd2 g A s (wX g qx σx) (wM g qm σm) H locs → lv_has ls 4 [(0, .ref b), (1, .ref (qx 0)), (2, .ref (qm 0)), (3, .int (nI i))] → W p l e room_1 s m #[Value.ref b] below meth c H locs cells slots Q (F0 m 1199 ls [])) : W p l e room_1 s m #[Value.ref b] below meth c H locs cells slots Q (F0 m 266 ls []) := by
  obtain ⟨hx, hb, hml, hown, hts, hK, hA, hZ, hlocks, hr, hN⟩ := id C
  refine lv_aload_n hx hb d_law_266 rfl (lv_at hl 1 rfl) ?_
  obtain ⟨r, σx1, σm1, hfx, hfm, hR1⟩ := hs  σx σm hR 
  obtain ⟨q2, hq2, hK2⟩ := c_BH_fair (l := l) (g := g) (q := qx) hfx
  refine k_call2 (w := wX g qx) (wb := wM g qm σm) (As := []) (rest := []) C hw hK2 cv_BH_fair k559 (xr_0 C ⟨hw.1, hw.2.2.1, hw.2.2.2.2.2⟩) (by decide) (by decide) hcs hl.1 rfl (Nat.le_of_ble_eq_true rfl) d_law_267 (fun H locs hw => ?_)
  have hl : lv_has ls 4 [(0, .ref b), (1, .ref (q2 0)), (2, .ref (qm 0)), (3, .int (nI i))] := by rw [hq2]; exact hl
  show W p l e room_1 s m #[Value.ref b] below meth c H locs cells slots Q (F0 m 270 ls [.int r])
  refine lv_aload_n hx hb d_law_270 rfl (lv_at hl 2 rfl) ?_
  replace hw := hw.comm
  refine k_call2 (w := wM g qm) (wb := wX g q2 σx1) (As := []) (rest := [.int r]) C hw (c_M_fair (q := qm) hfm) cv_M_fair k1350 (mr_0 C ⟨hw.1, hw.2.2.1, hw.2.2.2.2.2⟩) (by decide) (by decide) hcs hl.1 rfl (Nat.le_of_ble_eq_true rfl) d_law_271 (fun H locs hw => ?_)
  replace hw := hw.comm
  show W p l e room_1 s m #[Value.ref b] below meth c H locs cells slots Q (F0 m 274 ls [.int r, .int r])
  refine lv_icmp_eq (tgt := 1199) hx hb d_law_274 (by decide) (fun _ => ?_) (fun cd => absurd rfl cd)
  exact next q2 σx1 qm σm1 _ _ _ hR1 hw hl
set_option maxHeartbeats 4000000 in
theorem law_fault {Rel : St → St → Prop} (hs : Sim_fault Rel) (C : Cx g A p s m #[Value.ref b] meth c code 4 "BellHammerLaw" (some .boolean)) (hX : va_X b L xs s s.heap) (hbl : b < s.heap.size) (hbA : ¬ A b) (hcs : cells ≤ room_1.cells ∧ slots ≤ room_1.slots) {i : Nat} (hi : i + 6 ≤ L) (hL : L ≤ 3072) {qx qm : Nat → Nat} {σx σm : St} (hR : Rel σx σm) {H : Heap} {locs : List Loc} {ls : Array Slot} (hw : Wd2 g A s (wX g qx σx) (wM g qm σm) H locs) (hl : lv_has ls 4 [(0, .ref b), (1, .ref (qx 0)), (2, .ref (qm 0)), (3, .int (nI i))])
    (next : ∀ (qx : Nat → Nat) (σx : St) (qm : Nat → Nat) (σm : St) (H : Heap) (locs : List Loc) (ls : Array Slot), Rel σx σm → Wd2 g A s (wX g qx σx) (wM g qm σm) H locs → lv_has ls 4 [(0, .ref b), (1, .ref (qx 0)), (2, .ref (qm 0)), (3, .int (nI i))] → W p l e room_1 s m #[Value.ref b] below meth c H locs cells slots Q (F0 m 1199 ls [])) : W p l e room_1 s m #[Value.ref b] below meth c H locs cells slots Q (F0 m 279 ls []) := by
  obtain ⟨hx, hb, hml, hown, hts, hK, hA, hZ, hlocks, hr, hN⟩ := id C
  refine lv_aload_n hx hb d_law_279 rfl (lv_at hl 1 rfl) ?_
  refine lv_aload_n hx hb d_law_280 rfl (lv_at hl 0 rfl) ?_
  refine lv_iload_n hx hb d_law_281 rfl (lv_at hl 3 rfl) ?_
  refine lv_iconst (v := 1) hx hb d_law_282 (by decide) ?_
  refine lv_iadd hx hb d_law_283 ?_
  refine va_sld hx hb hX hbl hbA hw.2.2.2.2.2 (six (k := 1) hi hL (by decide)) d_law_284 ?_
  obtain ⟨r, hfx, hfm⟩ := hs (xs (nI i + 1).toNatClampNeg) σx σm hR 
  have hR1 := hR
  refine k_call2 (w := wX g qx) (wb := wM g qm σm) (As := [.int (xs (nI i + 1).toNatClampNeg)]) (rest := []) C hw (c_BH_fault (q := qx) hfx) cv_BH_fault k712 (xr_0 C ⟨hw.1, hw.2.2.1, hw.2.2.2.2.2⟩) (by decide) (by decide) hcs hl.1 rfl (Nat.le_of_ble_eq_true rfl) d_law_285 (fun H locs hw => ?_)
  show W p l e room_1 s m #[Value.ref b] below meth c H locs cells slots Q (F0 m 288 ls [.int r])
  refine lv_aload_n hx hb d_law_288 rfl (lv_at hl 2 rfl) ?_
  refine lv_aload_n hx hb d_law_289 rfl (lv_at hl 0 rfl) ?_
  refine lv_iload_n hx hb d_law_290 rfl (lv_at hl 3 rfl) ?_
  refine lv_iconst (v := 1) hx hb d_law_291 (by decide) ?_
  refine lv_iadd hx hb d_law_292 ?_
  refine va_sld hx hb hX hbl hbA hw.2.2.2.2.2 (six (k := 1) hi hL (by decide)) d_law_293 ?_
  replace hw := hw.comm
  refine k_call2 (w := wM g qm) (wb := wX g qx σx) (As := [.int (xs (nI i + 1).toNatClampNeg)]) (rest := [.int r]) C hw (c_M_fault (q := qm) hfm) cv_M_fault k1501 (mr_0 C ⟨hw.1, hw.2.2.1, hw.2.2.2.2.2⟩) (by decide) (by decide) hcs hl.1 rfl (Nat.le_of_ble_eq_true rfl) d_law_294 (fun H locs hw => ?_)
  replace hw := hw.comm
  show W p l e room_1 s m #[Value.ref b] below meth c H locs cells slots Q (F0 m 297 ls [.int r, .int r])
  refine lv_icmp_eq (tgt := 1199) hx hb d_law_297 (by decide) (fun _ => ?_) (fun cd => absurd rfl cd)
  exact next qx σx qm σm _ _ _ hR1 hw hl
set_option maxHeartbeats 4000000 in
theorem law_has {Rel : St → St → Prop} (hs : Sim_has Rel) (C : Cx g A p s m #[Value.ref b] meth c code 4 "BellHammerLaw" (some .boolean)) (hX : va_X b L xs s s.heap) (hbl : b < s.heap.size) (hbA : ¬ A b) (hcs : cells ≤ room_1.cells ∧ slots ≤ room_1.slots) {i : Nat} (hi : i + 6 ≤ L) (hL : L ≤ 3072) {qx qm : Nat → Nat} {σx σm : St} (hR : Rel σx σm) {H : Heap} {locs : List Loc} {ls : Array Slot} (hw : Wd2 g A s (wX g qx σx) (wM g qm σm) H locs) (hl : lv_has ls 4 [(0, .ref b), (1, .ref (qx 0)), (2, .ref (qm 0)), (3, .int (nI i))])
    (next : ∀ (qx : Nat → Nat) (σx : St) (qm : Nat → Nat) (σm : St) (H : Heap) (locs : List Loc) (ls : Array Slot), Rel σx σm → Wd2 g A s (wX g qx σx) (wM g qm σm) H locs → lv_has ls 4 [(0, .ref b), (1, .ref (qx 0)), (2, .ref (qm 0)), (3, .int (nI i))] → W p l e room_1 s m #[Value.ref b] below meth c H locs cells slots Q (F0 m 1199 ls [])) : W p l e room_1 s m #[Value.ref b] below meth c H locs cells slots Q (F0 m 302 ls []) := by
  obtain ⟨hx, hb, hml, hown, hts, hK, hA, hZ, hlocks, hr, hN⟩ := id C
  refine lv_aload_n hx hb d_law_302 rfl (lv_at hl 1 rfl) ?_
  refine lv_aload_n hx hb d_law_303 rfl (lv_at hl 0 rfl) ?_
  refine lv_iload_n hx hb d_law_304 rfl (lv_at hl 3 rfl) ?_
  refine lv_iconst (v := 1) hx hb d_law_305 (by decide) ?_
  refine lv_iadd hx hb d_law_306 ?_
  refine va_sld hx hb hX hbl hbA hw.2.2.2.2.2 (six (k := 1) hi hL (by decide)) d_law_307 ?_
  obtain ⟨r, hfx, hfm⟩ := hs (xs (nI i + 1).toNatClampNeg) σx σm hR 
  have hR1 := hR
  refine k_call2 (w := wX g qx) (wb := wM g qm σm) (As := [.int (xs (nI i + 1).toNatClampNeg)]) (rest := []) C hw (c_BH_has (q := qx) hfx) cv_BH_has k716 (xr_0 C ⟨hw.1, hw.2.2.1, hw.2.2.2.2.2⟩) (by decide) (by decide) hcs hl.1 rfl (Nat.le_of_ble_eq_true rfl) d_law_308 (fun H locs hw => ?_)
  show W p l e room_1 s m #[Value.ref b] below meth c H locs cells slots Q (F0 m 311 ls [.int r])
  refine lv_aload_n hx hb d_law_311 rfl (lv_at hl 2 rfl) ?_
  refine lv_aload_n hx hb d_law_312 rfl (lv_at hl 0 rfl) ?_
  refine lv_iload_n hx hb d_law_313 rfl (lv_at hl 3 rfl) ?_
  refine lv_iconst (v := 1) hx hb d_law_314 (by decide) ?_
  refine lv_iadd hx hb d_law_315 ?_
  refine va_sld hx hb hX hbl hbA hw.2.2.2.2.2 (six (k := 1) hi hL (by decide)) d_law_316 ?_
  replace hw := hw.comm
  refine k_call2 (w := wM g qm) (wb := wX g qx σx) (As := [.int (xs (nI i + 1).toNatClampNeg)]) (rest := [.int r]) C hw (c_M_has (q := qm) hfm) cv_M_has k1505 (mr_0 C ⟨hw.1, hw.2.2.1, hw.2.2.2.2.2⟩) (by decide) (by decide) hcs hl.1 rfl (Nat.le_of_ble_eq_true rfl) d_law_317 (fun H locs hw => ?_)
  replace hw := hw.comm
  show W p l e room_1 s m #[Value.ref b] below meth c H locs cells slots Q (F0 m 320 ls [.int r, .int r])
  refine lv_icmp_eq (tgt := 1199) hx hb d_law_320 (by decide) (fun _ => ?_) (fun cd => absurd rfl cd)
  exact next qx σx qm σm _ _ _ hR1 hw hl
set_option maxHeartbeats 4000000 in
theorem law_letter {Rel : St → St → Prop} (hs : Sim_letter Rel) (C : Cx g A p s m #[Value.ref b] meth c code 4 "BellHammerLaw" (some .boolean)) (hX : va_X b L xs s s.heap) (hbl : b < s.heap.size) (hbA : ¬ A b) (hcs : cells ≤ room_1.cells ∧ slots ≤ room_1.slots) {i : Nat} (hi : i + 6 ≤ L) (hL : L ≤ 3072) {qx qm : Nat → Nat} {σx σm : St} (hR : Rel σx σm) {H : Heap} {locs : List Loc} {ls : Array Slot} (hw : Wd2 g A s (wX g qx σx) (wM g qm σm) H locs) (hl : lv_has ls 4 [(0, .ref b), (1, .ref (qx 0)), (2, .ref (qm 0)), (3, .int (nI i))])
    (next : ∀ (qx : Nat → Nat) (σx : St) (qm : Nat → Nat) (σm : St) (H : Heap) (locs : List Loc) (ls : Array Slot), Rel σx σm → Wd2 g A s (wX g qx σx) (wM g qm σm) H locs → lv_has ls 4 [(0, .ref b), (1, .ref (qx 0)), (2, .ref (qm 0)), (3, .int (nI i))] → W p l e room_1 s m #[Value.ref b] below meth c H locs cells slots Q (F0 m 1199 ls [])) : W p l e room_1 s m #[Value.ref b] below meth c H locs cells slots Q (F0 m 325 ls []) := by
  obtain ⟨hx, hb, hml, hown, hts, hK, hA, hZ, hlocks, hr, hN⟩ := id C
  refine lv_aload_n hx hb d_law_325 rfl (lv_at hl 1 rfl) ?_
  refine lv_aload_n hx hb d_law_326 rfl (lv_at hl 0 rfl) ?_
  refine lv_iload_n hx hb d_law_327 rfl (lv_at hl 3 rfl) ?_
  refine lv_iconst (v := 1) hx hb d_law_328 (by decide) ?_
  refine lv_iadd hx hb d_law_329 ?_
  refine va_sld hx hb hX hbl hbA hw.2.2.2.2.2 (six (k := 1) hi hL (by decide)) d_law_330 ?_
  refine lv_aload_n hx hb d_law_331 rfl (lv_at hl 0 rfl) ?_
  refine lv_iload_n hx hb d_law_332 rfl (lv_at hl 3 rfl) ?_
  refine lv_iconst (v := 2) hx hb d_law_333 (by decide) ?_
  refine lv_iadd hx hb d_law_334 ?_
  refine va_sld hx hb hX hbl hbA hw.2.2.2.2.2 (six (k := 2) hi hL (by decide)) d_law_335 ?_
  refine lv_aload_n hx hb d_law_336 rfl (lv_at hl 0 rfl) ?_
  refine lv_iload_n hx hb d_law_337 rfl (lv_at hl 3 rfl) ?_
  refine lv_iconst (v := 3) hx hb d_law_338 (by decide) ?_
  refine lv_iadd hx hb d_law_339 ?_
  refine va_sld hx hb hX hbl hbA hw.2.2.2.2.2 (six (k := 3) hi hL (by decide)) d_law_340 ?_
  obtain ⟨r, hfx, hfm⟩ := hs (xs (nI i + 1).toNatClampNeg) (xs (nI i + 2).toNatClampNeg) (xs (nI i + 3).toNatClampNeg) σx σm hR 
  have hR1 := hR
  refine k_call2 (w := wX g qx) (wb := wM g qm σm) (As := [.int (xs (nI i + 1).toNatClampNeg), .int (xs (nI i + 2).toNatClampNeg), .int (xs (nI i + 3).toNatClampNeg)]) (rest := []) C hw (c_BH_letter (q := qx) hfx) cv_BH_letter k725 (xr_0 C ⟨hw.1, hw.2.2.1, hw.2.2.2.2.2⟩) (by decide) (by decide) hcs hl.1 rfl (Nat.le_of_ble_eq_true rfl) d_law_341 (fun H locs hw => ?_)
  show W p l e room_1 s m #[Value.ref b] below meth c H locs cells slots Q (F0 m 344 ls [.int r])
  refine lv_aload_n hx hb d_law_344 rfl (lv_at hl 2 rfl) ?_
  refine lv_aload_n hx hb d_law_345 rfl (lv_at hl 0 rfl) ?_
  refine lv_iload_n hx hb d_law_346 rfl (lv_at hl 3 rfl) ?_
  refine lv_iconst (v := 1) hx hb d_law_347 (by decide) ?_
  refine lv_iadd hx hb d_law_348 ?_
  refine va_sld hx hb hX hbl hbA hw.2.2.2.2.2 (six (k := 1) hi hL (by decide)) d_law_349 ?_
  refine lv_aload_n hx hb d_law_350 rfl (lv_at hl 0 rfl) ?_
  refine lv_iload_n hx hb d_law_351 rfl (lv_at hl 3 rfl) ?_
  refine lv_iconst (v := 2) hx hb d_law_352 (by decide) ?_
  refine lv_iadd hx hb d_law_353 ?_
  refine va_sld hx hb hX hbl hbA hw.2.2.2.2.2 (six (k := 2) hi hL (by decide)) d_law_354 ?_
  refine lv_aload_n hx hb d_law_355 rfl (lv_at hl 0 rfl) ?_
  refine lv_iload_n hx hb d_law_356 rfl (lv_at hl 3 rfl) ?_
  refine lv_iconst (v := 3) hx hb d_law_357 (by decide) ?_
  refine lv_iadd hx hb d_law_358 ?_
  refine va_sld hx hb hX hbl hbA hw.2.2.2.2.2 (six (k := 3) hi hL (by decide)) d_law_359 ?_
  replace hw := hw.comm
  refine k_call2 (w := wM g qm) (wb := wX g qx σx) (As := [.int (xs (nI i + 1).toNatClampNeg), .int (xs (nI i + 2).toNatClampNeg), .int (xs (nI i + 3).toNatClampNeg)]) (rest := [.int r]) C hw (c_M_letter (q := qm) hfm) cv_M_letter k1521 (mr_0 C ⟨hw.1, hw.2.2.1, hw.2.2.2.2.2⟩) (by decide) (by decide) hcs hl.1 rfl (Nat.le_of_ble_eq_true rfl) d_law_360 (fun H locs hw => ?_)
  replace hw := hw.comm
  show W p l e room_1 s m #[Value.ref b] below meth c H locs cells slots Q (F0 m 363 ls [.int r, .int r])
  refine lv_icmp_eq (tgt := 1199) hx hb d_law_363 (by decide) (fun _ => ?_) (fun cd => absurd rfl cd)
  exact next qx σx qm σm _ _ _ hR1 hw hl
set_option maxHeartbeats 4000000 in
theorem law_trier {Rel : St → St → Prop} (hs : Sim_trier Rel) (C : Cx g A p s m #[Value.ref b] meth c code 4 "BellHammerLaw" (some .boolean)) (hX : va_X b L xs s s.heap) (hbl : b < s.heap.size) (hbA : ¬ A b) (hcs : cells ≤ room_1.cells ∧ slots ≤ room_1.slots) {i : Nat} (hi : i + 6 ≤ L) (hL : L ≤ 3072) {qx qm : Nat → Nat} {σx σm : St} (hR : Rel σx σm) {H : Heap} {locs : List Loc} {ls : Array Slot} (hw : Wd2 g A s (wX g qx σx) (wM g qm σm) H locs) (hl : lv_has ls 4 [(0, .ref b), (1, .ref (qx 0)), (2, .ref (qm 0)), (3, .int (nI i))])
    (next : ∀ (qx : Nat → Nat) (σx : St) (qm : Nat → Nat) (σm : St) (H : Heap) (locs : List Loc) (ls : Array Slot), Rel σx σm → Wd2 g A s (wX g qx σx) (wM g qm σm) H locs → lv_has ls 4 [(0, .ref b), (1, .ref (qx 0)), (2, .ref (qm 0)), (3, .int (nI i))] → W p l e room_1 s m #[Value.ref b] below meth c H locs cells slots Q (F0 m 1199 ls [])) : W p l e room_1 s m #[Value.ref b] below meth c H locs cells slots Q (F0 m 368 ls []) := by
  obtain ⟨hx, hb, hml, hown, hts, hK, hA, hZ, hlocks, hr, hN⟩ := id C
  refine lv_aload_n hx hb d_law_368 rfl (lv_at hl 1 rfl) ?_
  refine lv_aload_n hx hb d_law_369 rfl (lv_at hl 0 rfl) ?_
  refine lv_iload_n hx hb d_law_370 rfl (lv_at hl 3 rfl) ?_
  refine lv_iconst (v := 1) hx hb d_law_371 (by decide) ?_
  refine lv_iadd hx hb d_law_372 ?_
  refine va_sld hx hb hX hbl hbA hw.2.2.2.2.2 (six (k := 1) hi hL (by decide)) d_law_373 ?_
  refine lv_aload_n hx hb d_law_374 rfl (lv_at hl 0 rfl) ?_
  refine lv_iload_n hx hb d_law_375 rfl (lv_at hl 3 rfl) ?_
  refine lv_iconst (v := 2) hx hb d_law_376 (by decide) ?_
  refine lv_iadd hx hb d_law_377 ?_
  refine va_sld hx hb hX hbl hbA hw.2.2.2.2.2 (six (k := 2) hi hL (by decide)) d_law_378 ?_
  obtain ⟨r, hfx, hfm⟩ := hs (xs (nI i + 1).toNatClampNeg) (xs (nI i + 2).toNatClampNeg) σx σm hR 
  have hR1 := hR
  refine k_call2 (w := wX g qx) (wb := wM g qm σm) (As := [.int (xs (nI i + 1).toNatClampNeg), .int (xs (nI i + 2).toNatClampNeg)]) (rest := []) C hw (c_BH_trier (q := qx) hfx) cv_BH_trier k740 (xr_0 C ⟨hw.1, hw.2.2.1, hw.2.2.2.2.2⟩) (by decide) (by decide) hcs hl.1 rfl (Nat.le_of_ble_eq_true rfl) d_law_379 (fun H locs hw => ?_)
  show W p l e room_1 s m #[Value.ref b] below meth c H locs cells slots Q (F0 m 382 ls [.int r])
  refine lv_aload_n hx hb d_law_382 rfl (lv_at hl 2 rfl) ?_
  refine lv_aload_n hx hb d_law_383 rfl (lv_at hl 0 rfl) ?_
  refine lv_iload_n hx hb d_law_384 rfl (lv_at hl 3 rfl) ?_
  refine lv_iconst (v := 1) hx hb d_law_385 (by decide) ?_
  refine lv_iadd hx hb d_law_386 ?_
  refine va_sld hx hb hX hbl hbA hw.2.2.2.2.2 (six (k := 1) hi hL (by decide)) d_law_387 ?_
  refine lv_aload_n hx hb d_law_388 rfl (lv_at hl 0 rfl) ?_
  refine lv_iload_n hx hb d_law_389 rfl (lv_at hl 3 rfl) ?_
  refine lv_iconst (v := 2) hx hb d_law_390 (by decide) ?_
  refine lv_iadd hx hb d_law_391 ?_
  refine va_sld hx hb hX hbl hbA hw.2.2.2.2.2 (six (k := 2) hi hL (by decide)) d_law_392 ?_
  replace hw := hw.comm
  refine k_call2 (w := wM g qm) (wb := wX g qx σx) (As := [.int (xs (nI i + 1).toNatClampNeg), .int (xs (nI i + 2).toNatClampNeg)]) (rest := [.int r]) C hw (c_M_trier (q := qm) hfm) cv_M_trier k1526 (mr_0 C ⟨hw.1, hw.2.2.1, hw.2.2.2.2.2⟩) (by decide) (by decide) hcs hl.1 rfl (Nat.le_of_ble_eq_true rfl) d_law_393 (fun H locs hw => ?_)
  replace hw := hw.comm
  show W p l e room_1 s m #[Value.ref b] below meth c H locs cells slots Q (F0 m 396 ls [.int r, .int r])
  refine lv_icmp_eq (tgt := 1199) hx hb d_law_396 (by decide) (fun _ => ?_) (fun cd => absurd rfl cd)
  exact next qx σx qm σm _ _ _ hR1 hw hl
set_option maxHeartbeats 4000000 in
theorem law_mark {Rel : St → St → Prop} (hs : Sim_mark Rel) (C : Cx g A p s m #[Value.ref b] meth c code 4 "BellHammerLaw" (some .boolean)) (hX : va_X b L xs s s.heap) (hbl : b < s.heap.size) (hbA : ¬ A b) (hcs : cells ≤ room_1.cells ∧ slots ≤ room_1.slots) {i : Nat} (hi : i + 6 ≤ L) (hL : L ≤ 3072) {qx qm : Nat → Nat} {σx σm : St} (hR : Rel σx σm) {H : Heap} {locs : List Loc} {ls : Array Slot} (hw : Wd2 g A s (wX g qx σx) (wM g qm σm) H locs) (hl : lv_has ls 4 [(0, .ref b), (1, .ref (qx 0)), (2, .ref (qm 0)), (3, .int (nI i))])
    (next : ∀ (qx : Nat → Nat) (σx : St) (qm : Nat → Nat) (σm : St) (H : Heap) (locs : List Loc) (ls : Array Slot), Rel σx σm → Wd2 g A s (wX g qx σx) (wM g qm σm) H locs → lv_has ls 4 [(0, .ref b), (1, .ref (qx 0)), (2, .ref (qm 0)), (3, .int (nI i))] → W p l e room_1 s m #[Value.ref b] below meth c H locs cells slots Q (F0 m 1199 ls [])) : W p l e room_1 s m #[Value.ref b] below meth c H locs cells slots Q (F0 m 401 ls []) := by
  obtain ⟨hx, hb, hml, hown, hts, hK, hA, hZ, hlocks, hr, hN⟩ := id C
  refine lv_aload_n hx hb d_law_401 rfl (lv_at hl 1 rfl) ?_
  refine lv_aload_n hx hb d_law_402 rfl (lv_at hl 0 rfl) ?_
  refine lv_iload_n hx hb d_law_403 rfl (lv_at hl 3 rfl) ?_
  refine lv_iconst (v := 1) hx hb d_law_404 (by decide) ?_
  refine lv_iadd hx hb d_law_405 ?_
  refine va_sld hx hb hX hbl hbA hw.2.2.2.2.2 (six (k := 1) hi hL (by decide)) d_law_406 ?_
  obtain ⟨r, hfx, hfm⟩ := hs (xs (nI i + 1).toNatClampNeg) σx σm hR 
  have hR1 := hR
  refine k_call2 (w := wX g qx) (wb := wM g qm σm) (As := [.int (xs (nI i + 1).toNatClampNeg)]) (rest := []) C hw (c_BH_mark (q := qx) hfx) cv_BH_mark k748 (xr_0 C ⟨hw.1, hw.2.2.1, hw.2.2.2.2.2⟩) (by decide) (by decide) hcs hl.1 rfl (Nat.le_of_ble_eq_true rfl) d_law_407 (fun H locs hw => ?_)
  show W p l e room_1 s m #[Value.ref b] below meth c H locs cells slots Q (F0 m 410 ls [.int r])
  refine lv_aload_n hx hb d_law_410 rfl (lv_at hl 2 rfl) ?_
  refine lv_aload_n hx hb d_law_411 rfl (lv_at hl 0 rfl) ?_
  refine lv_iload_n hx hb d_law_412 rfl (lv_at hl 3 rfl) ?_
  refine lv_iconst (v := 1) hx hb d_law_413 (by decide) ?_
  refine lv_iadd hx hb d_law_414 ?_
  refine va_sld hx hb hX hbl hbA hw.2.2.2.2.2 (six (k := 1) hi hL (by decide)) d_law_415 ?_
  replace hw := hw.comm
  refine k_call2 (w := wM g qm) (wb := wX g qx σx) (As := [.int (xs (nI i + 1).toNatClampNeg)]) (rest := [.int r]) C hw (c_M_mark (q := qm) hfm) cv_M_mark k1538 (mr_0 C ⟨hw.1, hw.2.2.1, hw.2.2.2.2.2⟩) (by decide) (by decide) hcs hl.1 rfl (Nat.le_of_ble_eq_true rfl) d_law_416 (fun H locs hw => ?_)
  replace hw := hw.comm
  show W p l e room_1 s m #[Value.ref b] below meth c H locs cells slots Q (F0 m 419 ls [.int r, .int r])
  refine lv_icmp_eq (tgt := 1199) hx hb d_law_419 (by decide) (fun _ => ?_) (fun cd => absurd rfl cd)
  exact next qx σx qm σm _ _ _ hR1 hw hl
set_option maxHeartbeats 4000000 in
theorem law_past {Rel : St → St → Prop} (hs : Sim_past Rel) (C : Cx g A p s m #[Value.ref b] meth c code 4 "BellHammerLaw" (some .boolean)) (hX : va_X b L xs s s.heap) (hbl : b < s.heap.size) (hbA : ¬ A b) (hcs : cells ≤ room_1.cells ∧ slots ≤ room_1.slots) {i : Nat} (hi : i + 6 ≤ L) (hL : L ≤ 3072) {qx qm : Nat → Nat} {σx σm : St} (hR : Rel σx σm) {H : Heap} {locs : List Loc} {ls : Array Slot} (hw : Wd2 g A s (wX g qx σx) (wM g qm σm) H locs) (hl : lv_has ls 4 [(0, .ref b), (1, .ref (qx 0)), (2, .ref (qm 0)), (3, .int (nI i))])
    (next : ∀ (qx : Nat → Nat) (σx : St) (qm : Nat → Nat) (σm : St) (H : Heap) (locs : List Loc) (ls : Array Slot), Rel σx σm → Wd2 g A s (wX g qx σx) (wM g qm σm) H locs → lv_has ls 4 [(0, .ref b), (1, .ref (qx 0)), (2, .ref (qm 0)), (3, .int (nI i))] → W p l e room_1 s m #[Value.ref b] below meth c H locs cells slots Q (F0 m 1199 ls [])) : W p l e room_1 s m #[Value.ref b] below meth c H locs cells slots Q (F0 m 424 ls []) := by
  obtain ⟨hx, hb, hml, hown, hts, hK, hA, hZ, hlocks, hr, hN⟩ := id C
  refine lv_aload_n hx hb d_law_424 rfl (lv_at hl 1 rfl) ?_
  refine lv_aload_n hx hb d_law_425 rfl (lv_at hl 0 rfl) ?_
  refine lv_iload_n hx hb d_law_426 rfl (lv_at hl 3 rfl) ?_
  refine lv_iconst (v := 1) hx hb d_law_427 (by decide) ?_
  refine lv_iadd hx hb d_law_428 ?_
  refine va_sld hx hb hX hbl hbA hw.2.2.2.2.2 (six (k := 1) hi hL (by decide)) d_law_429 ?_
  obtain ⟨r, hfx, hfm⟩ := hs (xs (nI i + 1).toNatClampNeg) σx σm hR 
  have hR1 := hR
  refine k_call2 (w := wX g qx) (wb := wM g qm σm) (As := [.int (xs (nI i + 1).toNatClampNeg)]) (rest := []) C hw (c_BH_past (q := qx) hfx) cv_BH_past k752 (xr_0 C ⟨hw.1, hw.2.2.1, hw.2.2.2.2.2⟩) (by decide) (by decide) hcs hl.1 rfl (Nat.le_of_ble_eq_true rfl) d_law_430 (fun H locs hw => ?_)
  show W p l e room_1 s m #[Value.ref b] below meth c H locs cells slots Q (F0 m 433 ls [.int r])
  refine lv_aload_n hx hb d_law_433 rfl (lv_at hl 2 rfl) ?_
  refine lv_aload_n hx hb d_law_434 rfl (lv_at hl 0 rfl) ?_
  refine lv_iload_n hx hb d_law_435 rfl (lv_at hl 3 rfl) ?_
  refine lv_iconst (v := 1) hx hb d_law_436 (by decide) ?_
  refine lv_iadd hx hb d_law_437 ?_
  refine va_sld hx hb hX hbl hbA hw.2.2.2.2.2 (six (k := 1) hi hL (by decide)) d_law_438 ?_
  replace hw := hw.comm
  refine k_call2 (w := wM g qm) (wb := wX g qx σx) (As := [.int (xs (nI i + 1).toNatClampNeg)]) (rest := [.int r]) C hw (c_M_past (q := qm) hfm) cv_M_past k1542 (mr_0 C ⟨hw.1, hw.2.2.1, hw.2.2.2.2.2⟩) (by decide) (by decide) hcs hl.1 rfl (Nat.le_of_ble_eq_true rfl) d_law_439 (fun H locs hw => ?_)
  replace hw := hw.comm
  show W p l e room_1 s m #[Value.ref b] below meth c H locs cells slots Q (F0 m 442 ls [.int r, .int r])
  refine lv_icmp_eq (tgt := 1199) hx hb d_law_442 (by decide) (fun _ => ?_) (fun cd => absurd rfl cd)
  exact next qx σx qm σm _ _ _ hR1 hw hl
set_option maxHeartbeats 4000000 in
theorem law_high {Rel : St → St → Prop} (hs : Sim_high Rel) (C : Cx g A p s m #[Value.ref b] meth c code 4 "BellHammerLaw" (some .boolean)) (hX : va_X b L xs s s.heap) (hbl : b < s.heap.size) (hbA : ¬ A b) (hcs : cells ≤ room_1.cells ∧ slots ≤ room_1.slots) {i : Nat} (hi : i + 6 ≤ L) (hL : L ≤ 3072) {qx qm : Nat → Nat} {σx σm : St} (hR : Rel σx σm) {H : Heap} {locs : List Loc} {ls : Array Slot} (hw : Wd2 g A s (wX g qx σx) (wM g qm σm) H locs) (hl : lv_has ls 4 [(0, .ref b), (1, .ref (qx 0)), (2, .ref (qm 0)), (3, .int (nI i))])
    (next : ∀ (qx : Nat → Nat) (σx : St) (qm : Nat → Nat) (σm : St) (H : Heap) (locs : List Loc) (ls : Array Slot), Rel σx σm → Wd2 g A s (wX g qx σx) (wM g qm σm) H locs → lv_has ls 4 [(0, .ref b), (1, .ref (qx 0)), (2, .ref (qm 0)), (3, .int (nI i))] → W p l e room_1 s m #[Value.ref b] below meth c H locs cells slots Q (F0 m 1199 ls [])) : W p l e room_1 s m #[Value.ref b] below meth c H locs cells slots Q (F0 m 447 ls []) := by
  obtain ⟨hx, hb, hml, hown, hts, hK, hA, hZ, hlocks, hr, hN⟩ := id C
  refine lv_aload_n hx hb d_law_447 rfl (lv_at hl 1 rfl) ?_
  refine lv_aload_n hx hb d_law_448 rfl (lv_at hl 0 rfl) ?_
  refine lv_iload_n hx hb d_law_449 rfl (lv_at hl 3 rfl) ?_
  refine lv_iconst (v := 1) hx hb d_law_450 (by decide) ?_
  refine lv_iadd hx hb d_law_451 ?_
  refine va_sld hx hb hX hbl hbA hw.2.2.2.2.2 (six (k := 1) hi hL (by decide)) d_law_452 ?_
  refine lv_aload_n hx hb d_law_453 rfl (lv_at hl 0 rfl) ?_
  refine lv_iload_n hx hb d_law_454 rfl (lv_at hl 3 rfl) ?_
  refine lv_iconst (v := 2) hx hb d_law_455 (by decide) ?_
  refine lv_iadd hx hb d_law_456 ?_
  refine va_sld hx hb hX hbl hbA hw.2.2.2.2.2 (six (k := 2) hi hL (by decide)) d_law_457 ?_
  refine lv_aload_n hx hb d_law_458 rfl (lv_at hl 0 rfl) ?_
  refine lv_iload_n hx hb d_law_459 rfl (lv_at hl 3 rfl) ?_
  refine lv_iconst (v := 3) hx hb d_law_460 (by decide) ?_
  refine lv_iadd hx hb d_law_461 ?_
  refine va_sld hx hb hX hbl hbA hw.2.2.2.2.2 (six (k := 3) hi hL (by decide)) d_law_462 ?_
  refine lv_aload_n hx hb d_law_463 rfl (lv_at hl 0 rfl) ?_
  refine lv_iload_n hx hb d_law_464 rfl (lv_at hl 3 rfl) ?_
  refine lv_iconst (v := 4) hx hb d_law_465 (by decide) ?_
  refine lv_iadd hx hb d_law_466 ?_
  refine va_sld hx hb hX hbl hbA hw.2.2.2.2.2 (six (k := 4) hi hL (by decide)) d_law_467 ?_
  refine lv_if_eq (tgt := 475) hx hb d_law_468 (by decide) (fun cd468 => ?_) (fun cd468 => ?_)
  ·
    refine lv_iconst (v := 0) hx hb d_law_475 (by decide) ?_
    obtain ⟨r, σx1, hfx, hfm, hR1⟩ := hs (xs (nI i + 1).toNatClampNeg) (xs (nI i + 2).toNatClampNeg) (xs (nI i + 3).toNatClampNeg) (0) σx σm hR (Or.inl rfl)
    refine k_call2 (w := wX g qx) (wb := wM g qm σm) (As := [.int (xs (nI i + 1).toNatClampNeg), .int (xs (nI i + 2).toNatClampNeg), .int (xs (nI i + 3).toNatClampNeg), .int (0)]) (rest := []) C hw (c_BH_high (q := qx) hfx) cv_BH_high k760 (xr_0 C ⟨hw.1, hw.2.2.1, hw.2.2.2.2.2⟩) (by decide) (by decide) hcs hl.1 rfl (Nat.le_of_ble_eq_true rfl) d_law_476 (fun H locs hw => ?_)
    show W p l e room_1 s m #[Value.ref b] below meth c H locs cells slots Q (F0 m 479 ls [.int r])
    refine lv_aload_n hx hb d_law_479 rfl (lv_at hl 2 rfl) ?_
    refine lv_aload_n hx hb d_law_480 rfl (lv_at hl 0 rfl) ?_
    refine lv_iload_n hx hb d_law_481 rfl (lv_at hl 3 rfl) ?_
    refine lv_iconst (v := 1) hx hb d_law_482 (by decide) ?_
    refine lv_iadd hx hb d_law_483 ?_
    refine va_sld hx hb hX hbl hbA hw.2.2.2.2.2 (six (k := 1) hi hL (by decide)) d_law_484 ?_
    refine lv_aload_n hx hb d_law_485 rfl (lv_at hl 0 rfl) ?_
    refine lv_iload_n hx hb d_law_486 rfl (lv_at hl 3 rfl) ?_
    refine lv_iconst (v := 2) hx hb d_law_487 (by decide) ?_
    refine lv_iadd hx hb d_law_488 ?_
    refine va_sld hx hb hX hbl hbA hw.2.2.2.2.2 (six (k := 2) hi hL (by decide)) d_law_489 ?_
    refine lv_aload_n hx hb d_law_490 rfl (lv_at hl 0 rfl) ?_
    refine lv_iload_n hx hb d_law_491 rfl (lv_at hl 3 rfl) ?_
    refine lv_iconst (v := 3) hx hb d_law_492 (by decide) ?_
    refine lv_iadd hx hb d_law_493 ?_
    refine va_sld hx hb hX hbl hbA hw.2.2.2.2.2 (six (k := 3) hi hL (by decide)) d_law_494 ?_
    refine lv_aload_n hx hb d_law_495 rfl (lv_at hl 0 rfl) ?_
    refine lv_iload_n hx hb d_law_496 rfl (lv_at hl 3 rfl) ?_
    refine lv_iconst (v := 4) hx hb d_law_497 (by decide) ?_
    refine lv_iadd hx hb d_law_498 ?_
    refine va_sld hx hb hX hbl hbA hw.2.2.2.2.2 (six (k := 4) hi hL (by decide)) d_law_499 ?_
    refine lv_if_eq (tgt := 507) hx hb d_law_500 (by decide) (fun cd500 => ?_) (fun cd500 => ?_)
    ·
      refine lv_iconst (v := 0) hx hb d_law_507 (by decide) ?_
      replace hw := hw.comm
      refine k_call2 (w := wM g qm) (wb := wX g qx σx1) (As := [.int (xs (nI i + 1).toNatClampNeg), .int (xs (nI i + 2).toNatClampNeg), .int (xs (nI i + 3).toNatClampNeg), .int (0)]) (rest := [.int r]) C hw (c_M_high (q := qm) hfm) cv_M_high k1547 (mr_0 C ⟨hw.1, hw.2.2.1, hw.2.2.2.2.2⟩) (by decide) (by decide) hcs hl.1 rfl (Nat.le_of_ble_eq_true rfl) d_law_508 (fun H locs hw => ?_)
      replace hw := hw.comm
      show W p l e room_1 s m #[Value.ref b] below meth c H locs cells slots Q (F0 m 511 ls [.int r, .int r])
      refine lv_icmp_eq (tgt := 1199) hx hb d_law_511 (by decide) (fun _ => ?_) (fun cd => absurd rfl cd)
      exact next qx σx1 qm σm _ _ _ hR1 hw hl
    ·
      exact absurd cd468 cd500
  ·
    refine lv_iconst (v := 1) hx hb d_law_471 (by decide) ?_
    refine lv_goto (tgt := 476) hx hb d_law_472 (by decide) ?_
    obtain ⟨r, σx1, hfx, hfm, hR1⟩ := hs (xs (nI i + 1).toNatClampNeg) (xs (nI i + 2).toNatClampNeg) (xs (nI i + 3).toNatClampNeg) (1) σx σm hR (Or.inr rfl)
    refine k_call2 (w := wX g qx) (wb := wM g qm σm) (As := [.int (xs (nI i + 1).toNatClampNeg), .int (xs (nI i + 2).toNatClampNeg), .int (xs (nI i + 3).toNatClampNeg), .int (1)]) (rest := []) C hw (c_BH_high (q := qx) hfx) cv_BH_high k760 (xr_0 C ⟨hw.1, hw.2.2.1, hw.2.2.2.2.2⟩) (by decide) (by decide) hcs hl.1 rfl (Nat.le_of_ble_eq_true rfl) d_law_476 (fun H locs hw => ?_)
    show W p l e room_1 s m #[Value.ref b] below meth c H locs cells slots Q (F0 m 479 ls [.int r])
    refine lv_aload_n hx hb d_law_479 rfl (lv_at hl 2 rfl) ?_
    refine lv_aload_n hx hb d_law_480 rfl (lv_at hl 0 rfl) ?_
    refine lv_iload_n hx hb d_law_481 rfl (lv_at hl 3 rfl) ?_
    refine lv_iconst (v := 1) hx hb d_law_482 (by decide) ?_
    refine lv_iadd hx hb d_law_483 ?_
    refine va_sld hx hb hX hbl hbA hw.2.2.2.2.2 (six (k := 1) hi hL (by decide)) d_law_484 ?_
    refine lv_aload_n hx hb d_law_485 rfl (lv_at hl 0 rfl) ?_
    refine lv_iload_n hx hb d_law_486 rfl (lv_at hl 3 rfl) ?_
    refine lv_iconst (v := 2) hx hb d_law_487 (by decide) ?_
    refine lv_iadd hx hb d_law_488 ?_
    refine va_sld hx hb hX hbl hbA hw.2.2.2.2.2 (six (k := 2) hi hL (by decide)) d_law_489 ?_
    refine lv_aload_n hx hb d_law_490 rfl (lv_at hl 0 rfl) ?_
    refine lv_iload_n hx hb d_law_491 rfl (lv_at hl 3 rfl) ?_
    refine lv_iconst (v := 3) hx hb d_law_492 (by decide) ?_
    refine lv_iadd hx hb d_law_493 ?_
    refine va_sld hx hb hX hbl hbA hw.2.2.2.2.2 (six (k := 3) hi hL (by decide)) d_law_494 ?_
    refine lv_aload_n hx hb d_law_495 rfl (lv_at hl 0 rfl) ?_
    refine lv_iload_n hx hb d_law_496 rfl (lv_at hl 3 rfl) ?_
    refine lv_iconst (v := 4) hx hb d_law_497 (by decide) ?_
    refine lv_iadd hx hb d_law_498 ?_
    refine va_sld hx hb hX hbl hbA hw.2.2.2.2.2 (six (k := 4) hi hL (by decide)) d_law_499 ?_
    refine lv_if_eq (tgt := 507) hx hb d_law_500 (by decide) (fun cd500 => ?_) (fun cd500 => ?_)
    ·
      exact absurd cd500 cd468
    ·
      refine lv_iconst (v := 1) hx hb d_law_503 (by decide) ?_
      refine lv_goto (tgt := 508) hx hb d_law_504 (by decide) ?_
      replace hw := hw.comm
      refine k_call2 (w := wM g qm) (wb := wX g qx σx1) (As := [.int (xs (nI i + 1).toNatClampNeg), .int (xs (nI i + 2).toNatClampNeg), .int (xs (nI i + 3).toNatClampNeg), .int (1)]) (rest := [.int r]) C hw (c_M_high (q := qm) hfm) cv_M_high k1547 (mr_0 C ⟨hw.1, hw.2.2.1, hw.2.2.2.2.2⟩) (by decide) (by decide) hcs hl.1 rfl (Nat.le_of_ble_eq_true rfl) d_law_508 (fun H locs hw => ?_)
      replace hw := hw.comm
      show W p l e room_1 s m #[Value.ref b] below meth c H locs cells slots Q (F0 m 511 ls [.int r, .int r])
      refine lv_icmp_eq (tgt := 1199) hx hb d_law_511 (by decide) (fun _ => ?_) (fun cd => absurd rfl cd)
      exact next qx σx1 qm σm _ _ _ hR1 hw hl
set_option maxHeartbeats 4000000 in
theorem law_hard {Rel : St → St → Prop} (hs : Sim_hard Rel) (C : Cx g A p s m #[Value.ref b] meth c code 4 "BellHammerLaw" (some .boolean)) (hX : va_X b L xs s s.heap) (hbl : b < s.heap.size) (hbA : ¬ A b) (hcs : cells ≤ room_1.cells ∧ slots ≤ room_1.slots) {i : Nat} (hi : i + 6 ≤ L) (hL : L ≤ 3072) {qx qm : Nat → Nat} {σx σm : St} (hR : Rel σx σm) {H : Heap} {locs : List Loc} {ls : Array Slot} (hw : Wd2 g A s (wX g qx σx) (wM g qm σm) H locs) (hl : lv_has ls 4 [(0, .ref b), (1, .ref (qx 0)), (2, .ref (qm 0)), (3, .int (nI i))])
    (next : ∀ (qx : Nat → Nat) (σx : St) (qm : Nat → Nat) (σm : St) (H : Heap) (locs : List Loc) (ls : Array Slot), Rel σx σm → Wd2 g A s (wX g qx σx) (wM g qm σm) H locs → lv_has ls 4 [(0, .ref b), (1, .ref (qx 0)), (2, .ref (qm 0)), (3, .int (nI i))] → W p l e room_1 s m #[Value.ref b] below meth c H locs cells slots Q (F0 m 1199 ls [])) : W p l e room_1 s m #[Value.ref b] below meth c H locs cells slots Q (F0 m 516 ls []) := by
  obtain ⟨hx, hb, hml, hown, hts, hK, hA, hZ, hlocks, hr, hN⟩ := id C
  refine lv_aload_n hx hb d_law_516 rfl (lv_at hl 1 rfl) ?_
  refine lv_aload_n hx hb d_law_517 rfl (lv_at hl 0 rfl) ?_
  refine lv_iload_n hx hb d_law_518 rfl (lv_at hl 3 rfl) ?_
  refine lv_iconst (v := 1) hx hb d_law_519 (by decide) ?_
  refine lv_iadd hx hb d_law_520 ?_
  refine va_sld hx hb hX hbl hbA hw.2.2.2.2.2 (six (k := 1) hi hL (by decide)) d_law_521 ?_
  refine lv_aload_n hx hb d_law_522 rfl (lv_at hl 0 rfl) ?_
  refine lv_iload_n hx hb d_law_523 rfl (lv_at hl 3 rfl) ?_
  refine lv_iconst (v := 2) hx hb d_law_524 (by decide) ?_
  refine lv_iadd hx hb d_law_525 ?_
  refine va_sld hx hb hX hbl hbA hw.2.2.2.2.2 (six (k := 2) hi hL (by decide)) d_law_526 ?_
  refine lv_if_eq (tgt := 534) hx hb d_law_527 (by decide) (fun cd527 => ?_) (fun cd527 => ?_)
  ·
    refine lv_iconst (v := 0) hx hb d_law_534 (by decide) ?_
    obtain ⟨r, hfx, hfm⟩ := hs (xs (nI i + 1).toNatClampNeg) (0) σx σm hR (Or.inl rfl)
    have hR1 := hR
    refine k_call2 (w := wX g qx) (wb := wM g qm σm) (As := [.int (xs (nI i + 1).toNatClampNeg), .int (0)]) (rest := []) C hw (c_BH_hard (q := qx) hfx) cv_BH_hard k787 (xr_0 C ⟨hw.1, hw.2.2.1, hw.2.2.2.2.2⟩) (by decide) (by decide) hcs hl.1 rfl (Nat.le_of_ble_eq_true rfl) d_law_535 (fun H locs hw => ?_)
    show W p l e room_1 s m #[Value.ref b] below meth c H locs cells slots Q (F0 m 538 ls [.int r])
    refine lv_aload_n hx hb d_law_538 rfl (lv_at hl 2 rfl) ?_
    refine lv_aload_n hx hb d_law_539 rfl (lv_at hl 0 rfl) ?_
    refine lv_iload_n hx hb d_law_540 rfl (lv_at hl 3 rfl) ?_
    refine lv_iconst (v := 1) hx hb d_law_541 (by decide) ?_
    refine lv_iadd hx hb d_law_542 ?_
    refine va_sld hx hb hX hbl hbA hw.2.2.2.2.2 (six (k := 1) hi hL (by decide)) d_law_543 ?_
    refine lv_aload_n hx hb d_law_544 rfl (lv_at hl 0 rfl) ?_
    refine lv_iload_n hx hb d_law_545 rfl (lv_at hl 3 rfl) ?_
    refine lv_iconst (v := 2) hx hb d_law_546 (by decide) ?_
    refine lv_iadd hx hb d_law_547 ?_
    refine va_sld hx hb hX hbl hbA hw.2.2.2.2.2 (six (k := 2) hi hL (by decide)) d_law_548 ?_
    refine lv_if_eq (tgt := 556) hx hb d_law_549 (by decide) (fun cd549 => ?_) (fun cd549 => ?_)
    ·
      refine lv_iconst (v := 0) hx hb d_law_556 (by decide) ?_
      replace hw := hw.comm
      refine k_call2 (w := wM g qm) (wb := wX g qx σx) (As := [.int (xs (nI i + 1).toNatClampNeg), .int (0)]) (rest := [.int r]) C hw (c_M_hard (q := qm) hfm) cv_M_hard k1567 (mr_0 C ⟨hw.1, hw.2.2.1, hw.2.2.2.2.2⟩) (by decide) (by decide) hcs hl.1 rfl (Nat.le_of_ble_eq_true rfl) d_law_557 (fun H locs hw => ?_)
      replace hw := hw.comm
      show W p l e room_1 s m #[Value.ref b] below meth c H locs cells slots Q (F0 m 560 ls [.int r, .int r])
      refine lv_icmp_eq (tgt := 1199) hx hb d_law_560 (by decide) (fun _ => ?_) (fun cd => absurd rfl cd)
      exact next qx σx qm σm _ _ _ hR1 hw hl
    ·
      exact absurd cd527 cd549
  ·
    refine lv_iconst (v := 1) hx hb d_law_530 (by decide) ?_
    refine lv_goto (tgt := 535) hx hb d_law_531 (by decide) ?_
    obtain ⟨r, hfx, hfm⟩ := hs (xs (nI i + 1).toNatClampNeg) (1) σx σm hR (Or.inr rfl)
    have hR1 := hR
    refine k_call2 (w := wX g qx) (wb := wM g qm σm) (As := [.int (xs (nI i + 1).toNatClampNeg), .int (1)]) (rest := []) C hw (c_BH_hard (q := qx) hfx) cv_BH_hard k787 (xr_0 C ⟨hw.1, hw.2.2.1, hw.2.2.2.2.2⟩) (by decide) (by decide) hcs hl.1 rfl (Nat.le_of_ble_eq_true rfl) d_law_535 (fun H locs hw => ?_)
    show W p l e room_1 s m #[Value.ref b] below meth c H locs cells slots Q (F0 m 538 ls [.int r])
    refine lv_aload_n hx hb d_law_538 rfl (lv_at hl 2 rfl) ?_
    refine lv_aload_n hx hb d_law_539 rfl (lv_at hl 0 rfl) ?_
    refine lv_iload_n hx hb d_law_540 rfl (lv_at hl 3 rfl) ?_
    refine lv_iconst (v := 1) hx hb d_law_541 (by decide) ?_
    refine lv_iadd hx hb d_law_542 ?_
    refine va_sld hx hb hX hbl hbA hw.2.2.2.2.2 (six (k := 1) hi hL (by decide)) d_law_543 ?_
    refine lv_aload_n hx hb d_law_544 rfl (lv_at hl 0 rfl) ?_
    refine lv_iload_n hx hb d_law_545 rfl (lv_at hl 3 rfl) ?_
    refine lv_iconst (v := 2) hx hb d_law_546 (by decide) ?_
    refine lv_iadd hx hb d_law_547 ?_
    refine va_sld hx hb hX hbl hbA hw.2.2.2.2.2 (six (k := 2) hi hL (by decide)) d_law_548 ?_
    refine lv_if_eq (tgt := 556) hx hb d_law_549 (by decide) (fun cd549 => ?_) (fun cd549 => ?_)
    ·
      exact absurd cd549 cd527
    ·
      refine lv_iconst (v := 1) hx hb d_law_552 (by decide) ?_
      refine lv_goto (tgt := 557) hx hb d_law_553 (by decide) ?_
      replace hw := hw.comm
      refine k_call2 (w := wM g qm) (wb := wX g qx σx) (As := [.int (xs (nI i + 1).toNatClampNeg), .int (1)]) (rest := [.int r]) C hw (c_M_hard (q := qm) hfm) cv_M_hard k1567 (mr_0 C ⟨hw.1, hw.2.2.1, hw.2.2.2.2.2⟩) (by decide) (by decide) hcs hl.1 rfl (Nat.le_of_ble_eq_true rfl) d_law_557 (fun H locs hw => ?_)
      replace hw := hw.comm
      show W p l e room_1 s m #[Value.ref b] below meth c H locs cells slots Q (F0 m 560 ls [.int r, .int r])
      refine lv_icmp_eq (tgt := 1199) hx hb d_law_560 (by decide) (fun _ => ?_) (fun cd => absurd rfl cd)
      exact next qx σx qm σm _ _ _ hR1 hw hl
set_option maxHeartbeats 4000000 in
theorem law_wide {Rel : St → St → Prop} (hs : Sim_wide Rel) (C : Cx g A p s m #[Value.ref b] meth c code 4 "BellHammerLaw" (some .boolean)) (hX : va_X b L xs s s.heap) (hbl : b < s.heap.size) (hbA : ¬ A b) (hcs : cells ≤ room_1.cells ∧ slots ≤ room_1.slots) {i : Nat} (hi : i + 6 ≤ L) (hL : L ≤ 3072) {qx qm : Nat → Nat} {σx σm : St} (hR : Rel σx σm) {H : Heap} {locs : List Loc} {ls : Array Slot} (hw : Wd2 g A s (wX g qx σx) (wM g qm σm) H locs) (hl : lv_has ls 4 [(0, .ref b), (1, .ref (qx 0)), (2, .ref (qm 0)), (3, .int (nI i))])
    (next : ∀ (qx : Nat → Nat) (σx : St) (qm : Nat → Nat) (σm : St) (H : Heap) (locs : List Loc) (ls : Array Slot), Rel σx σm → Wd2 g A s (wX g qx σx) (wM g qm σm) H locs → lv_has ls 4 [(0, .ref b), (1, .ref (qx 0)), (2, .ref (qm 0)), (3, .int (nI i))] → W p l e room_1 s m #[Value.ref b] below meth c H locs cells slots Q (F0 m 1199 ls [])) : W p l e room_1 s m #[Value.ref b] below meth c H locs cells slots Q (F0 m 565 ls []) := by
  obtain ⟨hx, hb, hml, hown, hts, hK, hA, hZ, hlocks, hr, hN⟩ := id C
  refine lv_aload_n hx hb d_law_565 rfl (lv_at hl 1 rfl) ?_
  refine lv_aload_n hx hb d_law_566 rfl (lv_at hl 0 rfl) ?_
  refine lv_iload_n hx hb d_law_567 rfl (lv_at hl 3 rfl) ?_
  refine lv_iconst (v := 1) hx hb d_law_568 (by decide) ?_
  refine lv_iadd hx hb d_law_569 ?_
  refine va_sld hx hb hX hbl hbA hw.2.2.2.2.2 (six (k := 1) hi hL (by decide)) d_law_570 ?_
  refine lv_aload_n hx hb d_law_571 rfl (lv_at hl 0 rfl) ?_
  refine lv_iload_n hx hb d_law_572 rfl (lv_at hl 3 rfl) ?_
  refine lv_iconst (v := 2) hx hb d_law_573 (by decide) ?_
  refine lv_iadd hx hb d_law_574 ?_
  refine va_sld hx hb hX hbl hbA hw.2.2.2.2.2 (six (k := 2) hi hL (by decide)) d_law_575 ?_
  refine lv_if_eq (tgt := 583) hx hb d_law_576 (by decide) (fun cd576 => ?_) (fun cd576 => ?_)
  ·
    refine lv_iconst (v := 0) hx hb d_law_583 (by decide) ?_
    obtain ⟨r, hfx, hfm⟩ := hs (xs (nI i + 1).toNatClampNeg) (0) σx σm hR (Or.inl rfl)
    have hR1 := hR
    refine k_call2 (w := wX g qx) (wb := wM g qm σm) (As := [.int (xs (nI i + 1).toNatClampNeg), .int (0)]) (rest := []) C hw (c_BH_wide (q := qx) hfx) cv_BH_wide k796 (xr_0 C ⟨hw.1, hw.2.2.1, hw.2.2.2.2.2⟩) (by decide) (by decide) hcs hl.1 rfl (Nat.le_of_ble_eq_true rfl) d_law_584 (fun H locs hw => ?_)
    show W p l e room_1 s m #[Value.ref b] below meth c H locs cells slots Q (F0 m 587 ls [.int r])
    refine lv_aload_n hx hb d_law_587 rfl (lv_at hl 2 rfl) ?_
    refine lv_aload_n hx hb d_law_588 rfl (lv_at hl 0 rfl) ?_
    refine lv_iload_n hx hb d_law_589 rfl (lv_at hl 3 rfl) ?_
    refine lv_iconst (v := 1) hx hb d_law_590 (by decide) ?_
    refine lv_iadd hx hb d_law_591 ?_
    refine va_sld hx hb hX hbl hbA hw.2.2.2.2.2 (six (k := 1) hi hL (by decide)) d_law_592 ?_
    refine lv_aload_n hx hb d_law_593 rfl (lv_at hl 0 rfl) ?_
    refine lv_iload_n hx hb d_law_594 rfl (lv_at hl 3 rfl) ?_
    refine lv_iconst (v := 2) hx hb d_law_595 (by decide) ?_
    refine lv_iadd hx hb d_law_596 ?_
    refine va_sld hx hb hX hbl hbA hw.2.2.2.2.2 (six (k := 2) hi hL (by decide)) d_law_597 ?_
    refine lv_if_eq (tgt := 605) hx hb d_law_598 (by decide) (fun cd598 => ?_) (fun cd598 => ?_)
    ·
      refine lv_iconst (v := 0) hx hb d_law_605 (by decide) ?_
      replace hw := hw.comm
      refine k_call2 (w := wM g qm) (wb := wX g qx σx) (As := [.int (xs (nI i + 1).toNatClampNeg), .int (0)]) (rest := [.int r]) C hw (c_M_wide (q := qm) hfm) cv_M_wide k1571 (mr_0 C ⟨hw.1, hw.2.2.1, hw.2.2.2.2.2⟩) (by decide) (by decide) hcs hl.1 rfl (Nat.le_of_ble_eq_true rfl) d_law_606 (fun H locs hw => ?_)
      replace hw := hw.comm
      show W p l e room_1 s m #[Value.ref b] below meth c H locs cells slots Q (F0 m 609 ls [.int r, .int r])
      refine lv_icmp_eq (tgt := 1199) hx hb d_law_609 (by decide) (fun _ => ?_) (fun cd => absurd rfl cd)
      exact next qx σx qm σm _ _ _ hR1 hw hl
    ·
      exact absurd cd576 cd598
  ·
    refine lv_iconst (v := 1) hx hb d_law_579 (by decide) ?_
    refine lv_goto (tgt := 584) hx hb d_law_580 (by decide) ?_
    obtain ⟨r, hfx, hfm⟩ := hs (xs (nI i + 1).toNatClampNeg) (1) σx σm hR (Or.inr rfl)
    have hR1 := hR
    refine k_call2 (w := wX g qx) (wb := wM g qm σm) (As := [.int (xs (nI i + 1).toNatClampNeg), .int (1)]) (rest := []) C hw (c_BH_wide (q := qx) hfx) cv_BH_wide k796 (xr_0 C ⟨hw.1, hw.2.2.1, hw.2.2.2.2.2⟩) (by decide) (by decide) hcs hl.1 rfl (Nat.le_of_ble_eq_true rfl) d_law_584 (fun H locs hw => ?_)
    show W p l e room_1 s m #[Value.ref b] below meth c H locs cells slots Q (F0 m 587 ls [.int r])
    refine lv_aload_n hx hb d_law_587 rfl (lv_at hl 2 rfl) ?_
    refine lv_aload_n hx hb d_law_588 rfl (lv_at hl 0 rfl) ?_
    refine lv_iload_n hx hb d_law_589 rfl (lv_at hl 3 rfl) ?_
    refine lv_iconst (v := 1) hx hb d_law_590 (by decide) ?_
    refine lv_iadd hx hb d_law_591 ?_
    refine va_sld hx hb hX hbl hbA hw.2.2.2.2.2 (six (k := 1) hi hL (by decide)) d_law_592 ?_
    refine lv_aload_n hx hb d_law_593 rfl (lv_at hl 0 rfl) ?_
    refine lv_iload_n hx hb d_law_594 rfl (lv_at hl 3 rfl) ?_
    refine lv_iconst (v := 2) hx hb d_law_595 (by decide) ?_
    refine lv_iadd hx hb d_law_596 ?_
    refine va_sld hx hb hX hbl hbA hw.2.2.2.2.2 (six (k := 2) hi hL (by decide)) d_law_597 ?_
    refine lv_if_eq (tgt := 605) hx hb d_law_598 (by decide) (fun cd598 => ?_) (fun cd598 => ?_)
    ·
      exact absurd cd598 cd576
    ·
      refine lv_iconst (v := 1) hx hb d_law_601 (by decide) ?_
      refine lv_goto (tgt := 606) hx hb d_law_602 (by decide) ?_
      replace hw := hw.comm
      refine k_call2 (w := wM g qm) (wb := wX g qx σx) (As := [.int (xs (nI i + 1).toNatClampNeg), .int (1)]) (rest := [.int r]) C hw (c_M_wide (q := qm) hfm) cv_M_wide k1571 (mr_0 C ⟨hw.1, hw.2.2.1, hw.2.2.2.2.2⟩) (by decide) (by decide) hcs hl.1 rfl (Nat.le_of_ble_eq_true rfl) d_law_606 (fun H locs hw => ?_)
      replace hw := hw.comm
      show W p l e room_1 s m #[Value.ref b] below meth c H locs cells slots Q (F0 m 609 ls [.int r, .int r])
      refine lv_icmp_eq (tgt := 1199) hx hb d_law_609 (by decide) (fun _ => ?_) (fun cd => absurd rfl cd)
      exact next qx σx qm σm _ _ _ hR1 hw hl
set_option maxHeartbeats 4000000 in
theorem law_leans {Rel : St → St → Prop} (hs : Sim_leans Rel) (C : Cx g A p s m #[Value.ref b] meth c code 4 "BellHammerLaw" (some .boolean)) (hX : va_X b L xs s s.heap) (hbl : b < s.heap.size) (hbA : ¬ A b) (hcs : cells ≤ room_1.cells ∧ slots ≤ room_1.slots) {i : Nat} (hi : i + 6 ≤ L) (hL : L ≤ 3072) {qx qm : Nat → Nat} {σx σm : St} (hR : Rel σx σm) {H : Heap} {locs : List Loc} {ls : Array Slot} (hw : Wd2 g A s (wX g qx σx) (wM g qm σm) H locs) (hl : lv_has ls 4 [(0, .ref b), (1, .ref (qx 0)), (2, .ref (qm 0)), (3, .int (nI i))])
    (next : ∀ (qx : Nat → Nat) (σx : St) (qm : Nat → Nat) (σm : St) (H : Heap) (locs : List Loc) (ls : Array Slot), Rel σx σm → Wd2 g A s (wX g qx σx) (wM g qm σm) H locs → lv_has ls 4 [(0, .ref b), (1, .ref (qx 0)), (2, .ref (qm 0)), (3, .int (nI i))] → W p l e room_1 s m #[Value.ref b] below meth c H locs cells slots Q (F0 m 1199 ls [])) : W p l e room_1 s m #[Value.ref b] below meth c H locs cells slots Q (F0 m 614 ls []) := by
  obtain ⟨hx, hb, hml, hown, hts, hK, hA, hZ, hlocks, hr, hN⟩ := id C
  refine lv_aload_n hx hb d_law_614 rfl (lv_at hl 1 rfl) ?_
  refine lv_aload_n hx hb d_law_615 rfl (lv_at hl 0 rfl) ?_
  refine lv_iload_n hx hb d_law_616 rfl (lv_at hl 3 rfl) ?_
  refine lv_iconst (v := 1) hx hb d_law_617 (by decide) ?_
  refine lv_iadd hx hb d_law_618 ?_
  refine va_sld hx hb hX hbl hbA hw.2.2.2.2.2 (six (k := 1) hi hL (by decide)) d_law_619 ?_
  refine lv_aload_n hx hb d_law_620 rfl (lv_at hl 0 rfl) ?_
  refine lv_iload_n hx hb d_law_621 rfl (lv_at hl 3 rfl) ?_
  refine lv_iconst (v := 2) hx hb d_law_622 (by decide) ?_
  refine lv_iadd hx hb d_law_623 ?_
  refine va_sld hx hb hX hbl hbA hw.2.2.2.2.2 (six (k := 2) hi hL (by decide)) d_law_624 ?_
  refine lv_aload_n hx hb d_law_625 rfl (lv_at hl 0 rfl) ?_
  refine lv_iload_n hx hb d_law_626 rfl (lv_at hl 3 rfl) ?_
  refine lv_iconst (v := 3) hx hb d_law_627 (by decide) ?_
  refine lv_iadd hx hb d_law_628 ?_
  refine va_sld hx hb hX hbl hbA hw.2.2.2.2.2 (six (k := 3) hi hL (by decide)) d_law_629 ?_
  refine lv_aload_n hx hb d_law_630 rfl (lv_at hl 0 rfl) ?_
  refine lv_iload_n hx hb d_law_631 rfl (lv_at hl 3 rfl) ?_
  refine lv_iconst (v := 4) hx hb d_law_632 (by decide) ?_
  refine lv_iadd hx hb d_law_633 ?_
  refine va_sld hx hb hX hbl hbA hw.2.2.2.2.2 (six (k := 4) hi hL (by decide)) d_law_634 ?_
  refine lv_aload_n hx hb d_law_635 rfl (lv_at hl 0 rfl) ?_
  refine lv_iload_n hx hb d_law_636 rfl (lv_at hl 3 rfl) ?_
  refine lv_iconst (v := 5) hx hb d_law_637 (by decide) ?_
  refine lv_iadd hx hb d_law_638 ?_
  refine va_sld hx hb hX hbl hbA hw.2.2.2.2.2 (six (k := 5) hi hL (by decide)) d_law_639 ?_
  obtain ⟨r, σx1, σm1, hfx, hfm, hR1⟩ := hs (xs (nI i + 1).toNatClampNeg) (xs (nI i + 2).toNatClampNeg) (xs (nI i + 3).toNatClampNeg) (xs (nI i + 4).toNatClampNeg) (xs (nI i + 5).toNatClampNeg) σx σm hR 
  refine k_call2 (w := wX g qx) (wb := wM g qm σm) (As := [.int (xs (nI i + 1).toNatClampNeg), .int (xs (nI i + 2).toNatClampNeg), .int (xs (nI i + 3).toNatClampNeg), .int (xs (nI i + 4).toNatClampNeg), .int (xs (nI i + 5).toNatClampNeg)]) (rest := []) C hw (c_BH_leans (q := qx) hfx) cv_BH_leans k800 (xr_0 C ⟨hw.1, hw.2.2.1, hw.2.2.2.2.2⟩) (by decide) (by decide) hcs hl.1 rfl (Nat.le_of_ble_eq_true rfl) d_law_640 (fun H locs hw => ?_)
  show W p l e room_1 s m #[Value.ref b] below meth c H locs cells slots Q (F0 m 643 ls [.int r])
  refine lv_aload_n hx hb d_law_643 rfl (lv_at hl 2 rfl) ?_
  refine lv_aload_n hx hb d_law_644 rfl (lv_at hl 0 rfl) ?_
  refine lv_iload_n hx hb d_law_645 rfl (lv_at hl 3 rfl) ?_
  refine lv_iconst (v := 1) hx hb d_law_646 (by decide) ?_
  refine lv_iadd hx hb d_law_647 ?_
  refine va_sld hx hb hX hbl hbA hw.2.2.2.2.2 (six (k := 1) hi hL (by decide)) d_law_648 ?_
  refine lv_aload_n hx hb d_law_649 rfl (lv_at hl 0 rfl) ?_
  refine lv_iload_n hx hb d_law_650 rfl (lv_at hl 3 rfl) ?_
  refine lv_iconst (v := 2) hx hb d_law_651 (by decide) ?_
  refine lv_iadd hx hb d_law_652 ?_
  refine va_sld hx hb hX hbl hbA hw.2.2.2.2.2 (six (k := 2) hi hL (by decide)) d_law_653 ?_
  refine lv_aload_n hx hb d_law_654 rfl (lv_at hl 0 rfl) ?_
  refine lv_iload_n hx hb d_law_655 rfl (lv_at hl 3 rfl) ?_
  refine lv_iconst (v := 3) hx hb d_law_656 (by decide) ?_
  refine lv_iadd hx hb d_law_657 ?_
  refine va_sld hx hb hX hbl hbA hw.2.2.2.2.2 (six (k := 3) hi hL (by decide)) d_law_658 ?_
  refine lv_aload_n hx hb d_law_659 rfl (lv_at hl 0 rfl) ?_
  refine lv_iload_n hx hb d_law_660 rfl (lv_at hl 3 rfl) ?_
  refine lv_iconst (v := 4) hx hb d_law_661 (by decide) ?_
  refine lv_iadd hx hb d_law_662 ?_
  refine va_sld hx hb hX hbl hbA hw.2.2.2.2.2 (six (k := 4) hi hL (by decide)) d_law_663 ?_
  refine lv_aload_n hx hb d_law_664 rfl (lv_at hl 0 rfl) ?_
  refine lv_iload_n hx hb d_law_665 rfl (lv_at hl 3 rfl) ?_
  refine lv_iconst (v := 5) hx hb d_law_666 (by decide) ?_
  refine lv_iadd hx hb d_law_667 ?_
  refine va_sld hx hb hX hbl hbA hw.2.2.2.2.2 (six (k := 5) hi hL (by decide)) d_law_668 ?_
  replace hw := hw.comm
  refine k_call2 (w := wM g qm) (wb := wX g qx σx1) (As := [.int (xs (nI i + 1).toNatClampNeg), .int (xs (nI i + 2).toNatClampNeg), .int (xs (nI i + 3).toNatClampNeg), .int (xs (nI i + 4).toNatClampNeg), .int (xs (nI i + 5).toNatClampNeg)]) (rest := [.int r]) C hw (c_M_leans (q := qm) hfm) cv_M_leans k1575 (mr_0 C ⟨hw.1, hw.2.2.1, hw.2.2.2.2.2⟩) (by decide) (by decide) hcs hl.1 rfl (Nat.le_of_ble_eq_true rfl) d_law_669 (fun H locs hw => ?_)
  replace hw := hw.comm
  show W p l e room_1 s m #[Value.ref b] below meth c H locs cells slots Q (F0 m 672 ls [.int r, .int r])
  refine lv_icmp_eq (tgt := 1199) hx hb d_law_672 (by decide) (fun _ => ?_) (fun cd => absurd rfl cd)
  exact next qx σx1 qm σm1 _ _ _ hR1 hw hl
set_option maxHeartbeats 4000000 in
theorem law_tree {Rel : St → St → Prop} (hs : Sim_tree Rel) (C : Cx g A p s m #[Value.ref b] meth c code 4 "BellHammerLaw" (some .boolean)) (hX : va_X b L xs s s.heap) (hbl : b < s.heap.size) (hbA : ¬ A b) (hcs : cells ≤ room_1.cells ∧ slots ≤ room_1.slots) {i : Nat} (hi : i + 6 ≤ L) (hL : L ≤ 3072) {qx qm : Nat → Nat} {σx σm : St} (hR : Rel σx σm) {H : Heap} {locs : List Loc} {ls : Array Slot} (hw : Wd2 g A s (wX g qx σx) (wM g qm σm) H locs) (hl : lv_has ls 4 [(0, .ref b), (1, .ref (qx 0)), (2, .ref (qm 0)), (3, .int (nI i))])
    (next : ∀ (qx : Nat → Nat) (σx : St) (qm : Nat → Nat) (σm : St) (H : Heap) (locs : List Loc) (ls : Array Slot), Rel σx σm → Wd2 g A s (wX g qx σx) (wM g qm σm) H locs → lv_has ls 4 [(0, .ref b), (1, .ref (qx 0)), (2, .ref (qm 0)), (3, .int (nI i))] → W p l e room_1 s m #[Value.ref b] below meth c H locs cells slots Q (F0 m 1199 ls [])) : W p l e room_1 s m #[Value.ref b] below meth c H locs cells slots Q (F0 m 677 ls []) := by
  obtain ⟨hx, hb, hml, hown, hts, hK, hA, hZ, hlocks, hr, hN⟩ := id C
  refine lv_aload_n hx hb d_law_677 rfl (lv_at hl 1 rfl) ?_
  refine lv_aload_n hx hb d_law_678 rfl (lv_at hl 0 rfl) ?_
  refine lv_iload_n hx hb d_law_679 rfl (lv_at hl 3 rfl) ?_
  refine lv_iconst (v := 1) hx hb d_law_680 (by decide) ?_
  refine lv_iadd hx hb d_law_681 ?_
  refine va_sld hx hb hX hbl hbA hw.2.2.2.2.2 (six (k := 1) hi hL (by decide)) d_law_682 ?_
  refine lv_aload_n hx hb d_law_683 rfl (lv_at hl 0 rfl) ?_
  refine lv_iload_n hx hb d_law_684 rfl (lv_at hl 3 rfl) ?_
  refine lv_iconst (v := 2) hx hb d_law_685 (by decide) ?_
  refine lv_iadd hx hb d_law_686 ?_
  refine va_sld hx hb hX hbl hbA hw.2.2.2.2.2 (six (k := 2) hi hL (by decide)) d_law_687 ?_
  obtain ⟨r, σx1, σm1, hfx, hfm, hR1⟩ := hs (xs (nI i + 1).toNatClampNeg) (xs (nI i + 2).toNatClampNeg) σx σm hR 
  refine k_call2 (w := wX g qx) (wb := wM g qm σm) (As := [.int (xs (nI i + 1).toNatClampNeg), .int (xs (nI i + 2).toNatClampNeg)]) (rest := []) C hw (c_BH_tree (q := qx) hfx) cv_BH_tree k837 (xr_0 C ⟨hw.1, hw.2.2.1, hw.2.2.2.2.2⟩) (by decide) (by decide) hcs hl.1 rfl (Nat.le_of_ble_eq_true rfl) d_law_688 (fun H locs hw => ?_)
  show W p l e room_1 s m #[Value.ref b] below meth c H locs cells slots Q (F0 m 691 ls [.int r])
  refine lv_aload_n hx hb d_law_691 rfl (lv_at hl 2 rfl) ?_
  refine lv_aload_n hx hb d_law_692 rfl (lv_at hl 0 rfl) ?_
  refine lv_iload_n hx hb d_law_693 rfl (lv_at hl 3 rfl) ?_
  refine lv_iconst (v := 1) hx hb d_law_694 (by decide) ?_
  refine lv_iadd hx hb d_law_695 ?_
  refine va_sld hx hb hX hbl hbA hw.2.2.2.2.2 (six (k := 1) hi hL (by decide)) d_law_696 ?_
  refine lv_aload_n hx hb d_law_697 rfl (lv_at hl 0 rfl) ?_
  refine lv_iload_n hx hb d_law_698 rfl (lv_at hl 3 rfl) ?_
  refine lv_iconst (v := 2) hx hb d_law_699 (by decide) ?_
  refine lv_iadd hx hb d_law_700 ?_
  refine va_sld hx hb hX hbl hbA hw.2.2.2.2.2 (six (k := 2) hi hL (by decide)) d_law_701 ?_
  replace hw := hw.comm
  refine k_call2 (w := wM g qm) (wb := wX g qx σx1) (As := [.int (xs (nI i + 1).toNatClampNeg), .int (xs (nI i + 2).toNatClampNeg)]) (rest := [.int r]) C hw (c_M_tree (q := qm) hfm) cv_M_tree k1606 (mr_0 C ⟨hw.1, hw.2.2.1, hw.2.2.2.2.2⟩) (by decide) (by decide) hcs hl.1 rfl (Nat.le_of_ble_eq_true rfl) d_law_702 (fun H locs hw => ?_)
  replace hw := hw.comm
  show W p l e room_1 s m #[Value.ref b] below meth c H locs cells slots Q (F0 m 705 ls [.int r, .int r])
  refine lv_icmp_eq (tgt := 1199) hx hb d_law_705 (by decide) (fun _ => ?_) (fun cd => absurd rfl cd)
  exact next qx σx1 qm σm1 _ _ _ hR1 hw hl
set_option maxHeartbeats 4000000 in
theorem law_best {Rel : St → St → Prop} (hs : Sim_best Rel) (C : Cx g A p s m #[Value.ref b] meth c code 4 "BellHammerLaw" (some .boolean)) (hX : va_X b L xs s s.heap) (hbl : b < s.heap.size) (hbA : ¬ A b) (hcs : cells ≤ room_1.cells ∧ slots ≤ room_1.slots) {i : Nat} (hi : i + 6 ≤ L) (hL : L ≤ 3072) {qx qm : Nat → Nat} {σx σm : St} (hR : Rel σx σm) {H : Heap} {locs : List Loc} {ls : Array Slot} (hw : Wd2 g A s (wX g qx σx) (wM g qm σm) H locs) (hl : lv_has ls 4 [(0, .ref b), (1, .ref (qx 0)), (2, .ref (qm 0)), (3, .int (nI i))])
    (next : ∀ (qx : Nat → Nat) (σx : St) (qm : Nat → Nat) (σm : St) (H : Heap) (locs : List Loc) (ls : Array Slot), Rel σx σm → Wd2 g A s (wX g qx σx) (wM g qm σm) H locs → lv_has ls 4 [(0, .ref b), (1, .ref (qx 0)), (2, .ref (qm 0)), (3, .int (nI i))] → W p l e room_1 s m #[Value.ref b] below meth c H locs cells slots Q (F0 m 1199 ls [])) : W p l e room_1 s m #[Value.ref b] below meth c H locs cells slots Q (F0 m 710 ls []) := by
  obtain ⟨hx, hb, hml, hown, hts, hK, hA, hZ, hlocks, hr, hN⟩ := id C
  refine lv_aload_n hx hb d_law_710 rfl (lv_at hl 1 rfl) ?_
  refine lv_aload_n hx hb d_law_711 rfl (lv_at hl 0 rfl) ?_
  refine lv_iload_n hx hb d_law_712 rfl (lv_at hl 3 rfl) ?_
  refine lv_iconst (v := 1) hx hb d_law_713 (by decide) ?_
  refine lv_iadd hx hb d_law_714 ?_
  refine va_sld hx hb hX hbl hbA hw.2.2.2.2.2 (six (k := 1) hi hL (by decide)) d_law_715 ?_
  obtain ⟨r, σx1, σm1, hfx, hfm, hR1⟩ := hs (xs (nI i + 1).toNatClampNeg) σx σm hR 
  refine k_call2 (w := wX g qx) (wb := wM g qm σm) (As := [.int (xs (nI i + 1).toNatClampNeg)]) (rest := []) C hw (c_BH_best (q := qx) hfx) cv_BH_best k890 (xr_0 C ⟨hw.1, hw.2.2.1, hw.2.2.2.2.2⟩) (by decide) (by decide) hcs hl.1 rfl (Nat.le_of_ble_eq_true rfl) d_law_716 (fun H locs hw => ?_)
  show W p l e room_1 s m #[Value.ref b] below meth c H locs cells slots Q (F0 m 719 ls [.int r])
  refine lv_aload_n hx hb d_law_719 rfl (lv_at hl 2 rfl) ?_
  refine lv_aload_n hx hb d_law_720 rfl (lv_at hl 0 rfl) ?_
  refine lv_iload_n hx hb d_law_721 rfl (lv_at hl 3 rfl) ?_
  refine lv_iconst (v := 1) hx hb d_law_722 (by decide) ?_
  refine lv_iadd hx hb d_law_723 ?_
  refine va_sld hx hb hX hbl hbA hw.2.2.2.2.2 (six (k := 1) hi hL (by decide)) d_law_724 ?_
  replace hw := hw.comm
  refine k_call2 (w := wM g qm) (wb := wX g qx σx1) (As := [.int (xs (nI i + 1).toNatClampNeg)]) (rest := [.int r]) C hw (c_M_best (q := qm) hfm) cv_M_best k1631 (mr_0 C ⟨hw.1, hw.2.2.1, hw.2.2.2.2.2⟩) (by decide) (by decide) hcs hl.1 rfl (Nat.le_of_ble_eq_true rfl) d_law_725 (fun H locs hw => ?_)
  replace hw := hw.comm
  show W p l e room_1 s m #[Value.ref b] below meth c H locs cells slots Q (F0 m 728 ls [.int r, .int r])
  refine lv_icmp_eq (tgt := 1199) hx hb d_law_728 (by decide) (fun _ => ?_) (fun cd => absurd rfl cd)
  exact next qx σx1 qm σm1 _ _ _ hR1 hw hl
set_option maxHeartbeats 4000000 in
theorem law_honest {Rel : St → St → Prop} (hs : Sim_honest Rel) (C : Cx g A p s m #[Value.ref b] meth c code 4 "BellHammerLaw" (some .boolean)) (hX : va_X b L xs s s.heap) (hbl : b < s.heap.size) (hbA : ¬ A b) (hcs : cells ≤ room_1.cells ∧ slots ≤ room_1.slots) {i : Nat} (hi : i + 6 ≤ L) (hL : L ≤ 3072) {qx qm : Nat → Nat} {σx σm : St} (hR : Rel σx σm) {H : Heap} {locs : List Loc} {ls : Array Slot} (hw : Wd2 g A s (wX g qx σx) (wM g qm σm) H locs) (hl : lv_has ls 4 [(0, .ref b), (1, .ref (qx 0)), (2, .ref (qm 0)), (3, .int (nI i))])
    (next : ∀ (qx : Nat → Nat) (σx : St) (qm : Nat → Nat) (σm : St) (H : Heap) (locs : List Loc) (ls : Array Slot), Rel σx σm → Wd2 g A s (wX g qx σx) (wM g qm σm) H locs → lv_has ls 4 [(0, .ref b), (1, .ref (qx 0)), (2, .ref (qm 0)), (3, .int (nI i))] → W p l e room_1 s m #[Value.ref b] below meth c H locs cells slots Q (F0 m 1199 ls [])) : W p l e room_1 s m #[Value.ref b] below meth c H locs cells slots Q (F0 m 733 ls []) := by
  obtain ⟨hx, hb, hml, hown, hts, hK, hA, hZ, hlocks, hr, hN⟩ := id C
  refine lv_aload_n hx hb d_law_733 rfl (lv_at hl 1 rfl) ?_
  refine lv_aload_n hx hb d_law_734 rfl (lv_at hl 0 rfl) ?_
  refine lv_iload_n hx hb d_law_735 rfl (lv_at hl 3 rfl) ?_
  refine lv_iconst (v := 1) hx hb d_law_736 (by decide) ?_
  refine lv_iadd hx hb d_law_737 ?_
  refine va_sld hx hb hX hbl hbA hw.2.2.2.2.2 (six (k := 1) hi hL (by decide)) d_law_738 ?_
  obtain ⟨r, σx1, σm1, hfx, hfm, hR1⟩ := hs (xs (nI i + 1).toNatClampNeg) σx σm hR 
  refine k_call2 (w := wX g qx) (wb := wM g qm σm) (As := [.int (xs (nI i + 1).toNatClampNeg)]) (rest := []) C hw (c_BH_honest (q := qx) hfx) cv_BH_honest k924 (xr_0 C ⟨hw.1, hw.2.2.1, hw.2.2.2.2.2⟩) (by decide) (by decide) hcs hl.1 rfl (Nat.le_of_ble_eq_true rfl) d_law_739 (fun H locs hw => ?_)
  show W p l e room_1 s m #[Value.ref b] below meth c H locs cells slots Q (F0 m 742 ls [.int r])
  refine lv_aload_n hx hb d_law_742 rfl (lv_at hl 2 rfl) ?_
  refine lv_aload_n hx hb d_law_743 rfl (lv_at hl 0 rfl) ?_
  refine lv_iload_n hx hb d_law_744 rfl (lv_at hl 3 rfl) ?_
  refine lv_iconst (v := 1) hx hb d_law_745 (by decide) ?_
  refine lv_iadd hx hb d_law_746 ?_
  refine va_sld hx hb hX hbl hbA hw.2.2.2.2.2 (six (k := 1) hi hL (by decide)) d_law_747 ?_
  replace hw := hw.comm
  refine k_call2 (w := wM g qm) (wb := wX g qx σx1) (As := [.int (xs (nI i + 1).toNatClampNeg)]) (rest := [.int r]) C hw (c_M_honest (q := qm) hfm) cv_M_honest k1645 (mr_0 C ⟨hw.1, hw.2.2.1, hw.2.2.2.2.2⟩) (by decide) (by decide) hcs hl.1 rfl (Nat.le_of_ble_eq_true rfl) d_law_748 (fun H locs hw => ?_)
  replace hw := hw.comm
  show W p l e room_1 s m #[Value.ref b] below meth c H locs cells slots Q (F0 m 751 ls [.int r, .int r])
  refine lv_icmp_eq (tgt := 1199) hx hb d_law_751 (by decide) (fun _ => ?_) (fun cd => absurd rfl cd)
  exact next qx σx1 qm σm1 _ _ _ hR1 hw hl
set_option maxHeartbeats 4000000 in
theorem law_bet {Rel : St → St → Prop} (hs : Sim_bet Rel) (C : Cx g A p s m #[Value.ref b] meth c code 4 "BellHammerLaw" (some .boolean)) (hX : va_X b L xs s s.heap) (hbl : b < s.heap.size) (hbA : ¬ A b) (hcs : cells ≤ room_1.cells ∧ slots ≤ room_1.slots) {i : Nat} (hi : i + 6 ≤ L) (hL : L ≤ 3072) {qx qm : Nat → Nat} {σx σm : St} (hR : Rel σx σm) {H : Heap} {locs : List Loc} {ls : Array Slot} (hw : Wd2 g A s (wX g qx σx) (wM g qm σm) H locs) (hl : lv_has ls 4 [(0, .ref b), (1, .ref (qx 0)), (2, .ref (qm 0)), (3, .int (nI i))])
    (next : ∀ (qx : Nat → Nat) (σx : St) (qm : Nat → Nat) (σm : St) (H : Heap) (locs : List Loc) (ls : Array Slot), Rel σx σm → Wd2 g A s (wX g qx σx) (wM g qm σm) H locs → lv_has ls 4 [(0, .ref b), (1, .ref (qx 0)), (2, .ref (qm 0)), (3, .int (nI i))] → W p l e room_1 s m #[Value.ref b] below meth c H locs cells slots Q (F0 m 1199 ls [])) : W p l e room_1 s m #[Value.ref b] below meth c H locs cells slots Q (F0 m 756 ls []) := by
  obtain ⟨hx, hb, hml, hown, hts, hK, hA, hZ, hlocks, hr, hN⟩ := id C
  refine lv_aload_n hx hb d_law_756 rfl (lv_at hl 1 rfl) ?_
  refine lv_aload_n hx hb d_law_757 rfl (lv_at hl 0 rfl) ?_
  refine lv_iload_n hx hb d_law_758 rfl (lv_at hl 3 rfl) ?_
  refine lv_iconst (v := 1) hx hb d_law_759 (by decide) ?_
  refine lv_iadd hx hb d_law_760 ?_
  refine va_sld hx hb hX hbl hbA hw.2.2.2.2.2 (six (k := 1) hi hL (by decide)) d_law_761 ?_
  refine lv_aload_n hx hb d_law_762 rfl (lv_at hl 0 rfl) ?_
  refine lv_iload_n hx hb d_law_763 rfl (lv_at hl 3 rfl) ?_
  refine lv_iconst (v := 2) hx hb d_law_764 (by decide) ?_
  refine lv_iadd hx hb d_law_765 ?_
  refine va_sld hx hb hX hbl hbA hw.2.2.2.2.2 (six (k := 2) hi hL (by decide)) d_law_766 ?_
  refine lv_aload_n hx hb d_law_767 rfl (lv_at hl 0 rfl) ?_
  refine lv_iload_n hx hb d_law_768 rfl (lv_at hl 3 rfl) ?_
  refine lv_iconst (v := 3) hx hb d_law_769 (by decide) ?_
  refine lv_iadd hx hb d_law_770 ?_
  refine va_sld hx hb hX hbl hbA hw.2.2.2.2.2 (six (k := 3) hi hL (by decide)) d_law_771 ?_
  obtain ⟨r, hfx, hfm⟩ := hs (xs (nI i + 1).toNatClampNeg) (xs (nI i + 2).toNatClampNeg) (xs (nI i + 3).toNatClampNeg) σx σm hR 
  have hR1 := hR
  refine k_call2 (w := wX g qx) (wb := wM g qm σm) (As := [.int (xs (nI i + 1).toNatClampNeg), .int (xs (nI i + 2).toNatClampNeg), .int (xs (nI i + 3).toNatClampNeg)]) (rest := []) C hw (c_BH_bet (q := qx) hfx) cv_BH_bet k932 (xr_0 C ⟨hw.1, hw.2.2.1, hw.2.2.2.2.2⟩) (by decide) (by decide) hcs hl.1 rfl (Nat.le_of_ble_eq_true rfl) d_law_772 (fun H locs hw => ?_)
  show W p l e room_1 s m #[Value.ref b] below meth c H locs cells slots Q (F0 m 775 ls [.int r])
  refine lv_aload_n hx hb d_law_775 rfl (lv_at hl 2 rfl) ?_
  refine lv_aload_n hx hb d_law_776 rfl (lv_at hl 0 rfl) ?_
  refine lv_iload_n hx hb d_law_777 rfl (lv_at hl 3 rfl) ?_
  refine lv_iconst (v := 1) hx hb d_law_778 (by decide) ?_
  refine lv_iadd hx hb d_law_779 ?_
  refine va_sld hx hb hX hbl hbA hw.2.2.2.2.2 (six (k := 1) hi hL (by decide)) d_law_780 ?_
  refine lv_aload_n hx hb d_law_781 rfl (lv_at hl 0 rfl) ?_
  refine lv_iload_n hx hb d_law_782 rfl (lv_at hl 3 rfl) ?_
  refine lv_iconst (v := 2) hx hb d_law_783 (by decide) ?_
  refine lv_iadd hx hb d_law_784 ?_
  refine va_sld hx hb hX hbl hbA hw.2.2.2.2.2 (six (k := 2) hi hL (by decide)) d_law_785 ?_
  refine lv_aload_n hx hb d_law_786 rfl (lv_at hl 0 rfl) ?_
  refine lv_iload_n hx hb d_law_787 rfl (lv_at hl 3 rfl) ?_
  refine lv_iconst (v := 3) hx hb d_law_788 (by decide) ?_
  refine lv_iadd hx hb d_law_789 ?_
  refine va_sld hx hb hX hbl hbA hw.2.2.2.2.2 (six (k := 3) hi hL (by decide)) d_law_790 ?_
  replace hw := hw.comm
  refine k_call2 (w := wM g qm) (wb := wX g qx σx) (As := [.int (xs (nI i + 1).toNatClampNeg), .int (xs (nI i + 2).toNatClampNeg), .int (xs (nI i + 3).toNatClampNeg)]) (rest := [.int r]) C hw (c_M_bet (q := qm) hfm) cv_M_bet k1649 (mr_0 C ⟨hw.1, hw.2.2.1, hw.2.2.2.2.2⟩) (by decide) (by decide) hcs hl.1 rfl (Nat.le_of_ble_eq_true rfl) d_law_791 (fun H locs hw => ?_)
  replace hw := hw.comm
  show W p l e room_1 s m #[Value.ref b] below meth c H locs cells slots Q (F0 m 794 ls [.int r, .int r])
  refine lv_icmp_eq (tgt := 1199) hx hb d_law_794 (by decide) (fun _ => ?_) (fun cd => absurd rfl cd)
  exact next qx σx qm σm _ _ _ hR1 hw hl
set_option maxHeartbeats 4000000 in
theorem law_night {Rel : St → St → Prop} (hs : Sim_night Rel) (C : Cx g A p s m #[Value.ref b] meth c code 4 "BellHammerLaw" (some .boolean)) (hX : va_X b L xs s s.heap) (hbl : b < s.heap.size) (hbA : ¬ A b) (hcs : cells ≤ room_1.cells ∧ slots ≤ room_1.slots) {i : Nat} (hi : i + 6 ≤ L) (hL : L ≤ 3072) {qx qm : Nat → Nat} {σx σm : St} (hR : Rel σx σm) {H : Heap} {locs : List Loc} {ls : Array Slot} (hw : Wd2 g A s (wX g qx σx) (wM g qm σm) H locs) (hl : lv_has ls 4 [(0, .ref b), (1, .ref (qx 0)), (2, .ref (qm 0)), (3, .int (nI i))])
    (next : ∀ (qx : Nat → Nat) (σx : St) (qm : Nat → Nat) (σm : St) (H : Heap) (locs : List Loc) (ls : Array Slot), Rel σx σm → Wd2 g A s (wX g qx σx) (wM g qm σm) H locs → lv_has ls 4 [(0, .ref b), (1, .ref (qx 0)), (2, .ref (qm 0)), (3, .int (nI i))] → W p l e room_1 s m #[Value.ref b] below meth c H locs cells slots Q (F0 m 1199 ls [])) : W p l e room_1 s m #[Value.ref b] below meth c H locs cells slots Q (F0 m 799 ls []) := by
  obtain ⟨hx, hb, hml, hown, hts, hK, hA, hZ, hlocks, hr, hN⟩ := id C
  refine lv_aload_n hx hb d_law_799 rfl (lv_at hl 1 rfl) ?_
  obtain ⟨r, σx1, σm1, hfx, hfm, hR1⟩ := hs  σx σm hR 
  refine k_call2 (w := wX g qx) (wb := wM g qm σm) (As := []) (rest := []) C hw (c_BH_night (q := qx) hfx) cv_BH_night k940 (xr_0 C ⟨hw.1, hw.2.2.1, hw.2.2.2.2.2⟩) (by decide) (by decide) hcs hl.1 rfl (Nat.le_of_ble_eq_true rfl) d_law_800 (fun H locs hw => ?_)
  show W p l e room_1 s m #[Value.ref b] below meth c H locs cells slots Q (F0 m 803 ls [.int r])
  refine lv_aload_n hx hb d_law_803 rfl (lv_at hl 2 rfl) ?_
  replace hw := hw.comm
  refine k_call2 (w := wM g qm) (wb := wX g qx σx1) (As := []) (rest := [.int r]) C hw (c_M_night (q := qm) hfm) cv_M_night k1661 (mr_0 C ⟨hw.1, hw.2.2.1, hw.2.2.2.2.2⟩) (by decide) (by decide) hcs hl.1 rfl (Nat.le_of_ble_eq_true rfl) d_law_804 (fun H locs hw => ?_)
  replace hw := hw.comm
  show W p l e room_1 s m #[Value.ref b] below meth c H locs cells slots Q (F0 m 807 ls [.int r, .int r])
  refine lv_icmp_eq (tgt := 1199) hx hb d_law_807 (by decide) (fun _ => ?_) (fun cd => absurd rfl cd)
  exact next qx σx1 qm σm1 _ _ _ hR1 hw hl
set_option maxHeartbeats 4000000 in
theorem law_rule {Rel : St → St → Prop} (hs : Sim_rule Rel) (C : Cx g A p s m #[Value.ref b] meth c code 4 "BellHammerLaw" (some .boolean)) (hX : va_X b L xs s s.heap) (hbl : b < s.heap.size) (hbA : ¬ A b) (hcs : cells ≤ room_1.cells ∧ slots ≤ room_1.slots) {i : Nat} (hi : i + 6 ≤ L) (hL : L ≤ 3072) {qx qm : Nat → Nat} {σx σm : St} (hR : Rel σx σm) {H : Heap} {locs : List Loc} {ls : Array Slot} (hw : Wd2 g A s (wX g qx σx) (wM g qm σm) H locs) (hl : lv_has ls 4 [(0, .ref b), (1, .ref (qx 0)), (2, .ref (qm 0)), (3, .int (nI i))])
    (next : ∀ (qx : Nat → Nat) (σx : St) (qm : Nat → Nat) (σm : St) (H : Heap) (locs : List Loc) (ls : Array Slot), Rel σx σm → Wd2 g A s (wX g qx σx) (wM g qm σm) H locs → lv_has ls 4 [(0, .ref b), (1, .ref (qx 0)), (2, .ref (qm 0)), (3, .int (nI i))] → W p l e room_1 s m #[Value.ref b] below meth c H locs cells slots Q (F0 m 1199 ls [])) : W p l e room_1 s m #[Value.ref b] below meth c H locs cells slots Q (F0 m 812 ls []) := by
  obtain ⟨hx, hb, hml, hown, hts, hK, hA, hZ, hlocks, hr, hN⟩ := id C
  refine lv_aload_n hx hb d_law_812 rfl (lv_at hl 1 rfl) ?_
  refine lv_aload_n hx hb d_law_813 rfl (lv_at hl 0 rfl) ?_
  refine lv_iload_n hx hb d_law_814 rfl (lv_at hl 3 rfl) ?_
  refine lv_iconst (v := 1) hx hb d_law_815 (by decide) ?_
  refine lv_iadd hx hb d_law_816 ?_
  refine va_sld hx hb hX hbl hbA hw.2.2.2.2.2 (six (k := 1) hi hL (by decide)) d_law_817 ?_
  refine lv_aload_n hx hb d_law_818 rfl (lv_at hl 0 rfl) ?_
  refine lv_iload_n hx hb d_law_819 rfl (lv_at hl 3 rfl) ?_
  refine lv_iconst (v := 2) hx hb d_law_820 (by decide) ?_
  refine lv_iadd hx hb d_law_821 ?_
  refine va_sld hx hb hX hbl hbA hw.2.2.2.2.2 (six (k := 2) hi hL (by decide)) d_law_822 ?_
  refine lv_if_eq (tgt := 830) hx hb d_law_823 (by decide) (fun cd823 => ?_) (fun cd823 => ?_)
  ·
    refine lv_iconst (v := 0) hx hb d_law_830 (by decide) ?_
    obtain ⟨r, σx1, σm1, hfx, hfm, hR1⟩ := hs (xs (nI i + 1).toNatClampNeg) (0) σx σm hR (Or.inl rfl)
    refine k_call2 (w := wX g qx) (wb := wM g qm σm) (As := [.int (xs (nI i + 1).toNatClampNeg), .int (0)]) (rest := []) C hw (c_BH_rule (q := qx) hfx) cv_BH_rule k972 (xr_0 C ⟨hw.1, hw.2.2.1, hw.2.2.2.2.2⟩) (by decide) (by decide) hcs hl.1 rfl (Nat.le_of_ble_eq_true rfl) d_law_831 (fun H locs hw => ?_)
    show W p l e room_1 s m #[Value.ref b] below meth c H locs cells slots Q (F0 m 834 ls [.int r])
    refine lv_aload_n hx hb d_law_834 rfl (lv_at hl 2 rfl) ?_
    refine lv_aload_n hx hb d_law_835 rfl (lv_at hl 0 rfl) ?_
    refine lv_iload_n hx hb d_law_836 rfl (lv_at hl 3 rfl) ?_
    refine lv_iconst (v := 1) hx hb d_law_837 (by decide) ?_
    refine lv_iadd hx hb d_law_838 ?_
    refine va_sld hx hb hX hbl hbA hw.2.2.2.2.2 (six (k := 1) hi hL (by decide)) d_law_839 ?_
    refine lv_aload_n hx hb d_law_840 rfl (lv_at hl 0 rfl) ?_
    refine lv_iload_n hx hb d_law_841 rfl (lv_at hl 3 rfl) ?_
    refine lv_iconst (v := 2) hx hb d_law_842 (by decide) ?_
    refine lv_iadd hx hb d_law_843 ?_
    refine va_sld hx hb hX hbl hbA hw.2.2.2.2.2 (six (k := 2) hi hL (by decide)) d_law_844 ?_
    refine lv_if_eq (tgt := 852) hx hb d_law_845 (by decide) (fun cd845 => ?_) (fun cd845 => ?_)
    ·
      refine lv_iconst (v := 0) hx hb d_law_852 (by decide) ?_
      replace hw := hw.comm
      refine k_call2 (w := wM g qm) (wb := wX g qx σx1) (As := [.int (xs (nI i + 1).toNatClampNeg), .int (0)]) (rest := [.int r]) C hw (c_M_rule (q := qm) hfm) cv_M_rule k1681 (mr_0 C ⟨hw.1, hw.2.2.1, hw.2.2.2.2.2⟩) (by decide) (by decide) hcs hl.1 rfl (Nat.le_of_ble_eq_true rfl) d_law_853 (fun H locs hw => ?_)
      replace hw := hw.comm
      show W p l e room_1 s m #[Value.ref b] below meth c H locs cells slots Q (F0 m 856 ls [.int r, .int r])
      refine lv_icmp_eq (tgt := 1199) hx hb d_law_856 (by decide) (fun _ => ?_) (fun cd => absurd rfl cd)
      exact next qx σx1 qm σm1 _ _ _ hR1 hw hl
    ·
      exact absurd cd823 cd845
  ·
    refine lv_iconst (v := 1) hx hb d_law_826 (by decide) ?_
    refine lv_goto (tgt := 831) hx hb d_law_827 (by decide) ?_
    obtain ⟨r, σx1, σm1, hfx, hfm, hR1⟩ := hs (xs (nI i + 1).toNatClampNeg) (1) σx σm hR (Or.inr rfl)
    refine k_call2 (w := wX g qx) (wb := wM g qm σm) (As := [.int (xs (nI i + 1).toNatClampNeg), .int (1)]) (rest := []) C hw (c_BH_rule (q := qx) hfx) cv_BH_rule k972 (xr_0 C ⟨hw.1, hw.2.2.1, hw.2.2.2.2.2⟩) (by decide) (by decide) hcs hl.1 rfl (Nat.le_of_ble_eq_true rfl) d_law_831 (fun H locs hw => ?_)
    show W p l e room_1 s m #[Value.ref b] below meth c H locs cells slots Q (F0 m 834 ls [.int r])
    refine lv_aload_n hx hb d_law_834 rfl (lv_at hl 2 rfl) ?_
    refine lv_aload_n hx hb d_law_835 rfl (lv_at hl 0 rfl) ?_
    refine lv_iload_n hx hb d_law_836 rfl (lv_at hl 3 rfl) ?_
    refine lv_iconst (v := 1) hx hb d_law_837 (by decide) ?_
    refine lv_iadd hx hb d_law_838 ?_
    refine va_sld hx hb hX hbl hbA hw.2.2.2.2.2 (six (k := 1) hi hL (by decide)) d_law_839 ?_
    refine lv_aload_n hx hb d_law_840 rfl (lv_at hl 0 rfl) ?_
    refine lv_iload_n hx hb d_law_841 rfl (lv_at hl 3 rfl) ?_
    refine lv_iconst (v := 2) hx hb d_law_842 (by decide) ?_
    refine lv_iadd hx hb d_law_843 ?_
    refine va_sld hx hb hX hbl hbA hw.2.2.2.2.2 (six (k := 2) hi hL (by decide)) d_law_844 ?_
    refine lv_if_eq (tgt := 852) hx hb d_law_845 (by decide) (fun cd845 => ?_) (fun cd845 => ?_)
    ·
      exact absurd cd845 cd823
    ·
      refine lv_iconst (v := 1) hx hb d_law_848 (by decide) ?_
      refine lv_goto (tgt := 853) hx hb d_law_849 (by decide) ?_
      replace hw := hw.comm
      refine k_call2 (w := wM g qm) (wb := wX g qx σx1) (As := [.int (xs (nI i + 1).toNatClampNeg), .int (1)]) (rest := [.int r]) C hw (c_M_rule (q := qm) hfm) cv_M_rule k1681 (mr_0 C ⟨hw.1, hw.2.2.1, hw.2.2.2.2.2⟩) (by decide) (by decide) hcs hl.1 rfl (Nat.le_of_ble_eq_true rfl) d_law_853 (fun H locs hw => ?_)
      replace hw := hw.comm
      show W p l e room_1 s m #[Value.ref b] below meth c H locs cells slots Q (F0 m 856 ls [.int r, .int r])
      refine lv_icmp_eq (tgt := 1199) hx hb d_law_856 (by decide) (fun _ => ?_) (fun cd => absurd rfl cd)
      exact next qx σx1 qm σm1 _ _ _ hR1 hw hl
set_option maxHeartbeats 4000000 in
theorem law_set {Rel : St → St → Prop} (hs : Sim_set Rel) (C : Cx g A p s m #[Value.ref b] meth c code 4 "BellHammerLaw" (some .boolean)) (hX : va_X b L xs s s.heap) (hbl : b < s.heap.size) (hbA : ¬ A b) (hcs : cells ≤ room_1.cells ∧ slots ≤ room_1.slots) {i : Nat} (hi : i + 6 ≤ L) (hL : L ≤ 3072) {qx qm : Nat → Nat} {σx σm : St} (hR : Rel σx σm) {H : Heap} {locs : List Loc} {ls : Array Slot} (hw : Wd2 g A s (wX g qx σx) (wM g qm σm) H locs) (hl : lv_has ls 4 [(0, .ref b), (1, .ref (qx 0)), (2, .ref (qm 0)), (3, .int (nI i))])
    (next : ∀ (qx : Nat → Nat) (σx : St) (qm : Nat → Nat) (σm : St) (H : Heap) (locs : List Loc) (ls : Array Slot), Rel σx σm → Wd2 g A s (wX g qx σx) (wM g qm σm) H locs → lv_has ls 4 [(0, .ref b), (1, .ref (qx 0)), (2, .ref (qm 0)), (3, .int (nI i))] → W p l e room_1 s m #[Value.ref b] below meth c H locs cells slots Q (F0 m 1199 ls [])) : W p l e room_1 s m #[Value.ref b] below meth c H locs cells slots Q (F0 m 861 ls []) := by
  obtain ⟨hx, hb, hml, hown, hts, hK, hA, hZ, hlocks, hr, hN⟩ := id C
  refine lv_aload_n hx hb d_law_861 rfl (lv_at hl 1 rfl) ?_
  refine lv_aload_n hx hb d_law_862 rfl (lv_at hl 0 rfl) ?_
  refine lv_iload_n hx hb d_law_863 rfl (lv_at hl 3 rfl) ?_
  refine lv_iconst (v := 1) hx hb d_law_864 (by decide) ?_
  refine lv_iadd hx hb d_law_865 ?_
  refine va_sld hx hb hX hbl hbA hw.2.2.2.2.2 (six (k := 1) hi hL (by decide)) d_law_866 ?_
  refine lv_aload_n hx hb d_law_867 rfl (lv_at hl 0 rfl) ?_
  refine lv_iload_n hx hb d_law_868 rfl (lv_at hl 3 rfl) ?_
  refine lv_iconst (v := 2) hx hb d_law_869 (by decide) ?_
  refine lv_iadd hx hb d_law_870 ?_
  refine va_sld hx hb hX hbl hbA hw.2.2.2.2.2 (six (k := 2) hi hL (by decide)) d_law_871 ?_
  obtain ⟨r, σx1, σm1, hfx, hfm, hR1⟩ := hs (xs (nI i + 1).toNatClampNeg) (xs (nI i + 2).toNatClampNeg) σx σm hR 
  refine k_call2 (w := wX g qx) (wb := wM g qm σm) (As := [.int (xs (nI i + 1).toNatClampNeg), .int (xs (nI i + 2).toNatClampNeg)]) (rest := []) C hw (c_BH_set (q := qx) hfx) cv_BH_set k984 (xr_0 C ⟨hw.1, hw.2.2.1, hw.2.2.2.2.2⟩) (by decide) (by decide) hcs hl.1 rfl (Nat.le_of_ble_eq_true rfl) d_law_872 (fun H locs hw => ?_)
  show W p l e room_1 s m #[Value.ref b] below meth c H locs cells slots Q (F0 m 875 ls [.int r])
  refine lv_aload_n hx hb d_law_875 rfl (lv_at hl 2 rfl) ?_
  refine lv_aload_n hx hb d_law_876 rfl (lv_at hl 0 rfl) ?_
  refine lv_iload_n hx hb d_law_877 rfl (lv_at hl 3 rfl) ?_
  refine lv_iconst (v := 1) hx hb d_law_878 (by decide) ?_
  refine lv_iadd hx hb d_law_879 ?_
  refine va_sld hx hb hX hbl hbA hw.2.2.2.2.2 (six (k := 1) hi hL (by decide)) d_law_880 ?_
  refine lv_aload_n hx hb d_law_881 rfl (lv_at hl 0 rfl) ?_
  refine lv_iload_n hx hb d_law_882 rfl (lv_at hl 3 rfl) ?_
  refine lv_iconst (v := 2) hx hb d_law_883 (by decide) ?_
  refine lv_iadd hx hb d_law_884 ?_
  refine va_sld hx hb hX hbl hbA hw.2.2.2.2.2 (six (k := 2) hi hL (by decide)) d_law_885 ?_
  replace hw := hw.comm
  refine k_call2 (w := wM g qm) (wb := wX g qx σx1) (As := [.int (xs (nI i + 1).toNatClampNeg), .int (xs (nI i + 2).toNatClampNeg)]) (rest := [.int r]) C hw (c_M_set (q := qm) hfm) cv_M_set k1685 (mr_0 C ⟨hw.1, hw.2.2.1, hw.2.2.2.2.2⟩) (by decide) (by decide) hcs hl.1 rfl (Nat.le_of_ble_eq_true rfl) d_law_886 (fun H locs hw => ?_)
  replace hw := hw.comm
  show W p l e room_1 s m #[Value.ref b] below meth c H locs cells slots Q (F0 m 889 ls [.int r, .int r])
  refine lv_icmp_eq (tgt := 1199) hx hb d_law_889 (by decide) (fun _ => ?_) (fun cd => absurd rfl cd)
  exact next qx σx1 qm σm1 _ _ _ hR1 hw hl
set_option maxHeartbeats 4000000 in
theorem law_undo {Rel : St → St → Prop} (hs : Sim_undo Rel) (C : Cx g A p s m #[Value.ref b] meth c code 4 "BellHammerLaw" (some .boolean)) (hX : va_X b L xs s s.heap) (hbl : b < s.heap.size) (hbA : ¬ A b) (hcs : cells ≤ room_1.cells ∧ slots ≤ room_1.slots) {i : Nat} (hi : i + 6 ≤ L) (hL : L ≤ 3072) {qx qm : Nat → Nat} {σx σm : St} (hR : Rel σx σm) {H : Heap} {locs : List Loc} {ls : Array Slot} (hw : Wd2 g A s (wX g qx σx) (wM g qm σm) H locs) (hl : lv_has ls 4 [(0, .ref b), (1, .ref (qx 0)), (2, .ref (qm 0)), (3, .int (nI i))])
    (next : ∀ (qx : Nat → Nat) (σx : St) (qm : Nat → Nat) (σm : St) (H : Heap) (locs : List Loc) (ls : Array Slot), Rel σx σm → Wd2 g A s (wX g qx σx) (wM g qm σm) H locs → lv_has ls 4 [(0, .ref b), (1, .ref (qx 0)), (2, .ref (qm 0)), (3, .int (nI i))] → W p l e room_1 s m #[Value.ref b] below meth c H locs cells slots Q (F0 m 1199 ls [])) : W p l e room_1 s m #[Value.ref b] below meth c H locs cells slots Q (F0 m 894 ls []) := by
  obtain ⟨hx, hb, hml, hown, hts, hK, hA, hZ, hlocks, hr, hN⟩ := id C
  refine lv_aload_n hx hb d_law_894 rfl (lv_at hl 1 rfl) ?_
  obtain ⟨r, σx1, σm1, hfx, hfm, hR1⟩ := hs  σx σm hR 
  refine k_call2 (w := wX g qx) (wb := wM g qm σm) (As := []) (rest := []) C hw (c_BH_undo (q := qx) hfx) cv_BH_undo k994 (xr_0 C ⟨hw.1, hw.2.2.1, hw.2.2.2.2.2⟩) (by decide) (by decide) hcs hl.1 rfl (Nat.le_of_ble_eq_true rfl) d_law_895 (fun H locs hw => ?_)
  show W p l e room_1 s m #[Value.ref b] below meth c H locs cells slots Q (F0 m 898 ls [.int r])
  refine lv_aload_n hx hb d_law_898 rfl (lv_at hl 2 rfl) ?_
  replace hw := hw.comm
  refine k_call2 (w := wM g qm) (wb := wX g qx σx1) (As := []) (rest := [.int r]) C hw (c_M_undo (q := qm) hfm) cv_M_undo k1653 (mr_0 C ⟨hw.1, hw.2.2.1, hw.2.2.2.2.2⟩) (by decide) (by decide) hcs hl.1 rfl (Nat.le_of_ble_eq_true rfl) d_law_899 (fun H locs hw => ?_)
  replace hw := hw.comm
  show W p l e room_1 s m #[Value.ref b] below meth c H locs cells slots Q (F0 m 902 ls [.int r, .int r])
  refine lv_icmp_eq (tgt := 1199) hx hb d_law_902 (by decide) (fun _ => ?_) (fun cd => absurd rfl cd)
  exact next qx σx1 qm σm1 _ _ _ hR1 hw hl
set_option maxHeartbeats 4000000 in
theorem law_seed {Rel : St → St → Prop} (hs : Sim_seed Rel) (C : Cx g A p s m #[Value.ref b] meth c code 4 "BellHammerLaw" (some .boolean)) (hX : va_X b L xs s s.heap) (hbl : b < s.heap.size) (hbA : ¬ A b) (hcs : cells ≤ room_1.cells ∧ slots ≤ room_1.slots) {i : Nat} (hi : i + 6 ≤ L) (hL : L ≤ 3072) {qx qm : Nat → Nat} {σx σm : St} (hR : Rel σx σm) {H : Heap} {locs : List Loc} {ls : Array Slot} (hw : Wd2 g A s (wX g qx σx) (wM g qm σm) H locs) (hl : lv_has ls 4 [(0, .ref b), (1, .ref (qx 0)), (2, .ref (qm 0)), (3, .int (nI i))])
    (next : ∀ (qx : Nat → Nat) (σx : St) (qm : Nat → Nat) (σm : St) (H : Heap) (locs : List Loc) (ls : Array Slot), Rel σx σm → Wd2 g A s (wX g qx σx) (wM g qm σm) H locs → lv_has ls 4 [(0, .ref b), (1, .ref (qx 0)), (2, .ref (qm 0)), (3, .int (nI i))] → W p l e room_1 s m #[Value.ref b] below meth c H locs cells slots Q (F0 m 1199 ls [])) : W p l e room_1 s m #[Value.ref b] below meth c H locs cells slots Q (F0 m 907 ls []) := by
  obtain ⟨hx, hb, hml, hown, hts, hK, hA, hZ, hlocks, hr, hN⟩ := id C
  refine lv_aload_n hx hb d_law_907 rfl (lv_at hl 1 rfl) ?_
  refine lv_aload_n hx hb d_law_908 rfl (lv_at hl 0 rfl) ?_
  refine lv_iload_n hx hb d_law_909 rfl (lv_at hl 3 rfl) ?_
  refine lv_iconst (v := 1) hx hb d_law_910 (by decide) ?_
  refine lv_iadd hx hb d_law_911 ?_
  refine va_sld hx hb hX hbl hbA hw.2.2.2.2.2 (six (k := 1) hi hL (by decide)) d_law_912 ?_
  obtain ⟨r, σx1, σm1, hfx, hfm, hR1⟩ := hs (xs (nI i + 1).toNatClampNeg) σx σm hR 
  refine k_call2 (w := wX g qx) (wb := wM g qm σm) (As := [.int (xs (nI i + 1).toNatClampNeg)]) (rest := []) C hw (c_BH_seed (q := qx) hfx) cv_BH_seed k1002 (xr_0 C ⟨hw.1, hw.2.2.1, hw.2.2.2.2.2⟩) (by decide) (by decide) hcs hl.1 rfl (Nat.le_of_ble_eq_true rfl) d_law_913 (fun H locs hw => ?_)
  show W p l e room_1 s m #[Value.ref b] below meth c H locs cells slots Q (F0 m 916 ls [.int r])
  refine lv_aload_n hx hb d_law_916 rfl (lv_at hl 2 rfl) ?_
  refine lv_aload_n hx hb d_law_917 rfl (lv_at hl 0 rfl) ?_
  refine lv_iload_n hx hb d_law_918 rfl (lv_at hl 3 rfl) ?_
  refine lv_iconst (v := 1) hx hb d_law_919 (by decide) ?_
  refine lv_iadd hx hb d_law_920 ?_
  refine va_sld hx hb hX hbl hbA hw.2.2.2.2.2 (six (k := 1) hi hL (by decide)) d_law_921 ?_
  replace hw := hw.comm
  refine k_call2 (w := wM g qm) (wb := wX g qx σx1) (As := [.int (xs (nI i + 1).toNatClampNeg)]) (rest := [.int r]) C hw (c_M_seed (q := qm) hfm) cv_M_seed k1657 (mr_0 C ⟨hw.1, hw.2.2.1, hw.2.2.2.2.2⟩) (by decide) (by decide) hcs hl.1 rfl (Nat.le_of_ble_eq_true rfl) d_law_922 (fun H locs hw => ?_)
  replace hw := hw.comm
  show W p l e room_1 s m #[Value.ref b] below meth c H locs cells slots Q (F0 m 925 ls [.int r, .int r])
  refine lv_icmp_eq (tgt := 1199) hx hb d_law_925 (by decide) (fun _ => ?_) (fun cd => absurd rfl cd)
  exact next qx σx1 qm σm1 _ _ _ hR1 hw hl
set_option maxHeartbeats 4000000 in
theorem law_kept {Rel : St → St → Prop} (hs : Sim_kept Rel) (C : Cx g A p s m #[Value.ref b] meth c code 4 "BellHammerLaw" (some .boolean)) (hX : va_X b L xs s s.heap) (hbl : b < s.heap.size) (hbA : ¬ A b) (hcs : cells ≤ room_1.cells ∧ slots ≤ room_1.slots) {i : Nat} (hi : i + 6 ≤ L) (hL : L ≤ 3072) {qx qm : Nat → Nat} {σx σm : St} (hR : Rel σx σm) {H : Heap} {locs : List Loc} {ls : Array Slot} (hw : Wd2 g A s (wX g qx σx) (wM g qm σm) H locs) (hl : lv_has ls 4 [(0, .ref b), (1, .ref (qx 0)), (2, .ref (qm 0)), (3, .int (nI i))])
    (next : ∀ (qx : Nat → Nat) (σx : St) (qm : Nat → Nat) (σm : St) (H : Heap) (locs : List Loc) (ls : Array Slot), Rel σx σm → Wd2 g A s (wX g qx σx) (wM g qm σm) H locs → lv_has ls 4 [(0, .ref b), (1, .ref (qx 0)), (2, .ref (qm 0)), (3, .int (nI i))] → W p l e room_1 s m #[Value.ref b] below meth c H locs cells slots Q (F0 m 1199 ls [])) : W p l e room_1 s m #[Value.ref b] below meth c H locs cells slots Q (F0 m 930 ls []) := by
  obtain ⟨hx, hb, hml, hown, hts, hK, hA, hZ, hlocks, hr, hN⟩ := id C
  refine lv_aload_n hx hb d_law_930 rfl (lv_at hl 1 rfl) ?_
  refine lv_aload_n hx hb d_law_931 rfl (lv_at hl 0 rfl) ?_
  refine lv_iload_n hx hb d_law_932 rfl (lv_at hl 3 rfl) ?_
  refine lv_iconst (v := 1) hx hb d_law_933 (by decide) ?_
  refine lv_iadd hx hb d_law_934 ?_
  refine va_sld hx hb hX hbl hbA hw.2.2.2.2.2 (six (k := 1) hi hL (by decide)) d_law_935 ?_
  refine lv_aload_n hx hb d_law_936 rfl (lv_at hl 0 rfl) ?_
  refine lv_iload_n hx hb d_law_937 rfl (lv_at hl 3 rfl) ?_
  refine lv_iconst (v := 2) hx hb d_law_938 (by decide) ?_
  refine lv_iadd hx hb d_law_939 ?_
  refine va_sld hx hb hX hbl hbA hw.2.2.2.2.2 (six (k := 2) hi hL (by decide)) d_law_940 ?_
  obtain ⟨r, hfx, hfm⟩ := hs (xs (nI i + 1).toNatClampNeg) (xs (nI i + 2).toNatClampNeg) σx σm hR 
  have hR1 := hR
  refine k_call2 (w := wX g qx) (wb := wM g qm σm) (As := [.int (xs (nI i + 1).toNatClampNeg), .int (xs (nI i + 2).toNatClampNeg)]) (rest := []) C hw (c_BH_kept (q := qx) hfx) cv_BH_kept k1006 (xr_0 C ⟨hw.1, hw.2.2.1, hw.2.2.2.2.2⟩) (by decide) (by decide) hcs hl.1 rfl (Nat.le_of_ble_eq_true rfl) d_law_941 (fun H locs hw => ?_)
  show W p l e room_1 s m #[Value.ref b] below meth c H locs cells slots Q (F0 m 944 ls [.int r])
  refine lv_aload_n hx hb d_law_944 rfl (lv_at hl 2 rfl) ?_
  refine lv_aload_n hx hb d_law_945 rfl (lv_at hl 0 rfl) ?_
  refine lv_iload_n hx hb d_law_946 rfl (lv_at hl 3 rfl) ?_
  refine lv_iconst (v := 1) hx hb d_law_947 (by decide) ?_
  refine lv_iadd hx hb d_law_948 ?_
  refine va_sld hx hb hX hbl hbA hw.2.2.2.2.2 (six (k := 1) hi hL (by decide)) d_law_949 ?_
  refine lv_aload_n hx hb d_law_950 rfl (lv_at hl 0 rfl) ?_
  refine lv_iload_n hx hb d_law_951 rfl (lv_at hl 3 rfl) ?_
  refine lv_iconst (v := 2) hx hb d_law_952 (by decide) ?_
  refine lv_iadd hx hb d_law_953 ?_
  refine va_sld hx hb hX hbl hbA hw.2.2.2.2.2 (six (k := 2) hi hL (by decide)) d_law_954 ?_
  replace hw := hw.comm
  refine k_call2 (w := wM g qm) (wb := wX g qx σx) (As := [.int (xs (nI i + 1).toNatClampNeg), .int (xs (nI i + 2).toNatClampNeg)]) (rest := [.int r]) C hw (c_M_kept (q := qm) hfm) cv_M_kept k1690 (mr_0 C ⟨hw.1, hw.2.2.1, hw.2.2.2.2.2⟩) (by decide) (by decide) hcs hl.1 rfl (Nat.le_of_ble_eq_true rfl) d_law_955 (fun H locs hw => ?_)
  replace hw := hw.comm
  show W p l e room_1 s m #[Value.ref b] below meth c H locs cells slots Q (F0 m 958 ls [.int r, .int r])
  refine lv_icmp_eq (tgt := 1199) hx hb d_law_958 (by decide) (fun _ => ?_) (fun cd => absurd rfl cd)
  exact next qx σx qm σm _ _ _ hR1 hw hl
set_option maxHeartbeats 4000000 in
theorem law_see {Rel : St → St → Prop} (hs : Sim_see Rel) (C : Cx g A p s m #[Value.ref b] meth c code 4 "BellHammerLaw" (some .boolean)) (hX : va_X b L xs s s.heap) (hbl : b < s.heap.size) (hbA : ¬ A b) (hcs : cells ≤ room_1.cells ∧ slots ≤ room_1.slots) {i : Nat} (hi : i + 6 ≤ L) (hL : L ≤ 3072) {qx qm : Nat → Nat} {σx σm : St} (hR : Rel σx σm) {H : Heap} {locs : List Loc} {ls : Array Slot} (hw : Wd2 g A s (wX g qx σx) (wM g qm σm) H locs) (hl : lv_has ls 4 [(0, .ref b), (1, .ref (qx 0)), (2, .ref (qm 0)), (3, .int (nI i))])
    (next : ∀ (qx : Nat → Nat) (σx : St) (qm : Nat → Nat) (σm : St) (H : Heap) (locs : List Loc) (ls : Array Slot), Rel σx σm → Wd2 g A s (wX g qx σx) (wM g qm σm) H locs → lv_has ls 4 [(0, .ref b), (1, .ref (qx 0)), (2, .ref (qm 0)), (3, .int (nI i))] → W p l e room_1 s m #[Value.ref b] below meth c H locs cells slots Q (F0 m 1199 ls [])) : W p l e room_1 s m #[Value.ref b] below meth c H locs cells slots Q (F0 m 963 ls []) := by
  obtain ⟨hx, hb, hml, hown, hts, hK, hA, hZ, hlocks, hr, hN⟩ := id C
  refine lv_aload_n hx hb d_law_963 rfl (lv_at hl 1 rfl) ?_
  refine lv_aload_n hx hb d_law_964 rfl (lv_at hl 0 rfl) ?_
  refine lv_iload_n hx hb d_law_965 rfl (lv_at hl 3 rfl) ?_
  refine lv_iconst (v := 1) hx hb d_law_966 (by decide) ?_
  refine lv_iadd hx hb d_law_967 ?_
  refine va_sld hx hb hX hbl hbA hw.2.2.2.2.2 (six (k := 1) hi hL (by decide)) d_law_968 ?_
  obtain ⟨r, σx1, σm1, hfx, hfm, hR1⟩ := hs (xs (nI i + 1).toNatClampNeg) σx σm hR 
  refine k_call2 (w := wX g qx) (wb := wM g qm σm) (As := [.int (xs (nI i + 1).toNatClampNeg)]) (rest := []) C hw (c_BH_see (q := qx) hfx) cv_BH_see k1015 (xr_0 C ⟨hw.1, hw.2.2.1, hw.2.2.2.2.2⟩) (by decide) (by decide) hcs hl.1 rfl (Nat.le_of_ble_eq_true rfl) d_law_969 (fun H locs hw => ?_)
  show W p l e room_1 s m #[Value.ref b] below meth c H locs cells slots Q (F0 m 972 ls [.int r])
  refine lv_aload_n hx hb d_law_972 rfl (lv_at hl 2 rfl) ?_
  refine lv_aload_n hx hb d_law_973 rfl (lv_at hl 0 rfl) ?_
  refine lv_iload_n hx hb d_law_974 rfl (lv_at hl 3 rfl) ?_
  refine lv_iconst (v := 1) hx hb d_law_975 (by decide) ?_
  refine lv_iadd hx hb d_law_976 ?_
  refine va_sld hx hb hX hbl hbA hw.2.2.2.2.2 (six (k := 1) hi hL (by decide)) d_law_977 ?_
  replace hw := hw.comm
  refine k_call2 (w := wM g qm) (wb := wX g qx σx1) (As := [.int (xs (nI i + 1).toNatClampNeg)]) (rest := [.int r]) C hw (c_M_see (q := qm) hfm) cv_M_see k1695 (mr_0 C ⟨hw.1, hw.2.2.1, hw.2.2.2.2.2⟩) (by decide) (by decide) hcs hl.1 rfl (Nat.le_of_ble_eq_true rfl) d_law_978 (fun H locs hw => ?_)
  replace hw := hw.comm
  show W p l e room_1 s m #[Value.ref b] below meth c H locs cells slots Q (F0 m 981 ls [.int r, .int r])
  refine lv_icmp_eq (tgt := 1199) hx hb d_law_981 (by decide) (fun _ => ?_) (fun cd => absurd rfl cd)
  exact next qx σx1 qm σm1 _ _ _ hR1 hw hl
set_option maxHeartbeats 4000000 in
theorem law_was {Rel : St → St → Prop} (hs : Sim_was Rel) (C : Cx g A p s m #[Value.ref b] meth c code 4 "BellHammerLaw" (some .boolean)) (hX : va_X b L xs s s.heap) (hbl : b < s.heap.size) (hbA : ¬ A b) (hcs : cells ≤ room_1.cells ∧ slots ≤ room_1.slots) {i : Nat} (hi : i + 6 ≤ L) (hL : L ≤ 3072) {qx qm : Nat → Nat} {σx σm : St} (hR : Rel σx σm) {H : Heap} {locs : List Loc} {ls : Array Slot} (hw : Wd2 g A s (wX g qx σx) (wM g qm σm) H locs) (hl : lv_has ls 4 [(0, .ref b), (1, .ref (qx 0)), (2, .ref (qm 0)), (3, .int (nI i))])
    (next : ∀ (qx : Nat → Nat) (σx : St) (qm : Nat → Nat) (σm : St) (H : Heap) (locs : List Loc) (ls : Array Slot), Rel σx σm → Wd2 g A s (wX g qx σx) (wM g qm σm) H locs → lv_has ls 4 [(0, .ref b), (1, .ref (qx 0)), (2, .ref (qm 0)), (3, .int (nI i))] → W p l e room_1 s m #[Value.ref b] below meth c H locs cells slots Q (F0 m 1199 ls [])) : W p l e room_1 s m #[Value.ref b] below meth c H locs cells slots Q (F0 m 986 ls []) := by
  obtain ⟨hx, hb, hml, hown, hts, hK, hA, hZ, hlocks, hr, hN⟩ := id C
  refine lv_aload_n hx hb d_law_986 rfl (lv_at hl 1 rfl) ?_
  refine lv_aload_n hx hb d_law_987 rfl (lv_at hl 0 rfl) ?_
  refine lv_iload_n hx hb d_law_988 rfl (lv_at hl 3 rfl) ?_
  refine lv_iconst (v := 1) hx hb d_law_989 (by decide) ?_
  refine lv_iadd hx hb d_law_990 ?_
  refine va_sld hx hb hX hbl hbA hw.2.2.2.2.2 (six (k := 1) hi hL (by decide)) d_law_991 ?_
  obtain ⟨r, σx1, hfx, hfm, hR1⟩ := hs (xs (nI i + 1).toNatClampNeg) σx σm hR 
  refine k_call2 (w := wX g qx) (wb := wM g qm σm) (As := [.int (xs (nI i + 1).toNatClampNeg)]) (rest := []) C hw (c_BH_was (q := qx) hfx) cv_BH_was k1023 (xr_0 C ⟨hw.1, hw.2.2.1, hw.2.2.2.2.2⟩) (by decide) (by decide) hcs hl.1 rfl (Nat.le_of_ble_eq_true rfl) d_law_992 (fun H locs hw => ?_)
  show W p l e room_1 s m #[Value.ref b] below meth c H locs cells slots Q (F0 m 995 ls [.int r])
  refine lv_aload_n hx hb d_law_995 rfl (lv_at hl 2 rfl) ?_
  refine lv_aload_n hx hb d_law_996 rfl (lv_at hl 0 rfl) ?_
  refine lv_iload_n hx hb d_law_997 rfl (lv_at hl 3 rfl) ?_
  refine lv_iconst (v := 1) hx hb d_law_998 (by decide) ?_
  refine lv_iadd hx hb d_law_999 ?_
  refine va_sld hx hb hX hbl hbA hw.2.2.2.2.2 (six (k := 1) hi hL (by decide)) d_law_1000 ?_
  replace hw := hw.comm
  refine k_call2 (w := wM g qm) (wb := wX g qx σx1) (As := [.int (xs (nI i + 1).toNatClampNeg)]) (rest := [.int r]) C hw (c_M_was (q := qm) hfm) cv_M_was k1699 (mr_0 C ⟨hw.1, hw.2.2.1, hw.2.2.2.2.2⟩) (by decide) (by decide) hcs hl.1 rfl (Nat.le_of_ble_eq_true rfl) d_law_1001 (fun H locs hw => ?_)
  replace hw := hw.comm
  show W p l e room_1 s m #[Value.ref b] below meth c H locs cells slots Q (F0 m 1004 ls [.int r, .int r])
  refine lv_icmp_eq (tgt := 1199) hx hb d_law_1004 (by decide) (fun _ => ?_) (fun cd => absurd rfl cd)
  exact next qx σx1 qm σm _ _ _ hR1 hw hl
set_option maxHeartbeats 4000000 in
theorem law_strong {Rel : St → St → Prop} (hs : Sim_strong Rel) (C : Cx g A p s m #[Value.ref b] meth c code 4 "BellHammerLaw" (some .boolean)) (hX : va_X b L xs s s.heap) (hbl : b < s.heap.size) (hbA : ¬ A b) (hcs : cells ≤ room_1.cells ∧ slots ≤ room_1.slots) {i : Nat} (hi : i + 6 ≤ L) (hL : L ≤ 3072) {qx qm : Nat → Nat} {σx σm : St} (hR : Rel σx σm) {H : Heap} {locs : List Loc} {ls : Array Slot} (hw : Wd2 g A s (wX g qx σx) (wM g qm σm) H locs) (hl : lv_has ls 4 [(0, .ref b), (1, .ref (qx 0)), (2, .ref (qm 0)), (3, .int (nI i))])
    (next : ∀ (qx : Nat → Nat) (σx : St) (qm : Nat → Nat) (σm : St) (H : Heap) (locs : List Loc) (ls : Array Slot), Rel σx σm → Wd2 g A s (wX g qx σx) (wM g qm σm) H locs → lv_has ls 4 [(0, .ref b), (1, .ref (qx 0)), (2, .ref (qm 0)), (3, .int (nI i))] → W p l e room_1 s m #[Value.ref b] below meth c H locs cells slots Q (F0 m 1199 ls [])) : W p l e room_1 s m #[Value.ref b] below meth c H locs cells slots Q (F0 m 1009 ls []) := by
  obtain ⟨hx, hb, hml, hown, hts, hK, hA, hZ, hlocks, hr, hN⟩ := id C
  refine lv_aload_n hx hb d_law_1009 rfl (lv_at hl 1 rfl) ?_
  refine lv_aload_n hx hb d_law_1010 rfl (lv_at hl 0 rfl) ?_
  refine lv_iload_n hx hb d_law_1011 rfl (lv_at hl 3 rfl) ?_
  refine lv_iconst (v := 1) hx hb d_law_1012 (by decide) ?_
  refine lv_iadd hx hb d_law_1013 ?_
  refine va_sld hx hb hX hbl hbA hw.2.2.2.2.2 (six (k := 1) hi hL (by decide)) d_law_1014 ?_
  obtain ⟨r, σx1, hfx, hfm, hR1⟩ := hs (xs (nI i + 1).toNatClampNeg) σx σm hR 
  refine k_call2 (w := wX g qx) (wb := wM g qm σm) (As := [.int (xs (nI i + 1).toNatClampNeg)]) (rest := []) C hw (c_BH_strong (q := qx) hfx) cv_BH_strong k1035 (xr_0 C ⟨hw.1, hw.2.2.1, hw.2.2.2.2.2⟩) (by decide) (by decide) hcs hl.1 rfl (Nat.le_of_ble_eq_true rfl) d_law_1015 (fun H locs hw => ?_)
  show W p l e room_1 s m #[Value.ref b] below meth c H locs cells slots Q (F0 m 1018 ls [.int r])
  refine lv_aload_n hx hb d_law_1018 rfl (lv_at hl 2 rfl) ?_
  refine lv_aload_n hx hb d_law_1019 rfl (lv_at hl 0 rfl) ?_
  refine lv_iload_n hx hb d_law_1020 rfl (lv_at hl 3 rfl) ?_
  refine lv_iconst (v := 1) hx hb d_law_1021 (by decide) ?_
  refine lv_iadd hx hb d_law_1022 ?_
  refine va_sld hx hb hX hbl hbA hw.2.2.2.2.2 (six (k := 1) hi hL (by decide)) d_law_1023 ?_
  replace hw := hw.comm
  refine k_call2 (w := wM g qm) (wb := wX g qx σx1) (As := [.int (xs (nI i + 1).toNatClampNeg)]) (rest := [.int r]) C hw (c_M_strong (q := qm) hfm) cv_M_strong k1711 (mr_0 C ⟨hw.1, hw.2.2.1, hw.2.2.2.2.2⟩) (by decide) (by decide) hcs hl.1 rfl (Nat.le_of_ble_eq_true rfl) d_law_1024 (fun H locs hw => ?_)
  replace hw := hw.comm
  show W p l e room_1 s m #[Value.ref b] below meth c H locs cells slots Q (F0 m 1027 ls [.int r, .int r])
  refine lv_icmp_eq (tgt := 1199) hx hb d_law_1027 (by decide) (fun _ => ?_) (fun cd => absurd rfl cd)
  exact next qx σx1 qm σm _ _ _ hR1 hw hl
set_option maxHeartbeats 4000000 in
theorem law_next {Rel : St → St → Prop} (hs : Sim_next Rel) (C : Cx g A p s m #[Value.ref b] meth c code 4 "BellHammerLaw" (some .boolean)) (hX : va_X b L xs s s.heap) (hbl : b < s.heap.size) (hbA : ¬ A b) (hcs : cells ≤ room_1.cells ∧ slots ≤ room_1.slots) {i : Nat} (hi : i + 6 ≤ L) (hL : L ≤ 3072) {qx qm : Nat → Nat} {σx σm : St} (hR : Rel σx σm) {H : Heap} {locs : List Loc} {ls : Array Slot} (hw : Wd2 g A s (wX g qx σx) (wM g qm σm) H locs) (hl : lv_has ls 4 [(0, .ref b), (1, .ref (qx 0)), (2, .ref (qm 0)), (3, .int (nI i))])
    (next : ∀ (qx : Nat → Nat) (σx : St) (qm : Nat → Nat) (σm : St) (H : Heap) (locs : List Loc) (ls : Array Slot), Rel σx σm → Wd2 g A s (wX g qx σx) (wM g qm σm) H locs → lv_has ls 4 [(0, .ref b), (1, .ref (qx 0)), (2, .ref (qm 0)), (3, .int (nI i))] → W p l e room_1 s m #[Value.ref b] below meth c H locs cells slots Q (F0 m 1199 ls [])) : W p l e room_1 s m #[Value.ref b] below meth c H locs cells slots Q (F0 m 1032 ls []) := by
  obtain ⟨hx, hb, hml, hown, hts, hK, hA, hZ, hlocks, hr, hN⟩ := id C
  refine lv_aload_n hx hb d_law_1032 rfl (lv_at hl 1 rfl) ?_
  refine lv_aload_n hx hb d_law_1033 rfl (lv_at hl 0 rfl) ?_
  refine lv_iload_n hx hb d_law_1034 rfl (lv_at hl 3 rfl) ?_
  refine lv_iconst (v := 1) hx hb d_law_1035 (by decide) ?_
  refine lv_iadd hx hb d_law_1036 ?_
  refine va_sld hx hb hX hbl hbA hw.2.2.2.2.2 (six (k := 1) hi hL (by decide)) d_law_1037 ?_
  refine lv_if_eq (tgt := 1045) hx hb d_law_1038 (by decide) (fun cd1038 => ?_) (fun cd1038 => ?_)
  ·
    refine lv_iconst (v := 0) hx hb d_law_1045 (by decide) ?_
    obtain ⟨r, σx1, hfx, hfm, hR1⟩ := hs (0) σx σm hR (Or.inl rfl)
    refine k_call2 (w := wX g qx) (wb := wM g qm σm) (As := [.int (0)]) (rest := []) C hw (c_BH_next (q := qx) hfx) cv_BH_next k1039 (xr_0 C ⟨hw.1, hw.2.2.1, hw.2.2.2.2.2⟩) (by decide) (by decide) hcs hl.1 rfl (Nat.le_of_ble_eq_true rfl) d_law_1046 (fun H locs hw => ?_)
    show W p l e room_1 s m #[Value.ref b] below meth c H locs cells slots Q (F0 m 1049 ls [.int r])
    refine lv_aload_n hx hb d_law_1049 rfl (lv_at hl 2 rfl) ?_
    refine lv_aload_n hx hb d_law_1050 rfl (lv_at hl 0 rfl) ?_
    refine lv_iload_n hx hb d_law_1051 rfl (lv_at hl 3 rfl) ?_
    refine lv_iconst (v := 1) hx hb d_law_1052 (by decide) ?_
    refine lv_iadd hx hb d_law_1053 ?_
    refine va_sld hx hb hX hbl hbA hw.2.2.2.2.2 (six (k := 1) hi hL (by decide)) d_law_1054 ?_
    refine lv_if_eq (tgt := 1062) hx hb d_law_1055 (by decide) (fun cd1055 => ?_) (fun cd1055 => ?_)
    ·
      refine lv_iconst (v := 0) hx hb d_law_1062 (by decide) ?_
      replace hw := hw.comm
      refine k_call2 (w := wM g qm) (wb := wX g qx σx1) (As := [.int (0)]) (rest := [.int r]) C hw (c_M_next (q := qm) hfm) cv_M_next k1716 (mr_0 C ⟨hw.1, hw.2.2.1, hw.2.2.2.2.2⟩) (by decide) (by decide) hcs hl.1 rfl (Nat.le_of_ble_eq_true rfl) d_law_1063 (fun H locs hw => ?_)
      replace hw := hw.comm
      show W p l e room_1 s m #[Value.ref b] below meth c H locs cells slots Q (F0 m 1066 ls [.int r, .int r])
      refine lv_icmp_eq (tgt := 1199) hx hb d_law_1066 (by decide) (fun _ => ?_) (fun cd => absurd rfl cd)
      exact next qx σx1 qm σm _ _ _ hR1 hw hl
    ·
      exact absurd cd1038 cd1055
  ·
    refine lv_iconst (v := 1) hx hb d_law_1041 (by decide) ?_
    refine lv_goto (tgt := 1046) hx hb d_law_1042 (by decide) ?_
    obtain ⟨r, σx1, hfx, hfm, hR1⟩ := hs (1) σx σm hR (Or.inr rfl)
    refine k_call2 (w := wX g qx) (wb := wM g qm σm) (As := [.int (1)]) (rest := []) C hw (c_BH_next (q := qx) hfx) cv_BH_next k1039 (xr_0 C ⟨hw.1, hw.2.2.1, hw.2.2.2.2.2⟩) (by decide) (by decide) hcs hl.1 rfl (Nat.le_of_ble_eq_true rfl) d_law_1046 (fun H locs hw => ?_)
    show W p l e room_1 s m #[Value.ref b] below meth c H locs cells slots Q (F0 m 1049 ls [.int r])
    refine lv_aload_n hx hb d_law_1049 rfl (lv_at hl 2 rfl) ?_
    refine lv_aload_n hx hb d_law_1050 rfl (lv_at hl 0 rfl) ?_
    refine lv_iload_n hx hb d_law_1051 rfl (lv_at hl 3 rfl) ?_
    refine lv_iconst (v := 1) hx hb d_law_1052 (by decide) ?_
    refine lv_iadd hx hb d_law_1053 ?_
    refine va_sld hx hb hX hbl hbA hw.2.2.2.2.2 (six (k := 1) hi hL (by decide)) d_law_1054 ?_
    refine lv_if_eq (tgt := 1062) hx hb d_law_1055 (by decide) (fun cd1055 => ?_) (fun cd1055 => ?_)
    ·
      exact absurd cd1055 cd1038
    ·
      refine lv_iconst (v := 1) hx hb d_law_1058 (by decide) ?_
      refine lv_goto (tgt := 1063) hx hb d_law_1059 (by decide) ?_
      replace hw := hw.comm
      refine k_call2 (w := wM g qm) (wb := wX g qx σx1) (As := [.int (1)]) (rest := [.int r]) C hw (c_M_next (q := qm) hfm) cv_M_next k1716 (mr_0 C ⟨hw.1, hw.2.2.1, hw.2.2.2.2.2⟩) (by decide) (by decide) hcs hl.1 rfl (Nat.le_of_ble_eq_true rfl) d_law_1063 (fun H locs hw => ?_)
      replace hw := hw.comm
      show W p l e room_1 s m #[Value.ref b] below meth c H locs cells slots Q (F0 m 1066 ls [.int r, .int r])
      refine lv_icmp_eq (tgt := 1199) hx hb d_law_1066 (by decide) (fun _ => ?_) (fun cd => absurd rfl cd)
      exact next qx σx1 qm σm _ _ _ hR1 hw hl
set_option maxHeartbeats 4000000 in
theorem law_clear {Rel : St → St → Prop} (hs : Sim_clear Rel) (C : Cx g A p s m #[Value.ref b] meth c code 4 "BellHammerLaw" (some .boolean)) (hX : va_X b L xs s s.heap) (hbl : b < s.heap.size) (hbA : ¬ A b) (hcs : cells ≤ room_1.cells ∧ slots ≤ room_1.slots) {i : Nat} (hi : i + 6 ≤ L) (hL : L ≤ 3072) {qx qm : Nat → Nat} {σx σm : St} (hR : Rel σx σm) {H : Heap} {locs : List Loc} {ls : Array Slot} (hw : Wd2 g A s (wX g qx σx) (wM g qm σm) H locs) (hl : lv_has ls 4 [(0, .ref b), (1, .ref (qx 0)), (2, .ref (qm 0)), (3, .int (nI i))])
    (next : ∀ (qx : Nat → Nat) (σx : St) (qm : Nat → Nat) (σm : St) (H : Heap) (locs : List Loc) (ls : Array Slot), Rel σx σm → Wd2 g A s (wX g qx σx) (wM g qm σm) H locs → lv_has ls 4 [(0, .ref b), (1, .ref (qx 0)), (2, .ref (qm 0)), (3, .int (nI i))] → W p l e room_1 s m #[Value.ref b] below meth c H locs cells slots Q (F0 m 1199 ls [])) : W p l e room_1 s m #[Value.ref b] below meth c H locs cells slots Q (F0 m 1071 ls []) := by
  obtain ⟨hx, hb, hml, hown, hts, hK, hA, hZ, hlocks, hr, hN⟩ := id C
  refine lv_aload_n hx hb d_law_1071 rfl (lv_at hl 1 rfl) ?_
  refine lv_aload_n hx hb d_law_1072 rfl (lv_at hl 0 rfl) ?_
  refine lv_iload_n hx hb d_law_1073 rfl (lv_at hl 3 rfl) ?_
  refine lv_iconst (v := 1) hx hb d_law_1074 (by decide) ?_
  refine lv_iadd hx hb d_law_1075 ?_
  refine va_sld hx hb hX hbl hbA hw.2.2.2.2.2 (six (k := 1) hi hL (by decide)) d_law_1076 ?_
  obtain ⟨r, σx1, hfx, hfm, hR1⟩ := hs (xs (nI i + 1).toNatClampNeg) σx σm hR 
  refine k_call2 (w := wX g qx) (wb := wM g qm σm) (As := [.int (xs (nI i + 1).toNatClampNeg)]) (rest := []) C hw (c_BH_clear (q := qx) hfx) cv_BH_clear k1043 (xr_0 C ⟨hw.1, hw.2.2.1, hw.2.2.2.2.2⟩) (by decide) (by decide) hcs hl.1 rfl (Nat.le_of_ble_eq_true rfl) d_law_1077 (fun H locs hw => ?_)
  show W p l e room_1 s m #[Value.ref b] below meth c H locs cells slots Q (F0 m 1080 ls [.int r])
  refine lv_aload_n hx hb d_law_1080 rfl (lv_at hl 2 rfl) ?_
  refine lv_aload_n hx hb d_law_1081 rfl (lv_at hl 0 rfl) ?_
  refine lv_iload_n hx hb d_law_1082 rfl (lv_at hl 3 rfl) ?_
  refine lv_iconst (v := 1) hx hb d_law_1083 (by decide) ?_
  refine lv_iadd hx hb d_law_1084 ?_
  refine va_sld hx hb hX hbl hbA hw.2.2.2.2.2 (six (k := 1) hi hL (by decide)) d_law_1085 ?_
  replace hw := hw.comm
  refine k_call2 (w := wM g qm) (wb := wX g qx σx1) (As := [.int (xs (nI i + 1).toNatClampNeg)]) (rest := [.int r]) C hw (c_M_clear (q := qm) hfm) cv_M_clear k1720 (mr_0 C ⟨hw.1, hw.2.2.1, hw.2.2.2.2.2⟩) (by decide) (by decide) hcs hl.1 rfl (Nat.le_of_ble_eq_true rfl) d_law_1086 (fun H locs hw => ?_)
  replace hw := hw.comm
  show W p l e room_1 s m #[Value.ref b] below meth c H locs cells slots Q (F0 m 1089 ls [.int r, .int r])
  refine lv_icmp_eq (tgt := 1199) hx hb d_law_1089 (by decide) (fun _ => ?_) (fun cd => absurd rfl cd)
  exact next qx σx1 qm σm _ _ _ hR1 hw hl
set_option maxHeartbeats 4000000 in
theorem law_reach {Rel : St → St → Prop} (hs : Sim_reach Rel) (C : Cx g A p s m #[Value.ref b] meth c code 4 "BellHammerLaw" (some .boolean)) (hX : va_X b L xs s s.heap) (hbl : b < s.heap.size) (hbA : ¬ A b) (hcs : cells ≤ room_1.cells ∧ slots ≤ room_1.slots) {i : Nat} (hi : i + 6 ≤ L) (hL : L ≤ 3072) {qx qm : Nat → Nat} {σx σm : St} (hR : Rel σx σm) {H : Heap} {locs : List Loc} {ls : Array Slot} (hw : Wd2 g A s (wX g qx σx) (wM g qm σm) H locs) (hl : lv_has ls 4 [(0, .ref b), (1, .ref (qx 0)), (2, .ref (qm 0)), (3, .int (nI i))])
    (next : ∀ (qx : Nat → Nat) (σx : St) (qm : Nat → Nat) (σm : St) (H : Heap) (locs : List Loc) (ls : Array Slot), Rel σx σm → Wd2 g A s (wX g qx σx) (wM g qm σm) H locs → lv_has ls 4 [(0, .ref b), (1, .ref (qx 0)), (2, .ref (qm 0)), (3, .int (nI i))] → W p l e room_1 s m #[Value.ref b] below meth c H locs cells slots Q (F0 m 1199 ls [])) : W p l e room_1 s m #[Value.ref b] below meth c H locs cells slots Q (F0 m 1094 ls []) := by
  obtain ⟨hx, hb, hml, hown, hts, hK, hA, hZ, hlocks, hr, hN⟩ := id C
  refine lv_aload_n hx hb d_law_1094 rfl (lv_at hl 1 rfl) ?_
  refine lv_aload_n hx hb d_law_1095 rfl (lv_at hl 0 rfl) ?_
  refine lv_iload_n hx hb d_law_1096 rfl (lv_at hl 3 rfl) ?_
  refine lv_iconst (v := 1) hx hb d_law_1097 (by decide) ?_
  refine lv_iadd hx hb d_law_1098 ?_
  refine va_sld hx hb hX hbl hbA hw.2.2.2.2.2 (six (k := 1) hi hL (by decide)) d_law_1099 ?_
  refine lv_aload_n hx hb d_law_1100 rfl (lv_at hl 0 rfl) ?_
  refine lv_iload_n hx hb d_law_1101 rfl (lv_at hl 3 rfl) ?_
  refine lv_iconst (v := 2) hx hb d_law_1102 (by decide) ?_
  refine lv_iadd hx hb d_law_1103 ?_
  refine va_sld hx hb hX hbl hbA hw.2.2.2.2.2 (six (k := 2) hi hL (by decide)) d_law_1104 ?_
  obtain ⟨r, hfx, hfm⟩ := hs (xs (nI i + 1).toNatClampNeg) (xs (nI i + 2).toNatClampNeg) σx σm hR 
  have hR1 := hR
  refine k_call2 (w := wX g qx) (wb := wM g qm σm) (As := [.int (xs (nI i + 1).toNatClampNeg), .int (xs (nI i + 2).toNatClampNeg)]) (rest := []) C hw (c_BH_reach (q := qx) hfx) cv_BH_reach k1051 (xr_0 C ⟨hw.1, hw.2.2.1, hw.2.2.2.2.2⟩) (by decide) (by decide) hcs hl.1 rfl (Nat.le_of_ble_eq_true rfl) d_law_1105 (fun H locs hw => ?_)
  show W p l e room_1 s m #[Value.ref b] below meth c H locs cells slots Q (F0 m 1108 ls [.int r])
  refine lv_aload_n hx hb d_law_1108 rfl (lv_at hl 2 rfl) ?_
  refine lv_aload_n hx hb d_law_1109 rfl (lv_at hl 0 rfl) ?_
  refine lv_iload_n hx hb d_law_1110 rfl (lv_at hl 3 rfl) ?_
  refine lv_iconst (v := 1) hx hb d_law_1111 (by decide) ?_
  refine lv_iadd hx hb d_law_1112 ?_
  refine va_sld hx hb hX hbl hbA hw.2.2.2.2.2 (six (k := 1) hi hL (by decide)) d_law_1113 ?_
  refine lv_aload_n hx hb d_law_1114 rfl (lv_at hl 0 rfl) ?_
  refine lv_iload_n hx hb d_law_1115 rfl (lv_at hl 3 rfl) ?_
  refine lv_iconst (v := 2) hx hb d_law_1116 (by decide) ?_
  refine lv_iadd hx hb d_law_1117 ?_
  refine va_sld hx hb hX hbl hbA hw.2.2.2.2.2 (six (k := 2) hi hL (by decide)) d_law_1118 ?_
  replace hw := hw.comm
  refine k_call2 (w := wM g qm) (wb := wX g qx σx) (As := [.int (xs (nI i + 1).toNatClampNeg), .int (xs (nI i + 2).toNatClampNeg)]) (rest := [.int r]) C hw (c_M_reach (q := qm) hfm) cv_M_reach k1729 (mr_0 C ⟨hw.1, hw.2.2.1, hw.2.2.2.2.2⟩) (by decide) (by decide) hcs hl.1 rfl (Nat.le_of_ble_eq_true rfl) d_law_1119 (fun H locs hw => ?_)
  replace hw := hw.comm
  show W p l e room_1 s m #[Value.ref b] below meth c H locs cells slots Q (F0 m 1122 ls [.int r, .int r])
  refine lv_icmp_eq (tgt := 1199) hx hb d_law_1122 (by decide) (fun _ => ?_) (fun cd => absurd rfl cd)
  exact next qx σx qm σm _ _ _ hR1 hw hl
set_option maxHeartbeats 4000000 in
theorem law_image {Rel : St → St → Prop} (hs : Sim_image Rel) (C : Cx g A p s m #[Value.ref b] meth c code 4 "BellHammerLaw" (some .boolean)) (hX : va_X b L xs s s.heap) (hbl : b < s.heap.size) (hbA : ¬ A b) (hcs : cells ≤ room_1.cells ∧ slots ≤ room_1.slots) {i : Nat} (hi : i + 6 ≤ L) (hL : L ≤ 3072) {qx qm : Nat → Nat} {σx σm : St} (hR : Rel σx σm) {H : Heap} {locs : List Loc} {ls : Array Slot} (hw : Wd2 g A s (wX g qx σx) (wM g qm σm) H locs) (hl : lv_has ls 4 [(0, .ref b), (1, .ref (qx 0)), (2, .ref (qm 0)), (3, .int (nI i))])
    (next : ∀ (qx : Nat → Nat) (σx : St) (qm : Nat → Nat) (σm : St) (H : Heap) (locs : List Loc) (ls : Array Slot), Rel σx σm → Wd2 g A s (wX g qx σx) (wM g qm σm) H locs → lv_has ls 4 [(0, .ref b), (1, .ref (qx 0)), (2, .ref (qm 0)), (3, .int (nI i))] → W p l e room_1 s m #[Value.ref b] below meth c H locs cells slots Q (F0 m 1199 ls [])) : W p l e room_1 s m #[Value.ref b] below meth c H locs cells slots Q (F0 m 1127 ls []) := by
  obtain ⟨hx, hb, hml, hown, hts, hK, hA, hZ, hlocks, hr, hN⟩ := id C
  refine lv_aload_n hx hb d_law_1127 rfl (lv_at hl 1 rfl) ?_
  obtain ⟨r, σx1, σm1, hfx, hfm, hR1⟩ := hs  σx σm hR 
  refine k_call2 (w := wX g qx) (wb := wM g qm σm) (As := []) (rest := []) C hw (c_BH_image (q := qx) hfx) cv_BH_image k1059 (xr_0 C ⟨hw.1, hw.2.2.1, hw.2.2.2.2.2⟩) (by decide) (by decide) hcs hl.1 rfl (Nat.le_of_ble_eq_true rfl) d_law_1128 (fun H locs hw => ?_)
  show W p l e room_1 s m #[Value.ref b] below meth c H locs cells slots Q (F0 m 1131 ls [.int r])
  refine lv_aload_n hx hb d_law_1131 rfl (lv_at hl 2 rfl) ?_
  replace hw := hw.comm
  refine k_call2 (w := wM g qm) (wb := wX g qx σx1) (As := []) (rest := [.int r]) C hw (c_M_image (q := qm) hfm) cv_M_image k1738 (mr_0 C ⟨hw.1, hw.2.2.1, hw.2.2.2.2.2⟩) (by decide) (by decide) hcs hl.1 rfl (Nat.le_of_ble_eq_true rfl) d_law_1132 (fun H locs hw => ?_)
  replace hw := hw.comm
  show W p l e room_1 s m #[Value.ref b] below meth c H locs cells slots Q (F0 m 1135 ls [.int r, .int r])
  refine lv_icmp_eq (tgt := 1199) hx hb d_law_1135 (by decide) (fun _ => ?_) (fun cd => absurd rfl cd)
  exact next qx σx1 qm σm1 _ _ _ hR1 hw hl
set_option maxHeartbeats 4000000 in
theorem law_octet {Rel : St → St → Prop} (hs : Sim_octet Rel) (C : Cx g A p s m #[Value.ref b] meth c code 4 "BellHammerLaw" (some .boolean)) (hX : va_X b L xs s s.heap) (hbl : b < s.heap.size) (hbA : ¬ A b) (hcs : cells ≤ room_1.cells ∧ slots ≤ room_1.slots) {i : Nat} (hi : i + 6 ≤ L) (hL : L ≤ 3072) {qx qm : Nat → Nat} {σx σm : St} (hR : Rel σx σm) {H : Heap} {locs : List Loc} {ls : Array Slot} (hw : Wd2 g A s (wX g qx σx) (wM g qm σm) H locs) (hl : lv_has ls 4 [(0, .ref b), (1, .ref (qx 0)), (2, .ref (qm 0)), (3, .int (nI i))])
    (next : ∀ (qx : Nat → Nat) (σx : St) (qm : Nat → Nat) (σm : St) (H : Heap) (locs : List Loc) (ls : Array Slot), Rel σx σm → Wd2 g A s (wX g qx σx) (wM g qm σm) H locs → lv_has ls 4 [(0, .ref b), (1, .ref (qx 0)), (2, .ref (qm 0)), (3, .int (nI i))] → W p l e room_1 s m #[Value.ref b] below meth c H locs cells slots Q (F0 m 1199 ls [])) : W p l e room_1 s m #[Value.ref b] below meth c H locs cells slots Q (F0 m 1140 ls []) := by
  obtain ⟨hx, hb, hml, hown, hts, hK, hA, hZ, hlocks, hr, hN⟩ := id C
  refine lv_aload_n hx hb d_law_1140 rfl (lv_at hl 1 rfl) ?_
  refine lv_aload_n hx hb d_law_1141 rfl (lv_at hl 0 rfl) ?_
  refine lv_iload_n hx hb d_law_1142 rfl (lv_at hl 3 rfl) ?_
  refine lv_iconst (v := 1) hx hb d_law_1143 (by decide) ?_
  refine lv_iadd hx hb d_law_1144 ?_
  refine va_sld hx hb hX hbl hbA hw.2.2.2.2.2 (six (k := 1) hi hL (by decide)) d_law_1145 ?_
  obtain ⟨r, hfx, hfm⟩ := hs (xs (nI i + 1).toNatClampNeg) σx σm hR 
  have hR1 := hR
  refine k_call2 (w := wX g qx) (wb := wM g qm σm) (As := [.int (xs (nI i + 1).toNatClampNeg)]) (rest := []) C hw (c_BH_octet (q := qx) hfx) cv_BH_octet k1070 (xr_0 C ⟨hw.1, hw.2.2.1, hw.2.2.2.2.2⟩) (by decide) (by decide) hcs hl.1 rfl (Nat.le_of_ble_eq_true rfl) d_law_1146 (fun H locs hw => ?_)
  show W p l e room_1 s m #[Value.ref b] below meth c H locs cells slots Q (F0 m 1149 ls [.int r])
  refine lv_aload_n hx hb d_law_1149 rfl (lv_at hl 2 rfl) ?_
  refine lv_aload_n hx hb d_law_1150 rfl (lv_at hl 0 rfl) ?_
  refine lv_iload_n hx hb d_law_1151 rfl (lv_at hl 3 rfl) ?_
  refine lv_iconst (v := 1) hx hb d_law_1152 (by decide) ?_
  refine lv_iadd hx hb d_law_1153 ?_
  refine va_sld hx hb hX hbl hbA hw.2.2.2.2.2 (six (k := 1) hi hL (by decide)) d_law_1154 ?_
  replace hw := hw.comm
  refine k_call2 (w := wM g qm) (wb := wX g qx σx) (As := [.int (xs (nI i + 1).toNatClampNeg)]) (rest := [.int r]) C hw (c_M_octet (q := qm) hfm) cv_M_octet k1746 (mr_0 C ⟨hw.1, hw.2.2.1, hw.2.2.2.2.2⟩) (by decide) (by decide) hcs hl.1 rfl (Nat.le_of_ble_eq_true rfl) d_law_1155 (fun H locs hw => ?_)
  replace hw := hw.comm
  show W p l e room_1 s m #[Value.ref b] below meth c H locs cells slots Q (F0 m 1158 ls [.int r, .int r])
  refine lv_icmp_eq (tgt := 1199) hx hb d_law_1158 (by decide) (fun _ => ?_) (fun cd => absurd rfl cd)
  exact next qx σx qm σm _ _ _ hR1 hw hl
set_option maxHeartbeats 4000000 in
theorem law_on {Rel : St → St → Prop} (hs : Sim_on Rel) (C : Cx g A p s m #[Value.ref b] meth c code 4 "BellHammerLaw" (some .boolean)) (hX : va_X b L xs s s.heap) (hbl : b < s.heap.size) (hbA : ¬ A b) (hcs : cells ≤ room_1.cells ∧ slots ≤ room_1.slots) {i : Nat} (hi : i + 6 ≤ L) (hL : L ≤ 3072) {qx qm : Nat → Nat} {σx σm : St} (hR : Rel σx σm) {H : Heap} {locs : List Loc} {ls : Array Slot} (hw : Wd2 g A s (wX g qx σx) (wM g qm σm) H locs) (hl : lv_has ls 4 [(0, .ref b), (1, .ref (qx 0)), (2, .ref (qm 0)), (3, .int (nI i))])
    (next : ∀ (qx : Nat → Nat) (σx : St) (qm : Nat → Nat) (σm : St) (H : Heap) (locs : List Loc) (ls : Array Slot), Rel σx σm → Wd2 g A s (wX g qx σx) (wM g qm σm) H locs → lv_has ls 4 [(0, .ref b), (1, .ref (qx 0)), (2, .ref (qm 0)), (3, .int (nI i))] → W p l e room_1 s m #[Value.ref b] below meth c H locs cells slots Q (F0 m 1199 ls [])) : W p l e room_1 s m #[Value.ref b] below meth c H locs cells slots Q (F0 m 1163 ls []) := by
  obtain ⟨hx, hb, hml, hown, hts, hK, hA, hZ, hlocks, hr, hN⟩ := id C
  refine lv_aload_n hx hb d_law_1163 rfl (lv_at hl 1 rfl) ?_
  obtain ⟨r, σx1, σm1, hfx, hfm, hR1⟩ := hs  σx σm hR 
  refine k_call2 (w := wX g qx) (wb := wM g qm σm) (As := []) (rest := []) C hw (c_BH_on (q := qx) hfx) cv_BH_on k1074 (xr_0 C ⟨hw.1, hw.2.2.1, hw.2.2.2.2.2⟩) (by decide) (by decide) hcs hl.1 rfl (Nat.le_of_ble_eq_true rfl) d_law_1164 (fun H locs hw => ?_)
  show W p l e room_1 s m #[Value.ref b] below meth c H locs cells slots Q (F0 m 1167 ls [.int r])
  refine lv_aload_n hx hb d_law_1167 rfl (lv_at hl 2 rfl) ?_
  replace hw := hw.comm
  refine k_call2 (w := wM g qm) (wb := wX g qx σx1) (As := []) (rest := [.int r]) C hw (c_M_on (q := qm) hfm) cv_M_on k1750 (mr_0 C ⟨hw.1, hw.2.2.1, hw.2.2.2.2.2⟩) (by decide) (by decide) hcs hl.1 rfl (Nat.le_of_ble_eq_true rfl) d_law_1168 (fun H locs hw => ?_)
  replace hw := hw.comm
  show W p l e room_1 s m #[Value.ref b] below meth c H locs cells slots Q (F0 m 1171 ls [.int r, .int r])
  refine lv_icmp_eq (tgt := 1199) hx hb d_law_1171 (by decide) (fun _ => ?_) (fun cd => absurd rfl cd)
  exact next qx σx1 qm σm1 _ _ _ hR1 hw hl
set_option maxHeartbeats 4000000 in
theorem law_status {Rel : St → St → Prop} (hs : Sim_status Rel) (C : Cx g A p s m #[Value.ref b] meth c code 4 "BellHammerLaw" (some .boolean)) (hX : va_X b L xs s s.heap) (hbl : b < s.heap.size) (hbA : ¬ A b) (hcs : cells ≤ room_1.cells ∧ slots ≤ room_1.slots) {i : Nat} (hi : i + 6 ≤ L) (hL : L ≤ 3072) {qx qm : Nat → Nat} {σx σm : St} (hR : Rel σx σm) {H : Heap} {locs : List Loc} {ls : Array Slot} (hw : Wd2 g A s (wX g qx σx) (wM g qm σm) H locs) (hl : lv_has ls 4 [(0, .ref b), (1, .ref (qx 0)), (2, .ref (qm 0)), (3, .int (nI i))])
    (next : ∀ (qx : Nat → Nat) (σx : St) (qm : Nat → Nat) (σm : St) (H : Heap) (locs : List Loc) (ls : Array Slot), Rel σx σm → Wd2 g A s (wX g qx σx) (wM g qm σm) H locs → lv_has ls 4 [(0, .ref b), (1, .ref (qx 0)), (2, .ref (qm 0)), (3, .int (nI i))] → W p l e room_1 s m #[Value.ref b] below meth c H locs cells slots Q (F0 m 1199 ls [])) : W p l e room_1 s m #[Value.ref b] below meth c H locs cells slots Q (F0 m 1176 ls []) := by
  obtain ⟨hx, hb, hml, hown, hts, hK, hA, hZ, hlocks, hr, hN⟩ := id C
  refine lv_aload_n hx hb d_law_1176 rfl (lv_at hl 1 rfl) ?_
  refine lv_aload_n hx hb d_law_1177 rfl (lv_at hl 0 rfl) ?_
  refine lv_iload_n hx hb d_law_1178 rfl (lv_at hl 3 rfl) ?_
  refine lv_iconst (v := 1) hx hb d_law_1179 (by decide) ?_
  refine lv_iadd hx hb d_law_1180 ?_
  refine va_sld hx hb hX hbl hbA hw.2.2.2.2.2 (six (k := 1) hi hL (by decide)) d_law_1181 ?_
  obtain ⟨r, hfx, hfm⟩ := hs (xs (nI i + 1).toNatClampNeg) σx σm hR 
  have hR1 := hR
  refine k_call2 (w := wX g qx) (wb := wM g qm σm) (As := [.int (xs (nI i + 1).toNatClampNeg)]) (rest := []) C hw (c_BH_status (q := qx) hfx) cv_BH_status k1084 (xr_0 C ⟨hw.1, hw.2.2.1, hw.2.2.2.2.2⟩) (by decide) (by decide) hcs hl.1 rfl (Nat.le_of_ble_eq_true rfl) d_law_1182 (fun H locs hw => ?_)
  show W p l e room_1 s m #[Value.ref b] below meth c H locs cells slots Q (F0 m 1185 ls [.int r])
  refine lv_aload_n hx hb d_law_1185 rfl (lv_at hl 2 rfl) ?_
  refine lv_aload_n hx hb d_law_1186 rfl (lv_at hl 0 rfl) ?_
  refine lv_iload_n hx hb d_law_1187 rfl (lv_at hl 3 rfl) ?_
  refine lv_iconst (v := 1) hx hb d_law_1188 (by decide) ?_
  refine lv_iadd hx hb d_law_1189 ?_
  refine va_sld hx hb hX hbl hbA hw.2.2.2.2.2 (six (k := 1) hi hL (by decide)) d_law_1190 ?_
  replace hw := hw.comm
  refine k_call2 (w := wM g qm) (wb := wX g qx σx) (As := [.int (xs (nI i + 1).toNatClampNeg)]) (rest := [.int r]) C hw (c_M_status (q := qm) hfm) cv_M_status k1758 (mr_0 C ⟨hw.1, hw.2.2.1, hw.2.2.2.2.2⟩) (by decide) (by decide) hcs hl.1 rfl (Nat.le_of_ble_eq_true rfl) d_law_1191 (fun H locs hw => ?_)
  replace hw := hw.comm
  show W p l e room_1 s m #[Value.ref b] below meth c H locs cells slots Q (F0 m 1194 ls [.int r, .int r])
  refine lv_icmp_eq (tgt := 1199) hx hb d_law_1194 (by decide) (fun _ => ?_) (fun cd => absurd rfl cd)
  exact next qx σx qm σm _ _ _ hR1 hw hl
