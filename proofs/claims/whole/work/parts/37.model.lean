section RC
variable {p : Program} {l : Launch} {e : Env} {R : Room} {s : State} {m : MethodId} {av : Array Value} {below : List Frame} {meth : Method} {c : Code} {H : Heap} {locs : List Loc} {cells slots : Nat} {Q : State → Prop}
variable {g : GX} {q : Nat → Nat} {ws tl : va_W} {A : Nat → Prop} {cc : ByteArray} {nL : Nat} {own : String} {ret0 : Option FieldType} {pc index : Nat} {ls : Array Slot} {rest : List Value} {h0 : Nat} {fs : List Value}
theorem cp_Model_tape (C : Cx g A p s m av meth c cc nL "BellHammerModel" ret0) (hin : meth.name = "<init>") (h : Wl g ((h0, .inr (9, fs)) :: tl) A s H locs) {v : Nat} (hl : 0 < fs.length) (hlink : Cond.fieldLink "BellHammerModel" index "BellHammerModel" "tape" "[I" ∈ tb) (hdg : decode cc pc = .ok (.putfield index, 3)) (kk : ∀ (H1 : Heap) (locs1 : List Loc), Wl g ((h0, .inr (9, fs.set 0 (.ref v))) :: tl) A s H1 locs1 → W p l e R s m av below meth c H1 locs1 cells slots Q (F0 m (pc + 3) ls rest)) : W p l e R s m av below meth c H locs cells slots Q (F0 m pc ls (.ref v :: .ref h0 :: rest)) := va_putF (C := RX11) (T := TX11) (N := 82) (ci := 9) (ty := .array .int) C.1 C.2.1 C.2.2.2.2.1 inX11 tyX11 tyX11_ok nmX11 C.2.2.2.1 C.2.2.2.2.2.1 h.1 h.2.1 h.2.2 0 rfl rfl 0 (by decide) (C.2.2.2.2.1 _ hlink) (fun _ z => z) rfl hin rfl (by decide +kernel) rfl rfl hl hdg (fun H1 locs1 hP hD hS => kk H1 locs1 ⟨hP, hD, hS⟩)
theorem cp_Model_faultPlace (C : Cx g A p s m av meth c cc nL "BellHammerModel" ret0) (h : Wl g ((h0, .inr (9, fs)) :: tl) A s H locs) {v : Int32} (hl : 8 < fs.length) (hlink : Cond.fieldLink "BellHammerModel" index "BellHammerModel" "faultPlace" "I" ∈ tb) (hdg : decode cc pc = .ok (.putfield index, 3)) (kk : ∀ (H1 : Heap) (locs1 : List Loc), Wl g ((h0, .inr (9, fs.set 8 (.int v))) :: tl) A s H1 locs1 → W p l e R s m av below meth c H1 locs1 cells slots Q (F0 m (pc + 3) ls rest)) : W p l e R s m av below meth c H locs cells slots Q (F0 m pc ls (.int v :: .ref h0 :: rest)) := va_put (C := RX11) (T := TX11) (N := 82) (ci := 9) (ty := .int) C.1 C.2.1 C.2.2.2.2.1 inX11 tyX11 tyX11_ok nmX11 C.2.2.2.1 C.2.2.2.2.2.1 h.1 h.2.1 h.2.2 0 rfl rfl 8 (by decide) (C.2.2.2.2.1 _ hlink) (fun _ z => z) rfl (by decide +kernel) rfl rfl hl hdg (fun H1 locs1 hP hD hS => kk H1 locs1 ⟨hP, hD, hS⟩)
theorem cp_Model_refused (C : Cx g A p s m av meth c cc nL "BellHammerModel" ret0) (hin : meth.name = "<init>") (h : Wl g ((h0, .inr (9, fs)) :: tl) A s H locs) {v : Nat} (hl : 9 < fs.length) (hlink : Cond.fieldLink "BellHammerModel" index "BellHammerModel" "refused" "[I" ∈ tb) (hdg : decode cc pc = .ok (.putfield index, 3)) (kk : ∀ (H1 : Heap) (locs1 : List Loc), Wl g ((h0, .inr (9, fs.set 9 (.ref v))) :: tl) A s H1 locs1 → W p l e R s m av below meth c H1 locs1 cells slots Q (F0 m (pc + 3) ls rest)) : W p l e R s m av below meth c H locs cells slots Q (F0 m pc ls (.ref v :: .ref h0 :: rest)) := va_putF (C := RX11) (T := TX11) (N := 82) (ci := 9) (ty := .array .int) C.1 C.2.1 C.2.2.2.2.1 inX11 tyX11 tyX11_ok nmX11 C.2.2.2.1 C.2.2.2.2.2.1 h.1 h.2.1 h.2.2 0 rfl rfl 9 (by decide) (C.2.2.2.2.1 _ hlink) (fun _ z => z) rfl hin rfl (by decide +kernel) rfl rfl hl hdg (fun H1 locs1 hP hD hS => kk H1 locs1 ⟨hP, hD, hS⟩)
theorem cp_Model_markWord (C : Cx g A p s m av meth c cc nL "BellHammerModel" ret0) (hin : meth.name = "<init>") (h : Wl g ((h0, .inr (9, fs)) :: tl) A s H locs) {v : Nat} (hl : 10 < fs.length) (hlink : Cond.fieldLink "BellHammerModel" index "BellHammerModel" "markWord" "[C" ∈ tb) (hdg : decode cc pc = .ok (.putfield index, 3)) (kk : ∀ (H1 : Heap) (locs1 : List Loc), Wl g ((h0, .inr (9, fs.set 10 (.ref v))) :: tl) A s H1 locs1 → W p l e R s m av below meth c H1 locs1 cells slots Q (F0 m (pc + 3) ls rest)) : W p l e R s m av below meth c H locs cells slots Q (F0 m pc ls (.ref v :: .ref h0 :: rest)) := va_putF (C := RX11) (T := TX11) (N := 82) (ci := 9) (ty := .array .char) C.1 C.2.1 C.2.2.2.2.1 inX11 tyX11 tyX11_ok nmX11 C.2.2.2.1 C.2.2.2.2.2.1 h.1 h.2.1 h.2.2 0 rfl rfl 10 (by decide) (C.2.2.2.2.1 _ hlink) (fun _ z => z) rfl hin rfl (by decide +kernel) rfl rfl hl hdg (fun H1 locs1 hP hD hS => kk H1 locs1 ⟨hP, hD, hS⟩)
theorem cp_Model_atWord (C : Cx g A p s m av meth c cc nL "BellHammerModel" ret0) (hin : meth.name = "<init>") (h : Wl g ((h0, .inr (9, fs)) :: tl) A s H locs) {v : Nat} (hl : 11 < fs.length) (hlink : Cond.fieldLink "BellHammerModel" index "BellHammerModel" "atWord" "[C" ∈ tb) (hdg : decode cc pc = .ok (.putfield index, 3)) (kk : ∀ (H1 : Heap) (locs1 : List Loc), Wl g ((h0, .inr (9, fs.set 11 (.ref v))) :: tl) A s H1 locs1 → W p l e R s m av below meth c H1 locs1 cells slots Q (F0 m (pc + 3) ls rest)) : W p l e R s m av below meth c H locs cells slots Q (F0 m pc ls (.ref v :: .ref h0 :: rest)) := va_putF (C := RX11) (T := TX11) (N := 82) (ci := 9) (ty := .array .char) C.1 C.2.1 C.2.2.2.2.1 inX11 tyX11 tyX11_ok nmX11 C.2.2.2.1 C.2.2.2.2.2.1 h.1 h.2.1 h.2.2 0 rfl rfl 11 (by decide) (C.2.2.2.2.1 _ hlink) (fun _ z => z) rfl hin rfl (by decide +kernel) rfl rfl hl hdg (fun H1 locs1 hP hD hS => kk H1 locs1 ⟨hP, hD, hS⟩)
theorem cp_Model_trierWord (C : Cx g A p s m av meth c cc nL "BellHammerModel" ret0) (hin : meth.name = "<init>") (h : Wl g ((h0, .inr (9, fs)) :: tl) A s H locs) {v : Nat} (hl : 12 < fs.length) (hlink : Cond.fieldLink "BellHammerModel" index "BellHammerModel" "trierWord" "[C" ∈ tb) (hdg : decode cc pc = .ok (.putfield index, 3)) (kk : ∀ (H1 : Heap) (locs1 : List Loc), Wl g ((h0, .inr (9, fs.set 12 (.ref v))) :: tl) A s H1 locs1 → W p l e R s m av below meth c H1 locs1 cells slots Q (F0 m (pc + 3) ls rest)) : W p l e R s m av below meth c H locs cells slots Q (F0 m pc ls (.ref v :: .ref h0 :: rest)) := va_putF (C := RX11) (T := TX11) (N := 82) (ci := 9) (ty := .array .char) C.1 C.2.1 C.2.2.2.2.1 inX11 tyX11 tyX11_ok nmX11 C.2.2.2.1 C.2.2.2.2.2.1 h.1 h.2.1 h.2.2 0 rfl rfl 12 (by decide) (C.2.2.2.2.1 _ hlink) (fun _ z => z) rfl hin rfl (by decide +kernel) rfl rfl hl hdg (fun H1 locs1 hP hD hS => kk H1 locs1 ⟨hP, hD, hS⟩)
theorem cp_Model_forceWord (C : Cx g A p s m av meth c cc nL "BellHammerModel" ret0) (hin : meth.name = "<init>") (h : Wl g ((h0, .inr (9, fs)) :: tl) A s H locs) {v : Nat} (hl : 13 < fs.length) (hlink : Cond.fieldLink "BellHammerModel" index "BellHammerModel" "forceWord" "[C" ∈ tb) (hdg : decode cc pc = .ok (.putfield index, 3)) (kk : ∀ (H1 : Heap) (locs1 : List Loc), Wl g ((h0, .inr (9, fs.set 13 (.ref v))) :: tl) A s H1 locs1 → W p l e R s m av below meth c H1 locs1 cells slots Q (F0 m (pc + 3) ls rest)) : W p l e R s m av below meth c H locs cells slots Q (F0 m pc ls (.ref v :: .ref h0 :: rest)) := va_putF (C := RX11) (T := TX11) (N := 82) (ci := 9) (ty := .array .char) C.1 C.2.1 C.2.2.2.2.1 inX11 tyX11 tyX11_ok nmX11 C.2.2.2.1 C.2.2.2.2.2.1 h.1 h.2.1 h.2.2 0 rfl rfl 13 (by decide) (C.2.2.2.2.1 _ hlink) (fun _ z => z) rfl hin rfl (by decide +kernel) rfl rfl hl hdg (fun H1 locs1 hP hD hS => kk H1 locs1 ⟨hP, hD, hS⟩)
theorem cp_Model_aimWord (C : Cx g A p s m av meth c cc nL "BellHammerModel" ret0) (hin : meth.name = "<init>") (h : Wl g ((h0, .inr (9, fs)) :: tl) A s H locs) {v : Nat} (hl : 14 < fs.length) (hlink : Cond.fieldLink "BellHammerModel" index "BellHammerModel" "aimWord" "[C" ∈ tb) (hdg : decode cc pc = .ok (.putfield index, 3)) (kk : ∀ (H1 : Heap) (locs1 : List Loc), Wl g ((h0, .inr (9, fs.set 14 (.ref v))) :: tl) A s H1 locs1 → W p l e R s m av below meth c H1 locs1 cells slots Q (F0 m (pc + 3) ls rest)) : W p l e R s m av below meth c H locs cells slots Q (F0 m pc ls (.ref v :: .ref h0 :: rest)) := va_putF (C := RX11) (T := TX11) (N := 82) (ci := 9) (ty := .array .char) C.1 C.2.1 C.2.2.2.2.1 inX11 tyX11 tyX11_ok nmX11 C.2.2.2.1 C.2.2.2.2.2.1 h.1 h.2.1 h.2.2 0 rfl rfl 14 (by decide) (C.2.2.2.2.1 _ hlink) (fun _ z => z) rfl hin rfl (by decide +kernel) rfl rfl hl hdg (fun H1 locs1 hP hD hS => kk H1 locs1 ⟨hP, hD, hS⟩)
theorem cp_Model_tiresWord (C : Cx g A p s m av meth c cc nL "BellHammerModel" ret0) (hin : meth.name = "<init>") (h : Wl g ((h0, .inr (9, fs)) :: tl) A s H locs) {v : Nat} (hl : 15 < fs.length) (hlink : Cond.fieldLink "BellHammerModel" index "BellHammerModel" "tiresWord" "[C" ∈ tb) (hdg : decode cc pc = .ok (.putfield index, 3)) (kk : ∀ (H1 : Heap) (locs1 : List Loc), Wl g ((h0, .inr (9, fs.set 15 (.ref v))) :: tl) A s H1 locs1 → W p l e R s m av below meth c H1 locs1 cells slots Q (F0 m (pc + 3) ls rest)) : W p l e R s m av below meth c H locs cells slots Q (F0 m pc ls (.ref v :: .ref h0 :: rest)) := va_putF (C := RX11) (T := TX11) (N := 82) (ci := 9) (ty := .array .char) C.1 C.2.1 C.2.2.2.2.1 inX11 tyX11 tyX11_ok nmX11 C.2.2.2.1 C.2.2.2.2.2.1 h.1 h.2.1 h.2.2 0 rfl rfl 15 (by decide) (C.2.2.2.2.1 _ hlink) (fun _ z => z) rfl hin rfl (by decide +kernel) rfl rfl hl hdg (fun H1 locs1 hP hD hS => kk H1 locs1 ⟨hP, hD, hS⟩)
theorem cp_Model_coinsWord (C : Cx g A p s m av meth c cc nL "BellHammerModel" ret0) (hin : meth.name = "<init>") (h : Wl g ((h0, .inr (9, fs)) :: tl) A s H locs) {v : Nat} (hl : 16 < fs.length) (hlink : Cond.fieldLink "BellHammerModel" index "BellHammerModel" "coinsWord" "[C" ∈ tb) (hdg : decode cc pc = .ok (.putfield index, 3)) (kk : ∀ (H1 : Heap) (locs1 : List Loc), Wl g ((h0, .inr (9, fs.set 16 (.ref v))) :: tl) A s H1 locs1 → W p l e R s m av below meth c H1 locs1 cells slots Q (F0 m (pc + 3) ls rest)) : W p l e R s m av below meth c H locs cells slots Q (F0 m pc ls (.ref v :: .ref h0 :: rest)) := va_putF (C := RX11) (T := TX11) (N := 82) (ci := 9) (ty := .array .char) C.1 C.2.1 C.2.2.2.2.1 inX11 tyX11 tyX11_ok nmX11 C.2.2.2.1 C.2.2.2.2.2.1 h.1 h.2.1 h.2.2 0 rfl rfl 16 (by decide) (C.2.2.2.2.1 _ hlink) (fun _ z => z) rfl hin rfl (by decide +kernel) rfl rfl hl hdg (fun H1 locs1 hP hD hS => kk H1 locs1 ⟨hP, hD, hS⟩)
theorem cp_Model_staysWord (C : Cx g A p s m av meth c cc nL "BellHammerModel" ret0) (hin : meth.name = "<init>") (h : Wl g ((h0, .inr (9, fs)) :: tl) A s H locs) {v : Nat} (hl : 17 < fs.length) (hlink : Cond.fieldLink "BellHammerModel" index "BellHammerModel" "staysWord" "[C" ∈ tb) (hdg : decode cc pc = .ok (.putfield index, 3)) (kk : ∀ (H1 : Heap) (locs1 : List Loc), Wl g ((h0, .inr (9, fs.set 17 (.ref v))) :: tl) A s H1 locs1 → W p l e R s m av below meth c H1 locs1 cells slots Q (F0 m (pc + 3) ls rest)) : W p l e R s m av below meth c H locs cells slots Q (F0 m pc ls (.ref v :: .ref h0 :: rest)) := va_putF (C := RX11) (T := TX11) (N := 82) (ci := 9) (ty := .array .char) C.1 C.2.1 C.2.2.2.2.1 inX11 tyX11 tyX11_ok nmX11 C.2.2.2.1 C.2.2.2.2.2.1 h.1 h.2.1 h.2.2 0 rfl rfl 17 (by decide) (C.2.2.2.2.1 _ hlink) (fun _ z => z) rfl hin rfl (by decide +kernel) rfl rfl hl hdg (fun H1 locs1 hP hD hS => kk H1 locs1 ⟨hP, hD, hS⟩)
theorem cp_Model_ladyWord (C : Cx g A p s m av meth c cc nL "BellHammerModel" ret0) (hin : meth.name = "<init>") (h : Wl g ((h0, .inr (9, fs)) :: tl) A s H locs) {v : Nat} (hl : 18 < fs.length) (hlink : Cond.fieldLink "BellHammerModel" index "BellHammerModel" "ladyWord" "[C" ∈ tb) (hdg : decode cc pc = .ok (.putfield index, 3)) (kk : ∀ (H1 : Heap) (locs1 : List Loc), Wl g ((h0, .inr (9, fs.set 18 (.ref v))) :: tl) A s H1 locs1 → W p l e R s m av below meth c H1 locs1 cells slots Q (F0 m (pc + 3) ls rest)) : W p l e R s m av below meth c H locs cells slots Q (F0 m pc ls (.ref v :: .ref h0 :: rest)) := va_putF (C := RX11) (T := TX11) (N := 82) (ci := 9) (ty := .array .char) C.1 C.2.1 C.2.2.2.2.1 inX11 tyX11 tyX11_ok nmX11 C.2.2.2.1 C.2.2.2.2.2.1 h.1 h.2.1 h.2.2 0 rfl rfl 18 (by decide) (C.2.2.2.2.1 _ hlink) (fun _ z => z) rfl hin rfl (by decide +kernel) rfl rfl hl hdg (fun H1 locs1 hP hD hS => kk H1 locs1 ⟨hP, hD, hS⟩)
theorem cp_Model_leanWord (C : Cx g A p s m av meth c cc nL "BellHammerModel" ret0) (hin : meth.name = "<init>") (h : Wl g ((h0, .inr (9, fs)) :: tl) A s H locs) {v : Nat} (hl : 19 < fs.length) (hlink : Cond.fieldLink "BellHammerModel" index "BellHammerModel" "leanWord" "[C" ∈ tb) (hdg : decode cc pc = .ok (.putfield index, 3)) (kk : ∀ (H1 : Heap) (locs1 : List Loc), Wl g ((h0, .inr (9, fs.set 19 (.ref v))) :: tl) A s H1 locs1 → W p l e R s m av below meth c H1 locs1 cells slots Q (F0 m (pc + 3) ls rest)) : W p l e R s m av below meth c H locs cells slots Q (F0 m pc ls (.ref v :: .ref h0 :: rest)) := va_putF (C := RX11) (T := TX11) (N := 82) (ci := 9) (ty := .array .char) C.1 C.2.1 C.2.2.2.2.1 inX11 tyX11 tyX11_ok nmX11 C.2.2.2.1 C.2.2.2.2.2.1 h.1 h.2.1 h.2.2 0 rfl rfl 19 (by decide) (C.2.2.2.2.1 _ hlink) (fun _ z => z) rfl hin rfl (by decide +kernel) rfl rfl hl hdg (fun H1 locs1 hP hD hS => kk H1 locs1 ⟨hP, hD, hS⟩)
theorem cp_Model_whenWord (C : Cx g A p s m av meth c cc nL "BellHammerModel" ret0) (hin : meth.name = "<init>") (h : Wl g ((h0, .inr (9, fs)) :: tl) A s H locs) {v : Nat} (hl : 20 < fs.length) (hlink : Cond.fieldLink "BellHammerModel" index "BellHammerModel" "whenWord" "[C" ∈ tb) (hdg : decode cc pc = .ok (.putfield index, 3)) (kk : ∀ (H1 : Heap) (locs1 : List Loc), Wl g ((h0, .inr (9, fs.set 20 (.ref v))) :: tl) A s H1 locs1 → W p l e R s m av below meth c H1 locs1 cells slots Q (F0 m (pc + 3) ls rest)) : W p l e R s m av below meth c H locs cells slots Q (F0 m pc ls (.ref v :: .ref h0 :: rest)) := va_putF (C := RX11) (T := TX11) (N := 82) (ci := 9) (ty := .array .char) C.1 C.2.1 C.2.2.2.2.1 inX11 tyX11 tyX11_ok nmX11 C.2.2.2.1 C.2.2.2.2.2.1 h.1 h.2.1 h.2.2 0 rfl rfl 20 (by decide) (C.2.2.2.2.1 _ hlink) (fun _ z => z) rfl hin rfl (by decide +kernel) rfl rfl hl hdg (fun H1 locs1 hP hD hS => kk H1 locs1 ⟨hP, hD, hS⟩)
theorem cp_Model_bellWord (C : Cx g A p s m av meth c cc nL "BellHammerModel" ret0) (hin : meth.name = "<init>") (h : Wl g ((h0, .inr (9, fs)) :: tl) A s H locs) {v : Nat} (hl : 21 < fs.length) (hlink : Cond.fieldLink "BellHammerModel" index "BellHammerModel" "bellWord" "[C" ∈ tb) (hdg : decode cc pc = .ok (.putfield index, 3)) (kk : ∀ (H1 : Heap) (locs1 : List Loc), Wl g ((h0, .inr (9, fs.set 21 (.ref v))) :: tl) A s H1 locs1 → W p l e R s m av below meth c H1 locs1 cells slots Q (F0 m (pc + 3) ls rest)) : W p l e R s m av below meth c H locs cells slots Q (F0 m pc ls (.ref v :: .ref h0 :: rest)) := va_putF (C := RX11) (T := TX11) (N := 82) (ci := 9) (ty := .array .char) C.1 C.2.1 C.2.2.2.2.1 inX11 tyX11 tyX11_ok nmX11 C.2.2.2.1 C.2.2.2.2.2.1 h.1 h.2.1 h.2.2 0 rfl rfl 21 (by decide) (C.2.2.2.2.1 _ hlink) (fun _ z => z) rfl hin rfl (by decide +kernel) rfl rfl hl hdg (fun H1 locs1 hP hD hS => kk H1 locs1 ⟨hP, hD, hS⟩)
theorem cp_Model_priceWord (C : Cx g A p s m av meth c cc nL "BellHammerModel" ret0) (hin : meth.name = "<init>") (h : Wl g ((h0, .inr (9, fs)) :: tl) A s H locs) {v : Nat} (hl : 22 < fs.length) (hlink : Cond.fieldLink "BellHammerModel" index "BellHammerModel" "priceWord" "[C" ∈ tb) (hdg : decode cc pc = .ok (.putfield index, 3)) (kk : ∀ (H1 : Heap) (locs1 : List Loc), Wl g ((h0, .inr (9, fs.set 22 (.ref v))) :: tl) A s H1 locs1 → W p l e R s m av below meth c H1 locs1 cells slots Q (F0 m (pc + 3) ls rest)) : W p l e R s m av below meth c H locs cells slots Q (F0 m pc ls (.ref v :: .ref h0 :: rest)) := va_putF (C := RX11) (T := TX11) (N := 82) (ci := 9) (ty := .array .char) C.1 C.2.1 C.2.2.2.2.1 inX11 tyX11 tyX11_ok nmX11 C.2.2.2.1 C.2.2.2.2.2.1 h.1 h.2.1 h.2.2 0 rfl rfl 22 (by decide) (C.2.2.2.2.1 _ hlink) (fun _ z => z) rfl hin rfl (by decide +kernel) rfl rfl hl hdg (fun H1 locs1 hP hD hS => kk H1 locs1 ⟨hP, hD, hS⟩)
theorem cp_Model_triesWord (C : Cx g A p s m av meth c cc nL "BellHammerModel" ret0) (hin : meth.name = "<init>") (h : Wl g ((h0, .inr (9, fs)) :: tl) A s H locs) {v : Nat} (hl : 23 < fs.length) (hlink : Cond.fieldLink "BellHammerModel" index "BellHammerModel" "triesWord" "[C" ∈ tb) (hdg : decode cc pc = .ok (.putfield index, 3)) (kk : ∀ (H1 : Heap) (locs1 : List Loc), Wl g ((h0, .inr (9, fs.set 23 (.ref v))) :: tl) A s H1 locs1 → W p l e R s m av below meth c H1 locs1 cells slots Q (F0 m (pc + 3) ls rest)) : W p l e R s m av below meth c H locs cells slots Q (F0 m pc ls (.ref v :: .ref h0 :: rest)) := va_putF (C := RX11) (T := TX11) (N := 82) (ci := 9) (ty := .array .char) C.1 C.2.1 C.2.2.2.2.1 inX11 tyX11 tyX11_ok nmX11 C.2.2.2.1 C.2.2.2.2.2.1 h.1 h.2.1 h.2.2 0 rfl rfl 23 (by decide) (C.2.2.2.2.1 _ hlink) (fun _ z => z) rfl hin rfl (by decide +kernel) rfl rfl hl hdg (fun H1 locs1 hP hD hS => kk H1 locs1 ⟨hP, hD, hS⟩)
theorem cp_Model_slackWord (C : Cx g A p s m av meth c cc nL "BellHammerModel" ret0) (hin : meth.name = "<init>") (h : Wl g ((h0, .inr (9, fs)) :: tl) A s H locs) {v : Nat} (hl : 24 < fs.length) (hlink : Cond.fieldLink "BellHammerModel" index "BellHammerModel" "slackWord" "[C" ∈ tb) (hdg : decode cc pc = .ok (.putfield index, 3)) (kk : ∀ (H1 : Heap) (locs1 : List Loc), Wl g ((h0, .inr (9, fs.set 24 (.ref v))) :: tl) A s H1 locs1 → W p l e R s m av below meth c H1 locs1 cells slots Q (F0 m (pc + 3) ls rest)) : W p l e R s m av below meth c H locs cells slots Q (F0 m pc ls (.ref v :: .ref h0 :: rest)) := va_putF (C := RX11) (T := TX11) (N := 82) (ci := 9) (ty := .array .char) C.1 C.2.1 C.2.2.2.2.1 inX11 tyX11 tyX11_ok nmX11 C.2.2.2.1 C.2.2.2.2.2.1 h.1 h.2.1 h.2.2 0 rfl rfl 24 (by decide) (C.2.2.2.2.1 _ hlink) (fun _ z => z) rfl hin rfl (by decide +kernel) rfl rfl hl hdg (fun H1 locs1 hP hD hS => kk H1 locs1 ⟨hP, hD, hS⟩)
theorem cp_Model_crowdWord (C : Cx g A p s m av meth c cc nL "BellHammerModel" ret0) (hin : meth.name = "<init>") (h : Wl g ((h0, .inr (9, fs)) :: tl) A s H locs) {v : Nat} (hl : 25 < fs.length) (hlink : Cond.fieldLink "BellHammerModel" index "BellHammerModel" "crowdWord" "[C" ∈ tb) (hdg : decode cc pc = .ok (.putfield index, 3)) (kk : ∀ (H1 : Heap) (locs1 : List Loc), Wl g ((h0, .inr (9, fs.set 25 (.ref v))) :: tl) A s H1 locs1 → W p l e R s m av below meth c H1 locs1 cells slots Q (F0 m (pc + 3) ls rest)) : W p l e R s m av below meth c H locs cells slots Q (F0 m pc ls (.ref v :: .ref h0 :: rest)) := va_putF (C := RX11) (T := TX11) (N := 82) (ci := 9) (ty := .array .char) C.1 C.2.1 C.2.2.2.2.1 inX11 tyX11 tyX11_ok nmX11 C.2.2.2.1 C.2.2.2.2.2.1 h.1 h.2.1 h.2.2 0 rfl rfl 25 (by decide) (C.2.2.2.2.1 _ hlink) (fun _ z => z) rfl hin rfl (by decide +kernel) rfl rfl hl hdg (fun H1 locs1 hP hD hS => kk H1 locs1 ⟨hP, hD, hS⟩)
theorem cp_Model_nearWord (C : Cx g A p s m av meth c cc nL "BellHammerModel" ret0) (hin : meth.name = "<init>") (h : Wl g ((h0, .inr (9, fs)) :: tl) A s H locs) {v : Nat} (hl : 26 < fs.length) (hlink : Cond.fieldLink "BellHammerModel" index "BellHammerModel" "nearWord" "[C" ∈ tb) (hdg : decode cc pc = .ok (.putfield index, 3)) (kk : ∀ (H1 : Heap) (locs1 : List Loc), Wl g ((h0, .inr (9, fs.set 26 (.ref v))) :: tl) A s H1 locs1 → W p l e R s m av below meth c H1 locs1 cells slots Q (F0 m (pc + 3) ls rest)) : W p l e R s m av below meth c H locs cells slots Q (F0 m pc ls (.ref v :: .ref h0 :: rest)) := va_putF (C := RX11) (T := TX11) (N := 82) (ci := 9) (ty := .array .char) C.1 C.2.1 C.2.2.2.2.1 inX11 tyX11 tyX11_ok nmX11 C.2.2.2.1 C.2.2.2.2.2.1 h.1 h.2.1 h.2.2 0 rfl rfl 26 (by decide) (C.2.2.2.2.1 _ hlink) (fun _ z => z) rfl hin rfl (by decide +kernel) rfl rfl hl hdg (fun H1 locs1 hP hD hS => kk H1 locs1 ⟨hP, hD, hS⟩)
theorem cp_Model_comesWord (C : Cx g A p s m av meth c cc nL "BellHammerModel" ret0) (hin : meth.name = "<init>") (h : Wl g ((h0, .inr (9, fs)) :: tl) A s H locs) {v : Nat} (hl : 27 < fs.length) (hlink : Cond.fieldLink "BellHammerModel" index "BellHammerModel" "comesWord" "[C" ∈ tb) (hdg : decode cc pc = .ok (.putfield index, 3)) (kk : ∀ (H1 : Heap) (locs1 : List Loc), Wl g ((h0, .inr (9, fs.set 27 (.ref v))) :: tl) A s H1 locs1 → W p l e R s m av below meth c H1 locs1 cells slots Q (F0 m (pc + 3) ls rest)) : W p l e R s m av below meth c H locs cells slots Q (F0 m pc ls (.ref v :: .ref h0 :: rest)) := va_putF (C := RX11) (T := TX11) (N := 82) (ci := 9) (ty := .array .char) C.1 C.2.1 C.2.2.2.2.1 inX11 tyX11 tyX11_ok nmX11 C.2.2.2.1 C.2.2.2.2.2.1 h.1 h.2.1 h.2.2 0 rfl rfl 27 (by decide) (C.2.2.2.2.1 _ hlink) (fun _ z => z) rfl hin rfl (by decide +kernel) rfl rfl hl hdg (fun H1 locs1 hP hD hS => kk H1 locs1 ⟨hP, hD, hS⟩)
theorem cp_Model_triedWord (C : Cx g A p s m av meth c cc nL "BellHammerModel" ret0) (hin : meth.name = "<init>") (h : Wl g ((h0, .inr (9, fs)) :: tl) A s H locs) {v : Nat} (hl : 28 < fs.length) (hlink : Cond.fieldLink "BellHammerModel" index "BellHammerModel" "triedWord" "[C" ∈ tb) (hdg : decode cc pc = .ok (.putfield index, 3)) (kk : ∀ (H1 : Heap) (locs1 : List Loc), Wl g ((h0, .inr (9, fs.set 28 (.ref v))) :: tl) A s H1 locs1 → W p l e R s m av below meth c H1 locs1 cells slots Q (F0 m (pc + 3) ls rest)) : W p l e R s m av below meth c H locs cells slots Q (F0 m pc ls (.ref v :: .ref h0 :: rest)) := va_putF (C := RX11) (T := TX11) (N := 82) (ci := 9) (ty := .array .char) C.1 C.2.1 C.2.2.2.2.1 inX11 tyX11 tyX11_ok nmX11 C.2.2.2.1 C.2.2.2.2.2.1 h.1 h.2.1 h.2.2 0 rfl rfl 28 (by decide) (C.2.2.2.2.1 _ hlink) (fun _ z => z) rfl hin rfl (by decide +kernel) rfl rfl hl hdg (fun H1 locs1 hP hD hS => kk H1 locs1 ⟨hP, hD, hS⟩)
theorem cp_Model_lastWord (C : Cx g A p s m av meth c cc nL "BellHammerModel" ret0) (hin : meth.name = "<init>") (h : Wl g ((h0, .inr (9, fs)) :: tl) A s H locs) {v : Nat} (hl : 29 < fs.length) (hlink : Cond.fieldLink "BellHammerModel" index "BellHammerModel" "lastWord" "[C" ∈ tb) (hdg : decode cc pc = .ok (.putfield index, 3)) (kk : ∀ (H1 : Heap) (locs1 : List Loc), Wl g ((h0, .inr (9, fs.set 29 (.ref v))) :: tl) A s H1 locs1 → W p l e R s m av below meth c H1 locs1 cells slots Q (F0 m (pc + 3) ls rest)) : W p l e R s m av below meth c H locs cells slots Q (F0 m pc ls (.ref v :: .ref h0 :: rest)) := va_putF (C := RX11) (T := TX11) (N := 82) (ci := 9) (ty := .array .char) C.1 C.2.1 C.2.2.2.2.1 inX11 tyX11 tyX11_ok nmX11 C.2.2.2.1 C.2.2.2.2.2.1 h.1 h.2.1 h.2.2 0 rfl rfl 29 (by decide) (C.2.2.2.2.1 _ hlink) (fun _ z => z) rfl hin rfl (by decide +kernel) rfl rfl hl hdg (fun H1 locs1 hP hD hS => kk H1 locs1 ⟨hP, hD, hS⟩)
theorem cp_Model_ringsWord (C : Cx g A p s m av meth c cc nL "BellHammerModel" ret0) (hin : meth.name = "<init>") (h : Wl g ((h0, .inr (9, fs)) :: tl) A s H locs) {v : Nat} (hl : 30 < fs.length) (hlink : Cond.fieldLink "BellHammerModel" index "BellHammerModel" "ringsWord" "[C" ∈ tb) (hdg : decode cc pc = .ok (.putfield index, 3)) (kk : ∀ (H1 : Heap) (locs1 : List Loc), Wl g ((h0, .inr (9, fs.set 30 (.ref v))) :: tl) A s H1 locs1 → W p l e R s m av below meth c H1 locs1 cells slots Q (F0 m (pc + 3) ls rest)) : W p l e R s m av below meth c H locs cells slots Q (F0 m pc ls (.ref v :: .ref h0 :: rest)) := va_putF (C := RX11) (T := TX11) (N := 82) (ci := 9) (ty := .array .char) C.1 C.2.1 C.2.2.2.2.1 inX11 tyX11 tyX11_ok nmX11 C.2.2.2.1 C.2.2.2.2.2.1 h.1 h.2.1 h.2.2 0 rfl rfl 30 (by decide) (C.2.2.2.2.1 _ hlink) (fun _ z => z) rfl hin rfl (by decide +kernel) rfl rfl hl hdg (fun H1 locs1 hP hD hS => kk H1 locs1 ⟨hP, hD, hS⟩)
theorem cp_Model_orWord (C : Cx g A p s m av meth c cc nL "BellHammerModel" ret0) (hin : meth.name = "<init>") (h : Wl g ((h0, .inr (9, fs)) :: tl) A s H locs) {v : Nat} (hl : 31 < fs.length) (hlink : Cond.fieldLink "BellHammerModel" index "BellHammerModel" "orWord" "[C" ∈ tb) (hdg : decode cc pc = .ok (.putfield index, 3)) (kk : ∀ (H1 : Heap) (locs1 : List Loc), Wl g ((h0, .inr (9, fs.set 31 (.ref v))) :: tl) A s H1 locs1 → W p l e R s m av below meth c H1 locs1 cells slots Q (F0 m (pc + 3) ls rest)) : W p l e R s m av below meth c H locs cells slots Q (F0 m pc ls (.ref v :: .ref h0 :: rest)) := va_putF (C := RX11) (T := TX11) (N := 82) (ci := 9) (ty := .array .char) C.1 C.2.1 C.2.2.2.2.1 inX11 tyX11 tyX11_ok nmX11 C.2.2.2.1 C.2.2.2.2.2.1 h.1 h.2.1 h.2.2 0 rfl rfl 31 (by decide) (C.2.2.2.2.1 _ hlink) (fun _ z => z) rfl hin rfl (by decide +kernel) rfl rfl hl hdg (fun H1 locs1 hP hD hS => kk H1 locs1 ⟨hP, hD, hS⟩)
theorem cp_Model_andWord (C : Cx g A p s m av meth c cc nL "BellHammerModel" ret0) (hin : meth.name = "<init>") (h : Wl g ((h0, .inr (9, fs)) :: tl) A s H locs) {v : Nat} (hl : 32 < fs.length) (hlink : Cond.fieldLink "BellHammerModel" index "BellHammerModel" "andWord" "[C" ∈ tb) (hdg : decode cc pc = .ok (.putfield index, 3)) (kk : ∀ (H1 : Heap) (locs1 : List Loc), Wl g ((h0, .inr (9, fs.set 32 (.ref v))) :: tl) A s H1 locs1 → W p l e R s m av below meth c H1 locs1 cells slots Q (F0 m (pc + 3) ls rest)) : W p l e R s m av below meth c H locs cells slots Q (F0 m pc ls (.ref v :: .ref h0 :: rest)) := va_putF (C := RX11) (T := TX11) (N := 82) (ci := 9) (ty := .array .char) C.1 C.2.1 C.2.2.2.2.1 inX11 tyX11 tyX11_ok nmX11 C.2.2.2.1 C.2.2.2.2.2.1 h.1 h.2.1 h.2.2 0 rfl rfl 32 (by decide) (C.2.2.2.2.1 _ hlink) (fun _ z => z) rfl hin rfl (by decide +kernel) rfl rfl hl hdg (fun H1 locs1 hP hD hS => kk H1 locs1 ⟨hP, hD, hS⟩)
theorem cp_Model_notWord (C : Cx g A p s m av meth c cc nL "BellHammerModel" ret0) (hin : meth.name = "<init>") (h : Wl g ((h0, .inr (9, fs)) :: tl) A s H locs) {v : Nat} (hl : 33 < fs.length) (hlink : Cond.fieldLink "BellHammerModel" index "BellHammerModel" "notWord" "[C" ∈ tb) (hdg : decode cc pc = .ok (.putfield index, 3)) (kk : ∀ (H1 : Heap) (locs1 : List Loc), Wl g ((h0, .inr (9, fs.set 33 (.ref v))) :: tl) A s H1 locs1 → W p l e R s m av below meth c H1 locs1 cells slots Q (F0 m (pc + 3) ls rest)) : W p l e R s m av below meth c H locs cells slots Q (F0 m pc ls (.ref v :: .ref h0 :: rest)) := va_putF (C := RX11) (T := TX11) (N := 82) (ci := 9) (ty := .array .char) C.1 C.2.1 C.2.2.2.2.1 inX11 tyX11 tyX11_ok nmX11 C.2.2.2.1 C.2.2.2.2.2.1 h.1 h.2.1 h.2.2 0 rfl rfl 33 (by decide) (C.2.2.2.2.1 _ hlink) (fun _ z => z) rfl hin rfl (by decide +kernel) rfl rfl hl hdg (fun H1 locs1 hP hD hS => kk H1 locs1 ⟨hP, hD, hS⟩)
theorem cp_Model_allWord (C : Cx g A p s m av meth c cc nL "BellHammerModel" ret0) (hin : meth.name = "<init>") (h : Wl g ((h0, .inr (9, fs)) :: tl) A s H locs) {v : Nat} (hl : 34 < fs.length) (hlink : Cond.fieldLink "BellHammerModel" index "BellHammerModel" "allWord" "[C" ∈ tb) (hdg : decode cc pc = .ok (.putfield index, 3)) (kk : ∀ (H1 : Heap) (locs1 : List Loc), Wl g ((h0, .inr (9, fs.set 34 (.ref v))) :: tl) A s H1 locs1 → W p l e R s m av below meth c H1 locs1 cells slots Q (F0 m (pc + 3) ls rest)) : W p l e R s m av below meth c H locs cells slots Q (F0 m pc ls (.ref v :: .ref h0 :: rest)) := va_putF (C := RX11) (T := TX11) (N := 82) (ci := 9) (ty := .array .char) C.1 C.2.1 C.2.2.2.2.1 inX11 tyX11 tyX11_ok nmX11 C.2.2.2.1 C.2.2.2.2.2.1 h.1 h.2.1 h.2.2 0 rfl rfl 34 (by decide) (C.2.2.2.2.1 _ hlink) (fun _ z => z) rfl hin rfl (by decide +kernel) rfl rfl hl hdg (fun H1 locs1 hP hD hS => kk H1 locs1 ⟨hP, hD, hS⟩)
theorem cp_Model_minWord (C : Cx g A p s m av meth c cc nL "BellHammerModel" ret0) (hin : meth.name = "<init>") (h : Wl g ((h0, .inr (9, fs)) :: tl) A s H locs) {v : Nat} (hl : 35 < fs.length) (hlink : Cond.fieldLink "BellHammerModel" index "BellHammerModel" "minWord" "[C" ∈ tb) (hdg : decode cc pc = .ok (.putfield index, 3)) (kk : ∀ (H1 : Heap) (locs1 : List Loc), Wl g ((h0, .inr (9, fs.set 35 (.ref v))) :: tl) A s H1 locs1 → W p l e R s m av below meth c H1 locs1 cells slots Q (F0 m (pc + 3) ls rest)) : W p l e R s m av below meth c H locs cells slots Q (F0 m pc ls (.ref v :: .ref h0 :: rest)) := va_putF (C := RX11) (T := TX11) (N := 82) (ci := 9) (ty := .array .char) C.1 C.2.1 C.2.2.2.2.1 inX11 tyX11 tyX11_ok nmX11 C.2.2.2.1 C.2.2.2.2.2.1 h.1 h.2.1 h.2.2 0 rfl rfl 35 (by decide) (C.2.2.2.2.1 _ hlink) (fun _ z => z) rfl hin rfl (by decide +kernel) rfl rfl hl hdg (fun H1 locs1 hP hD hS => kk H1 locs1 ⟨hP, hD, hS⟩)
theorem cp_Model_maxWord (C : Cx g A p s m av meth c cc nL "BellHammerModel" ret0) (hin : meth.name = "<init>") (h : Wl g ((h0, .inr (9, fs)) :: tl) A s H locs) {v : Nat} (hl : 36 < fs.length) (hlink : Cond.fieldLink "BellHammerModel" index "BellHammerModel" "maxWord" "[C" ∈ tb) (hdg : decode cc pc = .ok (.putfield index, 3)) (kk : ∀ (H1 : Heap) (locs1 : List Loc), Wl g ((h0, .inr (9, fs.set 36 (.ref v))) :: tl) A s H1 locs1 → W p l e R s m av below meth c H1 locs1 cells slots Q (F0 m (pc + 3) ls rest)) : W p l e R s m av below meth c H locs cells slots Q (F0 m pc ls (.ref v :: .ref h0 :: rest)) := va_putF (C := RX11) (T := TX11) (N := 82) (ci := 9) (ty := .array .char) C.1 C.2.1 C.2.2.2.2.1 inX11 tyX11 tyX11_ok nmX11 C.2.2.2.1 C.2.2.2.2.2.1 h.1 h.2.1 h.2.2 0 rfl rfl 36 (by decide) (C.2.2.2.2.1 _ hlink) (fun _ z => z) rfl hin rfl (by decide +kernel) rfl rfl hl hdg (fun H1 locs1 hP hD hS => kk H1 locs1 ⟨hP, hD, hS⟩)
theorem cp_Model_many (C : Cx g A p s m av meth c cc nL "BellHammerModel" ret0) (hin : meth.name = "<init>") (h : Wl g ((h0, .inr (9, fs)) :: tl) A s H locs) {v : Nat} (hl : 38 < fs.length) (hlink : Cond.fieldLink "BellHammerModel" index "BellHammerModel" "many" "[I" ∈ tb) (hdg : decode cc pc = .ok (.putfield index, 3)) (kk : ∀ (H1 : Heap) (locs1 : List Loc), Wl g ((h0, .inr (9, fs.set 38 (.ref v))) :: tl) A s H1 locs1 → W p l e R s m av below meth c H1 locs1 cells slots Q (F0 m (pc + 3) ls rest)) : W p l e R s m av below meth c H locs cells slots Q (F0 m pc ls (.ref v :: .ref h0 :: rest)) := va_putF (C := RX11) (T := TX11) (N := 82) (ci := 9) (ty := .array .int) C.1 C.2.1 C.2.2.2.2.1 inX11 tyX11 tyX11_ok nmX11 C.2.2.2.1 C.2.2.2.2.2.1 h.1 h.2.1 h.2.2 0 rfl rfl 38 (by decide) (C.2.2.2.2.1 _ hlink) (fun _ z => z) rfl hin rfl (by decide +kernel) rfl rfl hl hdg (fun H1 locs1 hP hD hS => kk H1 locs1 ⟨hP, hD, hS⟩)
theorem cp_Model_names (C : Cx g A p s m av meth c cc nL "BellHammerModel" ret0) (hin : meth.name = "<init>") (h : Wl g ((h0, .inr (9, fs)) :: tl) A s H locs) {v : Nat} (hl : 39 < fs.length) (hlink : Cond.fieldLink "BellHammerModel" index "BellHammerModel" "names" "[J" ∈ tb) (hdg : decode cc pc = .ok (.putfield index, 3)) (kk : ∀ (H1 : Heap) (locs1 : List Loc), Wl g ((h0, .inr (9, fs.set 39 (.ref v))) :: tl) A s H1 locs1 → W p l e R s m av below meth c H1 locs1 cells slots Q (F0 m (pc + 3) ls rest)) : W p l e R s m av below meth c H locs cells slots Q (F0 m pc ls (.ref v :: .ref h0 :: rest)) := va_putF (C := RX11) (T := TX11) (N := 82) (ci := 9) (ty := .array .long) C.1 C.2.1 C.2.2.2.2.1 inX11 tyX11 tyX11_ok nmX11 C.2.2.2.1 C.2.2.2.2.2.1 h.1 h.2.1 h.2.2 0 rfl rfl 39 (by decide) (C.2.2.2.2.1 _ hlink) (fun _ z => z) rfl hin rfl (by decide +kernel) rfl rfl hl hdg (fun H1 locs1 hP hD hS => kk H1 locs1 ⟨hP, hD, hS⟩)
theorem cp_Model_marks (C : Cx g A p s m av meth c cc nL "BellHammerModel" ret0) (hin : meth.name = "<init>") (h : Wl g ((h0, .inr (9, fs)) :: tl) A s H locs) {v : Nat} (hl : 40 < fs.length) (hlink : Cond.fieldLink "BellHammerModel" index "BellHammerModel" "marks" "[I" ∈ tb) (hdg : decode cc pc = .ok (.putfield index, 3)) (kk : ∀ (H1 : Heap) (locs1 : List Loc), Wl g ((h0, .inr (9, fs.set 40 (.ref v))) :: tl) A s H1 locs1 → W p l e R s m av below meth c H1 locs1 cells slots Q (F0 m (pc + 3) ls rest)) : W p l e R s m av below meth c H locs cells slots Q (F0 m pc ls (.ref v :: .ref h0 :: rest)) := va_putF (C := RX11) (T := TX11) (N := 82) (ci := 9) (ty := .array .int) C.1 C.2.1 C.2.2.2.2.1 inX11 tyX11 tyX11_ok nmX11 C.2.2.2.1 C.2.2.2.2.2.1 h.1 h.2.1 h.2.2 0 rfl rfl 40 (by decide) (C.2.2.2.2.1 _ hlink) (fun _ z => z) rfl hin rfl (by decide +kernel) rfl rfl hl hdg (fun H1 locs1 hP hD hS => kk H1 locs1 ⟨hP, hD, hS⟩)
theorem cp_Model_triers (C : Cx g A p s m av meth c cc nL "BellHammerModel" ret0) (hin : meth.name = "<init>") (h : Wl g ((h0, .inr (9, fs)) :: tl) A s H locs) {v : Nat} (hl : 41 < fs.length) (hlink : Cond.fieldLink "BellHammerModel" index "BellHammerModel" "triers" "[I" ∈ tb) (hdg : decode cc pc = .ok (.putfield index, 3)) (kk : ∀ (H1 : Heap) (locs1 : List Loc), Wl g ((h0, .inr (9, fs.set 41 (.ref v))) :: tl) A s H1 locs1 → W p l e R s m av below meth c H1 locs1 cells slots Q (F0 m (pc + 3) ls rest)) : W p l e R s m av below meth c H locs cells slots Q (F0 m pc ls (.ref v :: .ref h0 :: rest)) := va_putF (C := RX11) (T := TX11) (N := 82) (ci := 9) (ty := .array .int) C.1 C.2.1 C.2.2.2.2.1 inX11 tyX11 tyX11_ok nmX11 C.2.2.2.1 C.2.2.2.2.2.1 h.1 h.2.1 h.2.2 0 rfl rfl 41 (by decide) (C.2.2.2.2.1 _ hlink) (fun _ z => z) rfl hin rfl (by decide +kernel) rfl rfl hl hdg (fun H1 locs1 hP hD hS => kk H1 locs1 ⟨hP, hD, hS⟩)
theorem cp_Model_told (C : Cx g A p s m av meth c cc nL "BellHammerModel" ret0) (hin : meth.name = "<init>") (h : Wl g ((h0, .inr (9, fs)) :: tl) A s H locs) {v : Nat} (hl : 42 < fs.length) (hlink : Cond.fieldLink "BellHammerModel" index "BellHammerModel" "told" "[I" ∈ tb) (hdg : decode cc pc = .ok (.putfield index, 3)) (kk : ∀ (H1 : Heap) (locs1 : List Loc), Wl g ((h0, .inr (9, fs.set 42 (.ref v))) :: tl) A s H1 locs1 → W p l e R s m av below meth c H1 locs1 cells slots Q (F0 m (pc + 3) ls rest)) : W p l e R s m av below meth c H locs cells slots Q (F0 m pc ls (.ref v :: .ref h0 :: rest)) := va_putF (C := RX11) (T := TX11) (N := 82) (ci := 9) (ty := .array .int) C.1 C.2.1 C.2.2.2.2.1 inX11 tyX11 tyX11_ok nmX11 C.2.2.2.1 C.2.2.2.2.2.1 h.1 h.2.1 h.2.2 0 rfl rfl 42 (by decide) (C.2.2.2.2.1 _ hlink) (fun _ z => z) rfl hin rfl (by decide +kernel) rfl rfl hl hdg (fun H1 locs1 hP hD hS => kk H1 locs1 ⟨hP, hD, hS⟩)
theorem cp_Model_codes (C : Cx g A p s m av meth c cc nL "BellHammerModel" ret0) (hin : meth.name = "<init>") (h : Wl g ((h0, .inr (9, fs)) :: tl) A s H locs) {v : Nat} (hl : 44 < fs.length) (hlink : Cond.fieldLink "BellHammerModel" index "BellHammerModel" "codes" "[I" ∈ tb) (hdg : decode cc pc = .ok (.putfield index, 3)) (kk : ∀ (H1 : Heap) (locs1 : List Loc), Wl g ((h0, .inr (9, fs.set 44 (.ref v))) :: tl) A s H1 locs1 → W p l e R s m av below meth c H1 locs1 cells slots Q (F0 m (pc + 3) ls rest)) : W p l e R s m av below meth c H locs cells slots Q (F0 m pc ls (.ref v :: .ref h0 :: rest)) := va_putF (C := RX11) (T := TX11) (N := 82) (ci := 9) (ty := .array .int) C.1 C.2.1 C.2.2.2.2.1 inX11 tyX11 tyX11_ok nmX11 C.2.2.2.1 C.2.2.2.2.2.1 h.1 h.2.1 h.2.2 0 rfl rfl 44 (by decide) (C.2.2.2.2.1 _ hlink) (fun _ z => z) rfl hin rfl (by decide +kernel) rfl rfl hl hdg (fun H1 locs1 hP hD hS => kk H1 locs1 ⟨hP, hD, hS⟩)
theorem cp_Model_wait (C : Cx g A p s m av meth c cc nL "BellHammerModel" ret0) (hin : meth.name = "<init>") (h : Wl g ((h0, .inr (9, fs)) :: tl) A s H locs) {v : Nat} (hl : 46 < fs.length) (hlink : Cond.fieldLink "BellHammerModel" index "BellHammerModel" "wait" "[I" ∈ tb) (hdg : decode cc pc = .ok (.putfield index, 3)) (kk : ∀ (H1 : Heap) (locs1 : List Loc), Wl g ((h0, .inr (9, fs.set 46 (.ref v))) :: tl) A s H1 locs1 → W p l e R s m av below meth c H1 locs1 cells slots Q (F0 m (pc + 3) ls rest)) : W p l e R s m av below meth c H locs cells slots Q (F0 m pc ls (.ref v :: .ref h0 :: rest)) := va_putF (C := RX11) (T := TX11) (N := 82) (ci := 9) (ty := .array .int) C.1 C.2.1 C.2.2.2.2.1 inX11 tyX11 tyX11_ok nmX11 C.2.2.2.1 C.2.2.2.2.2.1 h.1 h.2.1 h.2.2 0 rfl rfl 46 (by decide) (C.2.2.2.2.1 _ hlink) (fun _ z => z) rfl hin rfl (by decide +kernel) rfl rfl hl hdg (fun H1 locs1 hP hD hS => kk H1 locs1 ⟨hP, hD, hS⟩)
theorem cp_Model_testFrom (C : Cx g A p s m av meth c cc nL "BellHammerModel" ret0) (hin : meth.name = "<init>") (h : Wl g ((h0, .inr (9, fs)) :: tl) A s H locs) {v : Nat} (hl : 49 < fs.length) (hlink : Cond.fieldLink "BellHammerModel" index "BellHammerModel" "testFrom" "[I" ∈ tb) (hdg : decode cc pc = .ok (.putfield index, 3)) (kk : ∀ (H1 : Heap) (locs1 : List Loc), Wl g ((h0, .inr (9, fs.set 49 (.ref v))) :: tl) A s H1 locs1 → W p l e R s m av below meth c H1 locs1 cells slots Q (F0 m (pc + 3) ls rest)) : W p l e R s m av below meth c H locs cells slots Q (F0 m pc ls (.ref v :: .ref h0 :: rest)) := va_putF (C := RX11) (T := TX11) (N := 82) (ci := 9) (ty := .array .int) C.1 C.2.1 C.2.2.2.2.1 inX11 tyX11 tyX11_ok nmX11 C.2.2.2.1 C.2.2.2.2.2.1 h.1 h.2.1 h.2.2 0 rfl rfl 49 (by decide) (C.2.2.2.2.1 _ hlink) (fun _ z => z) rfl hin rfl (by decide +kernel) rfl rfl hl hdg (fun H1 locs1 hP hD hS => kk H1 locs1 ⟨hP, hD, hS⟩)
theorem cp_Model_testEnd (C : Cx g A p s m av meth c cc nL "BellHammerModel" ret0) (hin : meth.name = "<init>") (h : Wl g ((h0, .inr (9, fs)) :: tl) A s H locs) {v : Nat} (hl : 50 < fs.length) (hlink : Cond.fieldLink "BellHammerModel" index "BellHammerModel" "testEnd" "[I" ∈ tb) (hdg : decode cc pc = .ok (.putfield index, 3)) (kk : ∀ (H1 : Heap) (locs1 : List Loc), Wl g ((h0, .inr (9, fs.set 50 (.ref v))) :: tl) A s H1 locs1 → W p l e R s m av below meth c H1 locs1 cells slots Q (F0 m (pc + 3) ls rest)) : W p l e R s m av below meth c H locs cells slots Q (F0 m pc ls (.ref v :: .ref h0 :: rest)) := va_putF (C := RX11) (T := TX11) (N := 82) (ci := 9) (ty := .array .int) C.1 C.2.1 C.2.2.2.2.1 inX11 tyX11 tyX11_ok nmX11 C.2.2.2.1 C.2.2.2.2.2.1 h.1 h.2.1 h.2.2 0 rfl rfl 50 (by decide) (C.2.2.2.2.1 _ hlink) (fun _ z => z) rfl hin rfl (by decide +kernel) rfl rfl hl hdg (fun H1 locs1 hP hD hS => kk H1 locs1 ⟨hP, hD, hS⟩)
theorem cp_Model_pile (C : Cx g A p s m av meth c cc nL "BellHammerModel" ret0) (hin : meth.name = "<init>") (h : Wl g ((h0, .inr (9, fs)) :: tl) A s H locs) {v : Nat} (hl : 52 < fs.length) (hlink : Cond.fieldLink "BellHammerModel" index "BellHammerModel" "pile" "[J" ∈ tb) (hdg : decode cc pc = .ok (.putfield index, 3)) (kk : ∀ (H1 : Heap) (locs1 : List Loc), Wl g ((h0, .inr (9, fs.set 52 (.ref v))) :: tl) A s H1 locs1 → W p l e R s m av below meth c H1 locs1 cells slots Q (F0 m (pc + 3) ls rest)) : W p l e R s m av below meth c H locs cells slots Q (F0 m pc ls (.ref v :: .ref h0 :: rest)) := va_putF (C := RX11) (T := TX11) (N := 82) (ci := 9) (ty := .array .long) C.1 C.2.1 C.2.2.2.2.1 inX11 tyX11 tyX11_ok nmX11 C.2.2.2.1 C.2.2.2.2.2.1 h.1 h.2.1 h.2.2 0 rfl rfl 52 (by decide) (C.2.2.2.2.1 _ hlink) (fun _ z => z) rfl hin rfl (by decide +kernel) rfl rfl hl hdg (fun H1 locs1 hP hD hS => kk H1 locs1 ⟨hP, hD, hS⟩)
theorem cp_Model_ask (C : Cx g A p s m av meth c cc nL "BellHammerModel" ret0) (hin : meth.name = "<init>") (h : Wl g ((h0, .inr (9, fs)) :: tl) A s H locs) {v : Nat} (hl : 54 < fs.length) (hlink : Cond.fieldLink "BellHammerModel" index "BellHammerModel" "ask" "[I" ∈ tb) (hdg : decode cc pc = .ok (.putfield index, 3)) (kk : ∀ (H1 : Heap) (locs1 : List Loc), Wl g ((h0, .inr (9, fs.set 54 (.ref v))) :: tl) A s H1 locs1 → W p l e R s m av below meth c H1 locs1 cells slots Q (F0 m (pc + 3) ls rest)) : W p l e R s m av below meth c H locs cells slots Q (F0 m pc ls (.ref v :: .ref h0 :: rest)) := va_putF (C := RX11) (T := TX11) (N := 82) (ci := 9) (ty := .array .int) C.1 C.2.1 C.2.2.2.2.1 inX11 tyX11 tyX11_ok nmX11 C.2.2.2.1 C.2.2.2.2.2.1 h.1 h.2.1 h.2.2 0 rfl rfl 54 (by decide) (C.2.2.2.2.1 _ hlink) (fun _ z => z) rfl hin rfl (by decide +kernel) rfl rfl hl hdg (fun H1 locs1 hP hD hS => kk H1 locs1 ⟨hP, hD, hS⟩)
theorem cp_Model_now (C : Cx g A p s m av meth c cc nL "BellHammerModel" ret0) (hin : meth.name = "<init>") (h : Wl g ((h0, .inr (9, fs)) :: tl) A s H locs) {v : Nat} (hl : 55 < fs.length) (hlink : Cond.fieldLink "BellHammerModel" index "BellHammerModel" "now" "[I" ∈ tb) (hdg : decode cc pc = .ok (.putfield index, 3)) (kk : ∀ (H1 : Heap) (locs1 : List Loc), Wl g ((h0, .inr (9, fs.set 55 (.ref v))) :: tl) A s H1 locs1 → W p l e R s m av below meth c H1 locs1 cells slots Q (F0 m (pc + 3) ls rest)) : W p l e R s m av below meth c H locs cells slots Q (F0 m pc ls (.ref v :: .ref h0 :: rest)) := va_putF (C := RX11) (T := TX11) (N := 82) (ci := 9) (ty := .array .int) C.1 C.2.1 C.2.2.2.2.1 inX11 tyX11 tyX11_ok nmX11 C.2.2.2.1 C.2.2.2.2.2.1 h.1 h.2.1 h.2.2 0 rfl rfl 55 (by decide) (C.2.2.2.2.1 _ hlink) (fun _ z => z) rfl hin rfl (by decide +kernel) rfl rfl hl hdg (fun H1 locs1 hP hD hS => kk H1 locs1 ⟨hP, hD, hS⟩)
theorem cp_Model_blows (C : Cx g A p s m av meth c cc nL "BellHammerModel" ret0) (hin : meth.name = "<init>") (h : Wl g ((h0, .inr (9, fs)) :: tl) A s H locs) {v : Nat} (hl : 56 < fs.length) (hlink : Cond.fieldLink "BellHammerModel" index "BellHammerModel" "blows" "[I" ∈ tb) (hdg : decode cc pc = .ok (.putfield index, 3)) (kk : ∀ (H1 : Heap) (locs1 : List Loc), Wl g ((h0, .inr (9, fs.set 56 (.ref v))) :: tl) A s H1 locs1 → W p l e R s m av below meth c H1 locs1 cells slots Q (F0 m (pc + 3) ls rest)) : W p l e R s m av below meth c H locs cells slots Q (F0 m pc ls (.ref v :: .ref h0 :: rest)) := va_putF (C := RX11) (T := TX11) (N := 82) (ci := 9) (ty := .array .int) C.1 C.2.1 C.2.2.2.2.1 inX11 tyX11 tyX11_ok nmX11 C.2.2.2.1 C.2.2.2.2.2.1 h.1 h.2.1 h.2.2 0 rfl rfl 56 (by decide) (C.2.2.2.2.1 _ hlink) (fun _ z => z) rfl hin rfl (by decide +kernel) rfl rfl hl hdg (fun H1 locs1 hP hD hS => kk H1 locs1 ⟨hP, hD, hS⟩)
theorem cp_Model_keptNow (C : Cx g A p s m av meth c cc nL "BellHammerModel" ret0) (hin : meth.name = "<init>") (h : Wl g ((h0, .inr (9, fs)) :: tl) A s H locs) {v : Nat} (hl : 73 < fs.length) (hlink : Cond.fieldLink "BellHammerModel" index "BellHammerModel" "keptNow" "[I" ∈ tb) (hdg : decode cc pc = .ok (.putfield index, 3)) (kk : ∀ (H1 : Heap) (locs1 : List Loc), Wl g ((h0, .inr (9, fs.set 73 (.ref v))) :: tl) A s H1 locs1 → W p l e R s m av below meth c H1 locs1 cells slots Q (F0 m (pc + 3) ls rest)) : W p l e R s m av below meth c H locs cells slots Q (F0 m pc ls (.ref v :: .ref h0 :: rest)) := va_putF (C := RX11) (T := TX11) (N := 82) (ci := 9) (ty := .array .int) C.1 C.2.1 C.2.2.2.2.1 inX11 tyX11 tyX11_ok nmX11 C.2.2.2.1 C.2.2.2.2.2.1 h.1 h.2.1 h.2.2 0 rfl rfl 73 (by decide) (C.2.2.2.2.1 _ hlink) (fun _ z => z) rfl hin rfl (by decide +kernel) rfl rfl hl hdg (fun H1 locs1 hP hD hS => kk H1 locs1 ⟨hP, hD, hS⟩)
theorem cp_Model_seeded (C : Cx g A p s m av meth c cc nL "BellHammerModel" ret0) (h : Wl g ((h0, .inr (9, fs)) :: tl) A s H locs) {v : Int64} (hl : 76 < fs.length) (hlink : Cond.fieldLink "BellHammerModel" index "BellHammerModel" "seeded" "J" ∈ tb) (hdg : decode cc pc = .ok (.putfield index, 3)) (kk : ∀ (H1 : Heap) (locs1 : List Loc), Wl g ((h0, .inr (9, fs.set 76 (.long v))) :: tl) A s H1 locs1 → W p l e R s m av below meth c H1 locs1 cells slots Q (F0 m (pc + 3) ls rest)) : W p l e R s m av below meth c H locs cells slots Q (F0 m pc ls (.long v :: .ref h0 :: rest)) := va_put (C := RX11) (T := TX11) (N := 82) (ci := 9) (ty := .long) C.1 C.2.1 C.2.2.2.2.1 inX11 tyX11 tyX11_ok nmX11 C.2.2.2.1 C.2.2.2.2.2.1 h.1 h.2.1 h.2.2 0 rfl rfl 76 (by decide) (C.2.2.2.2.1 _ hlink) (fun _ z => z) rfl (by decide +kernel) rfl rfl hl hdg (fun H1 locs1 hP hD hS => kk H1 locs1 ⟨hP, hD, hS⟩)
theorem cp_Model_seen (C : Cx g A p s m av meth c cc nL "BellHammerModel" ret0) (hin : meth.name = "<init>") (h : Wl g ((h0, .inr (9, fs)) :: tl) A s H locs) {v : Nat} (hl : 79 < fs.length) (hlink : Cond.fieldLink "BellHammerModel" index "BellHammerModel" "seen" "[I" ∈ tb) (hdg : decode cc pc = .ok (.putfield index, 3)) (kk : ∀ (H1 : Heap) (locs1 : List Loc), Wl g ((h0, .inr (9, fs.set 79 (.ref v))) :: tl) A s H1 locs1 → W p l e R s m av below meth c H1 locs1 cells slots Q (F0 m (pc + 3) ls rest)) : W p l e R s m av below meth c H locs cells slots Q (F0 m pc ls (.ref v :: .ref h0 :: rest)) := va_putF (C := RX11) (T := TX11) (N := 82) (ci := 9) (ty := .array .int) C.1 C.2.1 C.2.2.2.2.1 inX11 tyX11 tyX11_ok nmX11 C.2.2.2.1 C.2.2.2.2.2.1 h.1 h.2.1 h.2.2 0 rfl rfl 79 (by decide) (C.2.2.2.2.1 _ hlink) (fun _ z => z) rfl hin rfl (by decide +kernel) rfl rfl hl hdg (fun H1 locs1 hP hD hS => kk H1 locs1 ⟨hP, hD, hS⟩)
theorem cp_Model_octet (C : Cx g A p s m av meth c cc nL "BellHammerModel" ret0) (hin : meth.name = "<init>") (h : Wl g ((h0, .inr (9, fs)) :: tl) A s H locs) {v : Nat} (hl : 80 < fs.length) (hlink : Cond.fieldLink "BellHammerModel" index "BellHammerModel" "octet" "[I" ∈ tb) (hdg : decode cc pc = .ok (.putfield index, 3)) (kk : ∀ (H1 : Heap) (locs1 : List Loc), Wl g ((h0, .inr (9, fs.set 80 (.ref v))) :: tl) A s H1 locs1 → W p l e R s m av below meth c H1 locs1 cells slots Q (F0 m (pc + 3) ls rest)) : W p l e R s m av below meth c H locs cells slots Q (F0 m pc ls (.ref v :: .ref h0 :: rest)) := va_putF (C := RX11) (T := TX11) (N := 82) (ci := 9) (ty := .array .int) C.1 C.2.1 C.2.2.2.2.1 inX11 tyX11 tyX11_ok nmX11 C.2.2.2.1 C.2.2.2.2.2.1 h.1 h.2.1 h.2.2 0 rfl rfl 80 (by decide) (C.2.2.2.2.1 _ hlink) (fun _ z => z) rfl hin rfl (by decide +kernel) rfl rfl hl hdg (fun H1 locs1 hP hD hS => kk H1 locs1 ⟨hP, hD, hS⟩)
set_option maxHeartbeats 4000000 in
theorem sgm_0 (C : Cx g A p s m av meth c prog_13_method_1_code 1 "BellHammerModel" none) (hin : meth.name = "<init>") (hl : lv_has ls 1 [(0, .ref h0)]) (hfl : fs.length = 82) (h : Wl g ((h0, .inr (9, fs)) :: tl) A s H locs) (hc : cells + 1 ≤ R.cells) (hs : slots + 1600 ≤ R.slots) (kk : ∀ (q : Nat) (H : Heap) (locs : List Loc), Wl g ((h0, .inr (9, fs.set 0 (.ref q))) :: (tl ++ [(q, .inl (g.2.1.1, 1600, .inl (fun _ => 0)))])) A s H locs → W p l e R s m av below meth c H locs (cells + 1) (slots + 1600) Q (F0 m 13 ls [])) : W p l e R s m av below meth c H locs cells slots Q (F0 m 4 ls []) := by
  obtain ⟨hx, hb, hml, hown, hts, hK, hA, hZ, hlocks, hr, hN⟩ := id C
  refine lv_aload_n hx hb d_AModel_4 rfl (lv_at hl 0 rfl) ?_
  refine lv_sipush (v := 1600) hx hb d_AModel_5 (by decide) ?_
  refine k_newi C h (by decide) rfl (Nat.le_of_ble_eq_true rfl) hc hs d_AModel_8 (fun q H h => ?_)
  refine cp_Model_tape C hin h (by rw [hfl]; decide) k1094 d_AModel_10 (fun H locs h => ?_)
  exact kk _ _ _ h
set_option maxHeartbeats 4000000 in
theorem sgm_1 (C : Cx g A p s m av meth c prog_13_method_1_code 1 "BellHammerModel" none) (hin : meth.name = "<init>") (hl : lv_has ls 1 [(0, .ref h0)]) (hfl : fs.length = 82) (h : Wl g ((h0, .inr (9, fs)) :: tl) A s H locs) (kk : ∀ (H : Heap) (locs : List Loc), Wl g ((h0, .inr (9, fs.set 8 (.int (-1)))) :: tl) A s H locs → W p l e R s m av below meth c H locs cells slots Q (F0 m 18 ls [])) : W p l e R s m av below meth c H locs cells slots Q (F0 m 13 ls []) := by
  obtain ⟨hx, hb, hml, hown, hts, hK, hA, hZ, hlocks, hr, hN⟩ := id C
  refine lv_aload_n hx hb d_AModel_13 rfl (lv_at hl 0 rfl) ?_
  refine lv_iconst (v := (-1)) hx hb d_AModel_14 (by decide) ?_
  refine cp_Model_faultPlace C h (by rw [hfl]; decide) k1102 d_AModel_15 (fun H locs h => ?_)
  exact kk _ _ h
set_option maxHeartbeats 4000000 in
theorem sgm_2 (C : Cx g A p s m av meth c prog_13_method_1_code 1 "BellHammerModel" none) (hin : meth.name = "<init>") (hl : lv_has ls 1 [(0, .ref h0)]) (hfl : fs.length = 82) (h : Wl g ((h0, .inr (9, fs)) :: tl) A s H locs) (hc : cells + 1 ≤ R.cells) (hs : slots + 6 ≤ R.slots) (kk : ∀ (q : Nat) (H : Heap) (locs : List Loc), Wl g ((h0, .inr (9, fs.set 9 (.ref q))) :: (tl ++ [(q, .inl (g.2.1.1, 6, .inl (fun _ => 0)))])) A s H locs → W p l e R s m av below meth c H locs (cells + 1) (slots + 6) Q (F0 m 26 ls [])) : W p l e R s m av below meth c H locs cells slots Q (F0 m 18 ls []) := by
  obtain ⟨hx, hb, hml, hown, hts, hK, hA, hZ, hlocks, hr, hN⟩ := id C
  refine lv_aload_n hx hb d_AModel_18 rfl (lv_at hl 0 rfl) ?_
  refine lv_bipush (v := 6) hx hb d_AModel_19 (by decide) ?_
  refine k_newi C h (by decide) rfl (Nat.le_of_ble_eq_true rfl) hc hs d_AModel_21 (fun q H h => ?_)
  refine cp_Model_refused C hin h (by rw [hfl]; decide) k1103 d_AModel_23 (fun H locs h => ?_)
  exact kk _ _ _ h
set_option maxHeartbeats 4000000 in
theorem sgm_3 (C : Cx g A p s m av meth c prog_13_method_1_code 1 "BellHammerModel" none) (hin : meth.name = "<init>") (hl : lv_has ls 1 [(0, .ref h0)]) (hfl : fs.length = 82) (h : Wl g ((h0, .inr (9, fs)) :: tl) A s H locs) (hc : cells + 1 ≤ R.cells) (hs : slots + 4 ≤ R.slots) (kk : ∀ (q : Nat) (H : Heap) (locs : List Loc), Wl g ((h0, .inr (9, fs.set 10 (.ref q))) :: (tl ++ [(q, .inl (g.2.1.2.2, 4, .inl (wchr 0)))])) A s H locs → W p l e R s m av below meth c H locs (cells + 1) (slots + 4) Q (F0 m 53 ls [])) : W p l e R s m av below meth c H locs cells slots Q (F0 m 26 ls []) := by
  obtain ⟨hx, hb, hml, hown, hts, hK, hA, hZ, hlocks, hr, hN⟩ := id C
  refine lv_aload_n hx hb d_AModel_26 rfl (lv_at hl 0 rfl) ?_
  refine lv_iconst (v := 4) hx hb d_AModel_27 (by decide) ?_
  refine k_newc C h (by decide) rfl (Nat.le_of_ble_eq_true rfl) hc hs d_AModel_28 (fun q H h => ?_)
  refine lv_dup hx hb d_AModel_30 rfl ?_
  refine lv_iconst (v := 0) hx hb d_AModel_31 (by decide) ?_
  refine lv_bipush (v := 109) hx hb d_AModel_32 (by decide) ?_
  refine k_casL C h (in_e (i := 0) (n := 4) (by decide)) (by decide) d_AModel_34 (fun H locs h => ?_)
  refine lv_dup hx hb d_AModel_35 rfl ?_
  refine lv_iconst (v := 1) hx hb d_AModel_36 (by decide) ?_
  refine lv_bipush (v := 97) hx hb d_AModel_37 (by decide) ?_
  refine k_casL C h (in_e (i := 1) (n := 4) (by decide)) (by decide) d_AModel_39 (fun H locs h => ?_)
  refine lv_dup hx hb d_AModel_40 rfl ?_
  refine lv_iconst (v := 2) hx hb d_AModel_41 (by decide) ?_
  refine lv_bipush (v := 114) hx hb d_AModel_42 (by decide) ?_
  refine k_casL C h (in_e (i := 2) (n := 4) (by decide)) (by decide) d_AModel_44 (fun H locs h => ?_)
  refine lv_dup hx hb d_AModel_45 rfl ?_
  refine lv_iconst (v := 3) hx hb d_AModel_46 (by decide) ?_
  refine lv_bipush (v := 107) hx hb d_AModel_47 (by decide) ?_
  refine k_casL C h (in_e (i := 3) (n := 4) (by decide)) (by decide) d_AModel_49 (fun H locs h => ?_)
  replace h := Wl_congr h chr_0
  refine cp_Model_markWord C hin h (by rw [hfl]; decide) k1104 d_AModel_50 (fun H locs h => ?_)
  exact kk _ _ _ h
set_option maxHeartbeats 4000000 in
theorem sgm_4 (C : Cx g A p s m av meth c prog_13_method_1_code 1 "BellHammerModel" none) (hin : meth.name = "<init>") (hl : lv_has ls 1 [(0, .ref h0)]) (hfl : fs.length = 82) (h : Wl g ((h0, .inr (9, fs)) :: tl) A s H locs) (hc : cells + 1 ≤ R.cells) (hs : slots + 2 ≤ R.slots) (kk : ∀ (q : Nat) (H : Heap) (locs : List Loc), Wl g ((h0, .inr (9, fs.set 11 (.ref q))) :: (tl ++ [(q, .inl (g.2.1.2.2, 2, .inl (wchr 1)))])) A s H locs → W p l e R s m av below meth c H locs (cells + 1) (slots + 2) Q (F0 m 70 ls [])) : W p l e R s m av below meth c H locs cells slots Q (F0 m 53 ls []) := by
  obtain ⟨hx, hb, hml, hown, hts, hK, hA, hZ, hlocks, hr, hN⟩ := id C
  refine lv_aload_n hx hb d_AModel_53 rfl (lv_at hl 0 rfl) ?_
  refine lv_iconst (v := 2) hx hb d_AModel_54 (by decide) ?_
  refine k_newc C h (by decide) rfl (Nat.le_of_ble_eq_true rfl) hc hs d_AModel_55 (fun q H h => ?_)
  refine lv_dup hx hb d_AModel_57 rfl ?_
  refine lv_iconst (v := 0) hx hb d_AModel_58 (by decide) ?_
  refine lv_bipush (v := 97) hx hb d_AModel_59 (by decide) ?_
  refine k_casL C h (in_e (i := 0) (n := 2) (by decide)) (by decide) d_AModel_61 (fun H locs h => ?_)
  refine lv_dup hx hb d_AModel_62 rfl ?_
  refine lv_iconst (v := 1) hx hb d_AModel_63 (by decide) ?_
  refine lv_bipush (v := 116) hx hb d_AModel_64 (by decide) ?_
  refine k_casL C h (in_e (i := 1) (n := 2) (by decide)) (by decide) d_AModel_66 (fun H locs h => ?_)
  replace h := Wl_congr h chr_1
  refine cp_Model_atWord C hin h (by rw [hfl]; decide) k1105 d_AModel_67 (fun H locs h => ?_)
  exact kk _ _ _ h
set_option maxHeartbeats 4000000 in
theorem sgm_5 (C : Cx g A p s m av meth c prog_13_method_1_code 1 "BellHammerModel" none) (hin : meth.name = "<init>") (hl : lv_has ls 1 [(0, .ref h0)]) (hfl : fs.length = 82) (h : Wl g ((h0, .inr (9, fs)) :: tl) A s H locs) (hc : cells + 1 ≤ R.cells) (hs : slots + 5 ≤ R.slots) (kk : ∀ (q : Nat) (H : Heap) (locs : List Loc), Wl g ((h0, .inr (9, fs.set 12 (.ref q))) :: (tl ++ [(q, .inl (g.2.1.2.2, 5, .inl (wchr 2)))])) A s H locs → W p l e R s m av below meth c H locs (cells + 1) (slots + 5) Q (F0 m 102 ls [])) : W p l e R s m av below meth c H locs cells slots Q (F0 m 70 ls []) := by
  obtain ⟨hx, hb, hml, hown, hts, hK, hA, hZ, hlocks, hr, hN⟩ := id C
  refine lv_aload_n hx hb d_AModel_70 rfl (lv_at hl 0 rfl) ?_
  refine lv_iconst (v := 5) hx hb d_AModel_71 (by decide) ?_
  refine k_newc C h (by decide) rfl (Nat.le_of_ble_eq_true rfl) hc hs d_AModel_72 (fun q H h => ?_)
  refine lv_dup hx hb d_AModel_74 rfl ?_
  refine lv_iconst (v := 0) hx hb d_AModel_75 (by decide) ?_
  refine lv_bipush (v := 116) hx hb d_AModel_76 (by decide) ?_
  refine k_casL C h (in_e (i := 0) (n := 5) (by decide)) (by decide) d_AModel_78 (fun H locs h => ?_)
  refine lv_dup hx hb d_AModel_79 rfl ?_
  refine lv_iconst (v := 1) hx hb d_AModel_80 (by decide) ?_
  refine lv_bipush (v := 114) hx hb d_AModel_81 (by decide) ?_
  refine k_casL C h (in_e (i := 1) (n := 5) (by decide)) (by decide) d_AModel_83 (fun H locs h => ?_)
  refine lv_dup hx hb d_AModel_84 rfl ?_
  refine lv_iconst (v := 2) hx hb d_AModel_85 (by decide) ?_
  refine lv_bipush (v := 105) hx hb d_AModel_86 (by decide) ?_
  refine k_casL C h (in_e (i := 2) (n := 5) (by decide)) (by decide) d_AModel_88 (fun H locs h => ?_)
  refine lv_dup hx hb d_AModel_89 rfl ?_
  refine lv_iconst (v := 3) hx hb d_AModel_90 (by decide) ?_
  refine lv_bipush (v := 101) hx hb d_AModel_91 (by decide) ?_
  refine k_casL C h (in_e (i := 3) (n := 5) (by decide)) (by decide) d_AModel_93 (fun H locs h => ?_)
  refine lv_dup hx hb d_AModel_94 rfl ?_
  refine lv_iconst (v := 4) hx hb d_AModel_95 (by decide) ?_
  refine lv_bipush (v := 114) hx hb d_AModel_96 (by decide) ?_
  refine k_casL C h (in_e (i := 4) (n := 5) (by decide)) (by decide) d_AModel_98 (fun H locs h => ?_)
  replace h := Wl_congr h chr_2
  refine cp_Model_trierWord C hin h (by rw [hfl]; decide) k1106 d_AModel_99 (fun H locs h => ?_)
  exact kk _ _ _ h
set_option maxHeartbeats 4000000 in
theorem sgm_6 (C : Cx g A p s m av meth c prog_13_method_1_code 1 "BellHammerModel" none) (hin : meth.name = "<init>") (hl : lv_has ls 1 [(0, .ref h0)]) (hfl : fs.length = 82) (h : Wl g ((h0, .inr (9, fs)) :: tl) A s H locs) (hc : cells + 1 ≤ R.cells) (hs : slots + 5 ≤ R.slots) (kk : ∀ (q : Nat) (H : Heap) (locs : List Loc), Wl g ((h0, .inr (9, fs.set 13 (.ref q))) :: (tl ++ [(q, .inl (g.2.1.2.2, 5, .inl (wchr 3)))])) A s H locs → W p l e R s m av below meth c H locs (cells + 1) (slots + 5) Q (F0 m 134 ls [])) : W p l e R s m av below meth c H locs cells slots Q (F0 m 102 ls []) := by
  obtain ⟨hx, hb, hml, hown, hts, hK, hA, hZ, hlocks, hr, hN⟩ := id C
  refine lv_aload_n hx hb d_AModel_102 rfl (lv_at hl 0 rfl) ?_
  refine lv_iconst (v := 5) hx hb d_AModel_103 (by decide) ?_
  refine k_newc C h (by decide) rfl (Nat.le_of_ble_eq_true rfl) hc hs d_AModel_104 (fun q H h => ?_)
  refine lv_dup hx hb d_AModel_106 rfl ?_
  refine lv_iconst (v := 0) hx hb d_AModel_107 (by decide) ?_
  refine lv_bipush (v := 102) hx hb d_AModel_108 (by decide) ?_
  refine k_casL C h (in_e (i := 0) (n := 5) (by decide)) (by decide) d_AModel_110 (fun H locs h => ?_)
  refine lv_dup hx hb d_AModel_111 rfl ?_
  refine lv_iconst (v := 1) hx hb d_AModel_112 (by decide) ?_
  refine lv_bipush (v := 111) hx hb d_AModel_113 (by decide) ?_
  refine k_casL C h (in_e (i := 1) (n := 5) (by decide)) (by decide) d_AModel_115 (fun H locs h => ?_)
  refine lv_dup hx hb d_AModel_116 rfl ?_
  refine lv_iconst (v := 2) hx hb d_AModel_117 (by decide) ?_
  refine lv_bipush (v := 114) hx hb d_AModel_118 (by decide) ?_
  refine k_casL C h (in_e (i := 2) (n := 5) (by decide)) (by decide) d_AModel_120 (fun H locs h => ?_)
  refine lv_dup hx hb d_AModel_121 rfl ?_
  refine lv_iconst (v := 3) hx hb d_AModel_122 (by decide) ?_
  refine lv_bipush (v := 99) hx hb d_AModel_123 (by decide) ?_
  refine k_casL C h (in_e (i := 3) (n := 5) (by decide)) (by decide) d_AModel_125 (fun H locs h => ?_)
  refine lv_dup hx hb d_AModel_126 rfl ?_
  refine lv_iconst (v := 4) hx hb d_AModel_127 (by decide) ?_
  refine lv_bipush (v := 101) hx hb d_AModel_128 (by decide) ?_
  refine k_casL C h (in_e (i := 4) (n := 5) (by decide)) (by decide) d_AModel_130 (fun H locs h => ?_)
  replace h := Wl_congr h chr_3
  refine cp_Model_forceWord C hin h (by rw [hfl]; decide) k1107 d_AModel_131 (fun H locs h => ?_)
  exact kk _ _ _ h
set_option maxHeartbeats 4000000 in
theorem sgm_7 (C : Cx g A p s m av meth c prog_13_method_1_code 1 "BellHammerModel" none) (hin : meth.name = "<init>") (hl : lv_has ls 1 [(0, .ref h0)]) (hfl : fs.length = 82) (h : Wl g ((h0, .inr (9, fs)) :: tl) A s H locs) (hc : cells + 1 ≤ R.cells) (hs : slots + 3 ≤ R.slots) (kk : ∀ (q : Nat) (H : Heap) (locs : List Loc), Wl g ((h0, .inr (9, fs.set 14 (.ref q))) :: (tl ++ [(q, .inl (g.2.1.2.2, 3, .inl (wchr 4)))])) A s H locs → W p l e R s m av below meth c H locs (cells + 1) (slots + 3) Q (F0 m 156 ls [])) : W p l e R s m av below meth c H locs cells slots Q (F0 m 134 ls []) := by
  obtain ⟨hx, hb, hml, hown, hts, hK, hA, hZ, hlocks, hr, hN⟩ := id C
  refine lv_aload_n hx hb d_AModel_134 rfl (lv_at hl 0 rfl) ?_
  refine lv_iconst (v := 3) hx hb d_AModel_135 (by decide) ?_
  refine k_newc C h (by decide) rfl (Nat.le_of_ble_eq_true rfl) hc hs d_AModel_136 (fun q H h => ?_)
  refine lv_dup hx hb d_AModel_138 rfl ?_
  refine lv_iconst (v := 0) hx hb d_AModel_139 (by decide) ?_
  refine lv_bipush (v := 97) hx hb d_AModel_140 (by decide) ?_
  refine k_casL C h (in_e (i := 0) (n := 3) (by decide)) (by decide) d_AModel_142 (fun H locs h => ?_)
  refine lv_dup hx hb d_AModel_143 rfl ?_
  refine lv_iconst (v := 1) hx hb d_AModel_144 (by decide) ?_
  refine lv_bipush (v := 105) hx hb d_AModel_145 (by decide) ?_
  refine k_casL C h (in_e (i := 1) (n := 3) (by decide)) (by decide) d_AModel_147 (fun H locs h => ?_)
  refine lv_dup hx hb d_AModel_148 rfl ?_
  refine lv_iconst (v := 2) hx hb d_AModel_149 (by decide) ?_
  refine lv_bipush (v := 109) hx hb d_AModel_150 (by decide) ?_
  refine k_casL C h (in_e (i := 2) (n := 3) (by decide)) (by decide) d_AModel_152 (fun H locs h => ?_)
  replace h := Wl_congr h chr_4
  refine cp_Model_aimWord C hin h (by rw [hfl]; decide) k1108 d_AModel_153 (fun H locs h => ?_)
  exact kk _ _ _ h
set_option maxHeartbeats 4000000 in
theorem sgm_8 (C : Cx g A p s m av meth c prog_13_method_1_code 1 "BellHammerModel" none) (hin : meth.name = "<init>") (hl : lv_has ls 1 [(0, .ref h0)]) (hfl : fs.length = 82) (h : Wl g ((h0, .inr (9, fs)) :: tl) A s H locs) (hc : cells + 1 ≤ R.cells) (hs : slots + 5 ≤ R.slots) (kk : ∀ (q : Nat) (H : Heap) (locs : List Loc), Wl g ((h0, .inr (9, fs.set 15 (.ref q))) :: (tl ++ [(q, .inl (g.2.1.2.2, 5, .inl (wchr 5)))])) A s H locs → W p l e R s m av below meth c H locs (cells + 1) (slots + 5) Q (F0 m 188 ls [])) : W p l e R s m av below meth c H locs cells slots Q (F0 m 156 ls []) := by
  obtain ⟨hx, hb, hml, hown, hts, hK, hA, hZ, hlocks, hr, hN⟩ := id C
  refine lv_aload_n hx hb d_AModel_156 rfl (lv_at hl 0 rfl) ?_
  refine lv_iconst (v := 5) hx hb d_AModel_157 (by decide) ?_
  refine k_newc C h (by decide) rfl (Nat.le_of_ble_eq_true rfl) hc hs d_AModel_158 (fun q H h => ?_)
  refine lv_dup hx hb d_AModel_160 rfl ?_
  refine lv_iconst (v := 0) hx hb d_AModel_161 (by decide) ?_
  refine lv_bipush (v := 116) hx hb d_AModel_162 (by decide) ?_
  refine k_casL C h (in_e (i := 0) (n := 5) (by decide)) (by decide) d_AModel_164 (fun H locs h => ?_)
  refine lv_dup hx hb d_AModel_165 rfl ?_
  refine lv_iconst (v := 1) hx hb d_AModel_166 (by decide) ?_
  refine lv_bipush (v := 105) hx hb d_AModel_167 (by decide) ?_
  refine k_casL C h (in_e (i := 1) (n := 5) (by decide)) (by decide) d_AModel_169 (fun H locs h => ?_)
  refine lv_dup hx hb d_AModel_170 rfl ?_
  refine lv_iconst (v := 2) hx hb d_AModel_171 (by decide) ?_
  refine lv_bipush (v := 114) hx hb d_AModel_172 (by decide) ?_
  refine k_casL C h (in_e (i := 2) (n := 5) (by decide)) (by decide) d_AModel_174 (fun H locs h => ?_)
  refine lv_dup hx hb d_AModel_175 rfl ?_
  refine lv_iconst (v := 3) hx hb d_AModel_176 (by decide) ?_
  refine lv_bipush (v := 101) hx hb d_AModel_177 (by decide) ?_
  refine k_casL C h (in_e (i := 3) (n := 5) (by decide)) (by decide) d_AModel_179 (fun H locs h => ?_)
  refine lv_dup hx hb d_AModel_180 rfl ?_
  refine lv_iconst (v := 4) hx hb d_AModel_181 (by decide) ?_
  refine lv_bipush (v := 115) hx hb d_AModel_182 (by decide) ?_
  refine k_casL C h (in_e (i := 4) (n := 5) (by decide)) (by decide) d_AModel_184 (fun H locs h => ?_)
  replace h := Wl_congr h chr_5
  refine cp_Model_tiresWord C hin h (by rw [hfl]; decide) k1109 d_AModel_185 (fun H locs h => ?_)
  exact kk _ _ _ h
set_option maxHeartbeats 4000000 in
theorem sgm_9 (C : Cx g A p s m av meth c prog_13_method_1_code 1 "BellHammerModel" none) (hin : meth.name = "<init>") (hl : lv_has ls 1 [(0, .ref h0)]) (hfl : fs.length = 82) (h : Wl g ((h0, .inr (9, fs)) :: tl) A s H locs) (hc : cells + 1 ≤ R.cells) (hs : slots + 5 ≤ R.slots) (kk : ∀ (q : Nat) (H : Heap) (locs : List Loc), Wl g ((h0, .inr (9, fs.set 16 (.ref q))) :: (tl ++ [(q, .inl (g.2.1.2.2, 5, .inl (wchr 6)))])) A s H locs → W p l e R s m av below meth c H locs (cells + 1) (slots + 5) Q (F0 m 220 ls [])) : W p l e R s m av below meth c H locs cells slots Q (F0 m 188 ls []) := by
  obtain ⟨hx, hb, hml, hown, hts, hK, hA, hZ, hlocks, hr, hN⟩ := id C
  refine lv_aload_n hx hb d_AModel_188 rfl (lv_at hl 0 rfl) ?_
  refine lv_iconst (v := 5) hx hb d_AModel_189 (by decide) ?_
  refine k_newc C h (by decide) rfl (Nat.le_of_ble_eq_true rfl) hc hs d_AModel_190 (fun q H h => ?_)
  refine lv_dup hx hb d_AModel_192 rfl ?_
  refine lv_iconst (v := 0) hx hb d_AModel_193 (by decide) ?_
  refine lv_bipush (v := 99) hx hb d_AModel_194 (by decide) ?_
  refine k_casL C h (in_e (i := 0) (n := 5) (by decide)) (by decide) d_AModel_196 (fun H locs h => ?_)
  refine lv_dup hx hb d_AModel_197 rfl ?_
  refine lv_iconst (v := 1) hx hb d_AModel_198 (by decide) ?_
  refine lv_bipush (v := 111) hx hb d_AModel_199 (by decide) ?_
  refine k_casL C h (in_e (i := 1) (n := 5) (by decide)) (by decide) d_AModel_201 (fun H locs h => ?_)
  refine lv_dup hx hb d_AModel_202 rfl ?_
  refine lv_iconst (v := 2) hx hb d_AModel_203 (by decide) ?_
  refine lv_bipush (v := 105) hx hb d_AModel_204 (by decide) ?_
  refine k_casL C h (in_e (i := 2) (n := 5) (by decide)) (by decide) d_AModel_206 (fun H locs h => ?_)
  refine lv_dup hx hb d_AModel_207 rfl ?_
  refine lv_iconst (v := 3) hx hb d_AModel_208 (by decide) ?_
  refine lv_bipush (v := 110) hx hb d_AModel_209 (by decide) ?_
  refine k_casL C h (in_e (i := 3) (n := 5) (by decide)) (by decide) d_AModel_211 (fun H locs h => ?_)
  refine lv_dup hx hb d_AModel_212 rfl ?_
  refine lv_iconst (v := 4) hx hb d_AModel_213 (by decide) ?_
  refine lv_bipush (v := 115) hx hb d_AModel_214 (by decide) ?_
  refine k_casL C h (in_e (i := 4) (n := 5) (by decide)) (by decide) d_AModel_216 (fun H locs h => ?_)
  replace h := Wl_congr h chr_6
  refine cp_Model_coinsWord C hin h (by rw [hfl]; decide) k1110 d_AModel_217 (fun H locs h => ?_)
  exact kk _ _ _ h
set_option maxHeartbeats 4000000 in
theorem sgm_10 (C : Cx g A p s m av meth c prog_13_method_1_code 1 "BellHammerModel" none) (hin : meth.name = "<init>") (hl : lv_has ls 1 [(0, .ref h0)]) (hfl : fs.length = 82) (h : Wl g ((h0, .inr (9, fs)) :: tl) A s H locs) (hc : cells + 1 ≤ R.cells) (hs : slots + 5 ≤ R.slots) (kk : ∀ (q : Nat) (H : Heap) (locs : List Loc), Wl g ((h0, .inr (9, fs.set 17 (.ref q))) :: (tl ++ [(q, .inl (g.2.1.2.2, 5, .inl (wchr 7)))])) A s H locs → W p l e R s m av below meth c H locs (cells + 1) (slots + 5) Q (F0 m 252 ls [])) : W p l e R s m av below meth c H locs cells slots Q (F0 m 220 ls []) := by
  obtain ⟨hx, hb, hml, hown, hts, hK, hA, hZ, hlocks, hr, hN⟩ := id C
  refine lv_aload_n hx hb d_AModel_220 rfl (lv_at hl 0 rfl) ?_
  refine lv_iconst (v := 5) hx hb d_AModel_221 (by decide) ?_
  refine k_newc C h (by decide) rfl (Nat.le_of_ble_eq_true rfl) hc hs d_AModel_222 (fun q H h => ?_)
  refine lv_dup hx hb d_AModel_224 rfl ?_
  refine lv_iconst (v := 0) hx hb d_AModel_225 (by decide) ?_
  refine lv_bipush (v := 115) hx hb d_AModel_226 (by decide) ?_
  refine k_casL C h (in_e (i := 0) (n := 5) (by decide)) (by decide) d_AModel_228 (fun H locs h => ?_)
  refine lv_dup hx hb d_AModel_229 rfl ?_
  refine lv_iconst (v := 1) hx hb d_AModel_230 (by decide) ?_
  refine lv_bipush (v := 116) hx hb d_AModel_231 (by decide) ?_
  refine k_casL C h (in_e (i := 1) (n := 5) (by decide)) (by decide) d_AModel_233 (fun H locs h => ?_)
  refine lv_dup hx hb d_AModel_234 rfl ?_
  refine lv_iconst (v := 2) hx hb d_AModel_235 (by decide) ?_
  refine lv_bipush (v := 97) hx hb d_AModel_236 (by decide) ?_
  refine k_casL C h (in_e (i := 2) (n := 5) (by decide)) (by decide) d_AModel_238 (fun H locs h => ?_)
  refine lv_dup hx hb d_AModel_239 rfl ?_
  refine lv_iconst (v := 3) hx hb d_AModel_240 (by decide) ?_
  refine lv_bipush (v := 121) hx hb d_AModel_241 (by decide) ?_
  refine k_casL C h (in_e (i := 3) (n := 5) (by decide)) (by decide) d_AModel_243 (fun H locs h => ?_)
  refine lv_dup hx hb d_AModel_244 rfl ?_
  refine lv_iconst (v := 4) hx hb d_AModel_245 (by decide) ?_
  refine lv_bipush (v := 115) hx hb d_AModel_246 (by decide) ?_
  refine k_casL C h (in_e (i := 4) (n := 5) (by decide)) (by decide) d_AModel_248 (fun H locs h => ?_)
  replace h := Wl_congr h chr_7
  refine cp_Model_staysWord C hin h (by rw [hfl]; decide) k1111 d_AModel_249 (fun H locs h => ?_)
  exact kk _ _ _ h
set_option maxHeartbeats 4000000 in
theorem sgm_11 (C : Cx g A p s m av meth c prog_13_method_1_code 1 "BellHammerModel" none) (hin : meth.name = "<init>") (hl : lv_has ls 1 [(0, .ref h0)]) (hfl : fs.length = 82) (h : Wl g ((h0, .inr (9, fs)) :: tl) A s H locs) (hc : cells + 1 ≤ R.cells) (hs : slots + 4 ≤ R.slots) (kk : ∀ (q : Nat) (H : Heap) (locs : List Loc), Wl g ((h0, .inr (9, fs.set 18 (.ref q))) :: (tl ++ [(q, .inl (g.2.1.2.2, 4, .inl (wchr 8)))])) A s H locs → W p l e R s m av below meth c H locs (cells + 1) (slots + 4) Q (F0 m 279 ls [])) : W p l e R s m av below meth c H locs cells slots Q (F0 m 252 ls []) := by
  obtain ⟨hx, hb, hml, hown, hts, hK, hA, hZ, hlocks, hr, hN⟩ := id C
  refine lv_aload_n hx hb d_AModel_252 rfl (lv_at hl 0 rfl) ?_
  refine lv_iconst (v := 4) hx hb d_AModel_253 (by decide) ?_
  refine k_newc C h (by decide) rfl (Nat.le_of_ble_eq_true rfl) hc hs d_AModel_254 (fun q H h => ?_)
  refine lv_dup hx hb d_AModel_256 rfl ?_
  refine lv_iconst (v := 0) hx hb d_AModel_257 (by decide) ?_
  refine lv_bipush (v := 108) hx hb d_AModel_258 (by decide) ?_
  refine k_casL C h (in_e (i := 0) (n := 4) (by decide)) (by decide) d_AModel_260 (fun H locs h => ?_)
  refine lv_dup hx hb d_AModel_261 rfl ?_
  refine lv_iconst (v := 1) hx hb d_AModel_262 (by decide) ?_
  refine lv_bipush (v := 97) hx hb d_AModel_263 (by decide) ?_
  refine k_casL C h (in_e (i := 1) (n := 4) (by decide)) (by decide) d_AModel_265 (fun H locs h => ?_)
  refine lv_dup hx hb d_AModel_266 rfl ?_
  refine lv_iconst (v := 2) hx hb d_AModel_267 (by decide) ?_
  refine lv_bipush (v := 100) hx hb d_AModel_268 (by decide) ?_
  refine k_casL C h (in_e (i := 2) (n := 4) (by decide)) (by decide) d_AModel_270 (fun H locs h => ?_)
  refine lv_dup hx hb d_AModel_271 rfl ?_
  refine lv_iconst (v := 3) hx hb d_AModel_272 (by decide) ?_
  refine lv_bipush (v := 121) hx hb d_AModel_273 (by decide) ?_
  refine k_casL C h (in_e (i := 3) (n := 4) (by decide)) (by decide) d_AModel_275 (fun H locs h => ?_)
  replace h := Wl_congr h chr_8
  refine cp_Model_ladyWord C hin h (by rw [hfl]; decide) k1112 d_AModel_276 (fun H locs h => ?_)
  exact kk _ _ _ h
set_option maxHeartbeats 4000000 in
theorem sgm_12 (C : Cx g A p s m av meth c prog_13_method_1_code 1 "BellHammerModel" none) (hin : meth.name = "<init>") (hl : lv_has ls 1 [(0, .ref h0)]) (hfl : fs.length = 82) (h : Wl g ((h0, .inr (9, fs)) :: tl) A s H locs) (hc : cells + 1 ≤ R.cells) (hs : slots + 4 ≤ R.slots) (kk : ∀ (q : Nat) (H : Heap) (locs : List Loc), Wl g ((h0, .inr (9, fs.set 19 (.ref q))) :: (tl ++ [(q, .inl (g.2.1.2.2, 4, .inl (wchr 9)))])) A s H locs → W p l e R s m av below meth c H locs (cells + 1) (slots + 4) Q (F0 m 306 ls [])) : W p l e R s m av below meth c H locs cells slots Q (F0 m 279 ls []) := by
  obtain ⟨hx, hb, hml, hown, hts, hK, hA, hZ, hlocks, hr, hN⟩ := id C
  refine lv_aload_n hx hb d_AModel_279 rfl (lv_at hl 0 rfl) ?_
  refine lv_iconst (v := 4) hx hb d_AModel_280 (by decide) ?_
  refine k_newc C h (by decide) rfl (Nat.le_of_ble_eq_true rfl) hc hs d_AModel_281 (fun q H h => ?_)
  refine lv_dup hx hb d_AModel_283 rfl ?_
  refine lv_iconst (v := 0) hx hb d_AModel_284 (by decide) ?_
  refine lv_bipush (v := 108) hx hb d_AModel_285 (by decide) ?_
  refine k_casL C h (in_e (i := 0) (n := 4) (by decide)) (by decide) d_AModel_287 (fun H locs h => ?_)
  refine lv_dup hx hb d_AModel_288 rfl ?_
  refine lv_iconst (v := 1) hx hb d_AModel_289 (by decide) ?_
  refine lv_bipush (v := 101) hx hb d_AModel_290 (by decide) ?_
  refine k_casL C h (in_e (i := 1) (n := 4) (by decide)) (by decide) d_AModel_292 (fun H locs h => ?_)
  refine lv_dup hx hb d_AModel_293 rfl ?_
  refine lv_iconst (v := 2) hx hb d_AModel_294 (by decide) ?_
  refine lv_bipush (v := 97) hx hb d_AModel_295 (by decide) ?_
  refine k_casL C h (in_e (i := 2) (n := 4) (by decide)) (by decide) d_AModel_297 (fun H locs h => ?_)
  refine lv_dup hx hb d_AModel_298 rfl ?_
  refine lv_iconst (v := 3) hx hb d_AModel_299 (by decide) ?_
  refine lv_bipush (v := 110) hx hb d_AModel_300 (by decide) ?_
  refine k_casL C h (in_e (i := 3) (n := 4) (by decide)) (by decide) d_AModel_302 (fun H locs h => ?_)
  replace h := Wl_congr h chr_9
  refine cp_Model_leanWord C hin h (by rw [hfl]; decide) k1113 d_AModel_303 (fun H locs h => ?_)
  exact kk _ _ _ h
set_option maxHeartbeats 4000000 in
theorem sgm_13 (C : Cx g A p s m av meth c prog_13_method_1_code 1 "BellHammerModel" none) (hin : meth.name = "<init>") (hl : lv_has ls 1 [(0, .ref h0)]) (hfl : fs.length = 82) (h : Wl g ((h0, .inr (9, fs)) :: tl) A s H locs) (hc : cells + 1 ≤ R.cells) (hs : slots + 4 ≤ R.slots) (kk : ∀ (q : Nat) (H : Heap) (locs : List Loc), Wl g ((h0, .inr (9, fs.set 20 (.ref q))) :: (tl ++ [(q, .inl (g.2.1.2.2, 4, .inl (wchr 10)))])) A s H locs → W p l e R s m av below meth c H locs (cells + 1) (slots + 4) Q (F0 m 333 ls [])) : W p l e R s m av below meth c H locs cells slots Q (F0 m 306 ls []) := by
  obtain ⟨hx, hb, hml, hown, hts, hK, hA, hZ, hlocks, hr, hN⟩ := id C
  refine lv_aload_n hx hb d_AModel_306 rfl (lv_at hl 0 rfl) ?_
  refine lv_iconst (v := 4) hx hb d_AModel_307 (by decide) ?_
  refine k_newc C h (by decide) rfl (Nat.le_of_ble_eq_true rfl) hc hs d_AModel_308 (fun q H h => ?_)
  refine lv_dup hx hb d_AModel_310 rfl ?_
  refine lv_iconst (v := 0) hx hb d_AModel_311 (by decide) ?_
  refine lv_bipush (v := 119) hx hb d_AModel_312 (by decide) ?_
  refine k_casL C h (in_e (i := 0) (n := 4) (by decide)) (by decide) d_AModel_314 (fun H locs h => ?_)
  refine lv_dup hx hb d_AModel_315 rfl ?_
  refine lv_iconst (v := 1) hx hb d_AModel_316 (by decide) ?_
  refine lv_bipush (v := 104) hx hb d_AModel_317 (by decide) ?_
  refine k_casL C h (in_e (i := 1) (n := 4) (by decide)) (by decide) d_AModel_319 (fun H locs h => ?_)
  refine lv_dup hx hb d_AModel_320 rfl ?_
  refine lv_iconst (v := 2) hx hb d_AModel_321 (by decide) ?_
  refine lv_bipush (v := 101) hx hb d_AModel_322 (by decide) ?_
  refine k_casL C h (in_e (i := 2) (n := 4) (by decide)) (by decide) d_AModel_324 (fun H locs h => ?_)
  refine lv_dup hx hb d_AModel_325 rfl ?_
  refine lv_iconst (v := 3) hx hb d_AModel_326 (by decide) ?_
  refine lv_bipush (v := 110) hx hb d_AModel_327 (by decide) ?_
  refine k_casL C h (in_e (i := 3) (n := 4) (by decide)) (by decide) d_AModel_329 (fun H locs h => ?_)
  replace h := Wl_congr h chr_10
  refine cp_Model_whenWord C hin h (by rw [hfl]; decide) k1114 d_AModel_330 (fun H locs h => ?_)
  exact kk _ _ _ h
set_option maxHeartbeats 4000000 in
theorem sgm_14 (C : Cx g A p s m av meth c prog_13_method_1_code 1 "BellHammerModel" none) (hin : meth.name = "<init>") (hl : lv_has ls 1 [(0, .ref h0)]) (hfl : fs.length = 82) (h : Wl g ((h0, .inr (9, fs)) :: tl) A s H locs) (hc : cells + 1 ≤ R.cells) (hs : slots + 4 ≤ R.slots) (kk : ∀ (q : Nat) (H : Heap) (locs : List Loc), Wl g ((h0, .inr (9, fs.set 21 (.ref q))) :: (tl ++ [(q, .inl (g.2.1.2.2, 4, .inl (wchr 11)))])) A s H locs → W p l e R s m av below meth c H locs (cells + 1) (slots + 4) Q (F0 m 360 ls [])) : W p l e R s m av below meth c H locs cells slots Q (F0 m 333 ls []) := by
  obtain ⟨hx, hb, hml, hown, hts, hK, hA, hZ, hlocks, hr, hN⟩ := id C
  refine lv_aload_n hx hb d_AModel_333 rfl (lv_at hl 0 rfl) ?_
  refine lv_iconst (v := 4) hx hb d_AModel_334 (by decide) ?_
  refine k_newc C h (by decide) rfl (Nat.le_of_ble_eq_true rfl) hc hs d_AModel_335 (fun q H h => ?_)
  refine lv_dup hx hb d_AModel_337 rfl ?_
  refine lv_iconst (v := 0) hx hb d_AModel_338 (by decide) ?_
  refine lv_bipush (v := 98) hx hb d_AModel_339 (by decide) ?_
  refine k_casL C h (in_e (i := 0) (n := 4) (by decide)) (by decide) d_AModel_341 (fun H locs h => ?_)
  refine lv_dup hx hb d_AModel_342 rfl ?_
  refine lv_iconst (v := 1) hx hb d_AModel_343 (by decide) ?_
  refine lv_bipush (v := 101) hx hb d_AModel_344 (by decide) ?_
  refine k_casL C h (in_e (i := 1) (n := 4) (by decide)) (by decide) d_AModel_346 (fun H locs h => ?_)
  refine lv_dup hx hb d_AModel_347 rfl ?_
  refine lv_iconst (v := 2) hx hb d_AModel_348 (by decide) ?_
  refine lv_bipush (v := 108) hx hb d_AModel_349 (by decide) ?_
  refine k_casL C h (in_e (i := 2) (n := 4) (by decide)) (by decide) d_AModel_351 (fun H locs h => ?_)
  refine lv_dup hx hb d_AModel_352 rfl ?_
  refine lv_iconst (v := 3) hx hb d_AModel_353 (by decide) ?_
  refine lv_bipush (v := 108) hx hb d_AModel_354 (by decide) ?_
  refine k_casL C h (in_e (i := 3) (n := 4) (by decide)) (by decide) d_AModel_356 (fun H locs h => ?_)
  replace h := Wl_congr h chr_11
  refine cp_Model_bellWord C hin h (by rw [hfl]; decide) k1115 d_AModel_357 (fun H locs h => ?_)
  exact kk _ _ _ h
set_option maxHeartbeats 4000000 in
theorem sgm_15 (C : Cx g A p s m av meth c prog_13_method_1_code 1 "BellHammerModel" none) (hin : meth.name = "<init>") (hl : lv_has ls 1 [(0, .ref h0)]) (hfl : fs.length = 82) (h : Wl g ((h0, .inr (9, fs)) :: tl) A s H locs) (hc : cells + 1 ≤ R.cells) (hs : slots + 5 ≤ R.slots) (kk : ∀ (q : Nat) (H : Heap) (locs : List Loc), Wl g ((h0, .inr (9, fs.set 22 (.ref q))) :: (tl ++ [(q, .inl (g.2.1.2.2, 5, .inl (wchr 12)))])) A s H locs → W p l e R s m av below meth c H locs (cells + 1) (slots + 5) Q (F0 m 392 ls [])) : W p l e R s m av below meth c H locs cells slots Q (F0 m 360 ls []) := by
  obtain ⟨hx, hb, hml, hown, hts, hK, hA, hZ, hlocks, hr, hN⟩ := id C
  refine lv_aload_n hx hb d_AModel_360 rfl (lv_at hl 0 rfl) ?_
  refine lv_iconst (v := 5) hx hb d_AModel_361 (by decide) ?_
  refine k_newc C h (by decide) rfl (Nat.le_of_ble_eq_true rfl) hc hs d_AModel_362 (fun q H h => ?_)
  refine lv_dup hx hb d_AModel_364 rfl ?_
  refine lv_iconst (v := 0) hx hb d_AModel_365 (by decide) ?_
  refine lv_bipush (v := 112) hx hb d_AModel_366 (by decide) ?_
  refine k_casL C h (in_e (i := 0) (n := 5) (by decide)) (by decide) d_AModel_368 (fun H locs h => ?_)
  refine lv_dup hx hb d_AModel_369 rfl ?_
  refine lv_iconst (v := 1) hx hb d_AModel_370 (by decide) ?_
  refine lv_bipush (v := 114) hx hb d_AModel_371 (by decide) ?_
  refine k_casL C h (in_e (i := 1) (n := 5) (by decide)) (by decide) d_AModel_373 (fun H locs h => ?_)
  refine lv_dup hx hb d_AModel_374 rfl ?_
  refine lv_iconst (v := 2) hx hb d_AModel_375 (by decide) ?_
  refine lv_bipush (v := 105) hx hb d_AModel_376 (by decide) ?_
  refine k_casL C h (in_e (i := 2) (n := 5) (by decide)) (by decide) d_AModel_378 (fun H locs h => ?_)
  refine lv_dup hx hb d_AModel_379 rfl ?_
  refine lv_iconst (v := 3) hx hb d_AModel_380 (by decide) ?_
  refine lv_bipush (v := 99) hx hb d_AModel_381 (by decide) ?_
  refine k_casL C h (in_e (i := 3) (n := 5) (by decide)) (by decide) d_AModel_383 (fun H locs h => ?_)
  refine lv_dup hx hb d_AModel_384 rfl ?_
  refine lv_iconst (v := 4) hx hb d_AModel_385 (by decide) ?_
  refine lv_bipush (v := 101) hx hb d_AModel_386 (by decide) ?_
  refine k_casL C h (in_e (i := 4) (n := 5) (by decide)) (by decide) d_AModel_388 (fun H locs h => ?_)
  replace h := Wl_congr h chr_12
  refine cp_Model_priceWord C hin h (by rw [hfl]; decide) k1116 d_AModel_389 (fun H locs h => ?_)
  exact kk _ _ _ h
set_option maxHeartbeats 4000000 in
theorem sgm_16 (C : Cx g A p s m av meth c prog_13_method_1_code 1 "BellHammerModel" none) (hin : meth.name = "<init>") (hl : lv_has ls 1 [(0, .ref h0)]) (hfl : fs.length = 82) (h : Wl g ((h0, .inr (9, fs)) :: tl) A s H locs) (hc : cells + 1 ≤ R.cells) (hs : slots + 5 ≤ R.slots) (kk : ∀ (q : Nat) (H : Heap) (locs : List Loc), Wl g ((h0, .inr (9, fs.set 23 (.ref q))) :: (tl ++ [(q, .inl (g.2.1.2.2, 5, .inl (wchr 13)))])) A s H locs → W p l e R s m av below meth c H locs (cells + 1) (slots + 5) Q (F0 m 424 ls [])) : W p l e R s m av below meth c H locs cells slots Q (F0 m 392 ls []) := by
  obtain ⟨hx, hb, hml, hown, hts, hK, hA, hZ, hlocks, hr, hN⟩ := id C
  refine lv_aload_n hx hb d_AModel_392 rfl (lv_at hl 0 rfl) ?_
  refine lv_iconst (v := 5) hx hb d_AModel_393 (by decide) ?_
  refine k_newc C h (by decide) rfl (Nat.le_of_ble_eq_true rfl) hc hs d_AModel_394 (fun q H h => ?_)
  refine lv_dup hx hb d_AModel_396 rfl ?_
  refine lv_iconst (v := 0) hx hb d_AModel_397 (by decide) ?_
  refine lv_bipush (v := 116) hx hb d_AModel_398 (by decide) ?_
  refine k_casL C h (in_e (i := 0) (n := 5) (by decide)) (by decide) d_AModel_400 (fun H locs h => ?_)
  refine lv_dup hx hb d_AModel_401 rfl ?_
  refine lv_iconst (v := 1) hx hb d_AModel_402 (by decide) ?_
  refine lv_bipush (v := 114) hx hb d_AModel_403 (by decide) ?_
  refine k_casL C h (in_e (i := 1) (n := 5) (by decide)) (by decide) d_AModel_405 (fun H locs h => ?_)
  refine lv_dup hx hb d_AModel_406 rfl ?_
  refine lv_iconst (v := 2) hx hb d_AModel_407 (by decide) ?_
  refine lv_bipush (v := 105) hx hb d_AModel_408 (by decide) ?_
  refine k_casL C h (in_e (i := 2) (n := 5) (by decide)) (by decide) d_AModel_410 (fun H locs h => ?_)
  refine lv_dup hx hb d_AModel_411 rfl ?_
  refine lv_iconst (v := 3) hx hb d_AModel_412 (by decide) ?_
  refine lv_bipush (v := 101) hx hb d_AModel_413 (by decide) ?_
  refine k_casL C h (in_e (i := 3) (n := 5) (by decide)) (by decide) d_AModel_415 (fun H locs h => ?_)
  refine lv_dup hx hb d_AModel_416 rfl ?_
  refine lv_iconst (v := 4) hx hb d_AModel_417 (by decide) ?_
  refine lv_bipush (v := 115) hx hb d_AModel_418 (by decide) ?_
  refine k_casL C h (in_e (i := 4) (n := 5) (by decide)) (by decide) d_AModel_420 (fun H locs h => ?_)
  replace h := Wl_congr h chr_13
  refine cp_Model_triesWord C hin h (by rw [hfl]; decide) k1117 d_AModel_421 (fun H locs h => ?_)
  exact kk _ _ _ h
set_option maxHeartbeats 4000000 in
theorem sgm_17 (C : Cx g A p s m av meth c prog_13_method_1_code 1 "BellHammerModel" none) (hin : meth.name = "<init>") (hl : lv_has ls 1 [(0, .ref h0)]) (hfl : fs.length = 82) (h : Wl g ((h0, .inr (9, fs)) :: tl) A s H locs) (hc : cells + 1 ≤ R.cells) (hs : slots + 5 ≤ R.slots) (kk : ∀ (q : Nat) (H : Heap) (locs : List Loc), Wl g ((h0, .inr (9, fs.set 24 (.ref q))) :: (tl ++ [(q, .inl (g.2.1.2.2, 5, .inl (wchr 14)))])) A s H locs → W p l e R s m av below meth c H locs (cells + 1) (slots + 5) Q (F0 m 456 ls [])) : W p l e R s m av below meth c H locs cells slots Q (F0 m 424 ls []) := by
  obtain ⟨hx, hb, hml, hown, hts, hK, hA, hZ, hlocks, hr, hN⟩ := id C
  refine lv_aload_n hx hb d_AModel_424 rfl (lv_at hl 0 rfl) ?_
  refine lv_iconst (v := 5) hx hb d_AModel_425 (by decide) ?_
  refine k_newc C h (by decide) rfl (Nat.le_of_ble_eq_true rfl) hc hs d_AModel_426 (fun q H h => ?_)
  refine lv_dup hx hb d_AModel_428 rfl ?_
  refine lv_iconst (v := 0) hx hb d_AModel_429 (by decide) ?_
  refine lv_bipush (v := 115) hx hb d_AModel_430 (by decide) ?_
  refine k_casL C h (in_e (i := 0) (n := 5) (by decide)) (by decide) d_AModel_432 (fun H locs h => ?_)
  refine lv_dup hx hb d_AModel_433 rfl ?_
  refine lv_iconst (v := 1) hx hb d_AModel_434 (by decide) ?_
  refine lv_bipush (v := 108) hx hb d_AModel_435 (by decide) ?_
  refine k_casL C h (in_e (i := 1) (n := 5) (by decide)) (by decide) d_AModel_437 (fun H locs h => ?_)
  refine lv_dup hx hb d_AModel_438 rfl ?_
  refine lv_iconst (v := 2) hx hb d_AModel_439 (by decide) ?_
  refine lv_bipush (v := 97) hx hb d_AModel_440 (by decide) ?_
  refine k_casL C h (in_e (i := 2) (n := 5) (by decide)) (by decide) d_AModel_442 (fun H locs h => ?_)
  refine lv_dup hx hb d_AModel_443 rfl ?_
  refine lv_iconst (v := 3) hx hb d_AModel_444 (by decide) ?_
  refine lv_bipush (v := 99) hx hb d_AModel_445 (by decide) ?_
  refine k_casL C h (in_e (i := 3) (n := 5) (by decide)) (by decide) d_AModel_447 (fun H locs h => ?_)
  refine lv_dup hx hb d_AModel_448 rfl ?_
  refine lv_iconst (v := 4) hx hb d_AModel_449 (by decide) ?_
  refine lv_bipush (v := 107) hx hb d_AModel_450 (by decide) ?_
  refine k_casL C h (in_e (i := 4) (n := 5) (by decide)) (by decide) d_AModel_452 (fun H locs h => ?_)
  replace h := Wl_congr h chr_14
  refine cp_Model_slackWord C hin h (by rw [hfl]; decide) k1118 d_AModel_453 (fun H locs h => ?_)
  exact kk _ _ _ h
set_option maxHeartbeats 4000000 in
theorem sgm_18 (C : Cx g A p s m av meth c prog_13_method_1_code 1 "BellHammerModel" none) (hin : meth.name = "<init>") (hl : lv_has ls 1 [(0, .ref h0)]) (hfl : fs.length = 82) (h : Wl g ((h0, .inr (9, fs)) :: tl) A s H locs) (hc : cells + 1 ≤ R.cells) (hs : slots + 5 ≤ R.slots) (kk : ∀ (q : Nat) (H : Heap) (locs : List Loc), Wl g ((h0, .inr (9, fs.set 25 (.ref q))) :: (tl ++ [(q, .inl (g.2.1.2.2, 5, .inl (wchr 15)))])) A s H locs → W p l e R s m av below meth c H locs (cells + 1) (slots + 5) Q (F0 m 488 ls [])) : W p l e R s m av below meth c H locs cells slots Q (F0 m 456 ls []) := by
  obtain ⟨hx, hb, hml, hown, hts, hK, hA, hZ, hlocks, hr, hN⟩ := id C
  refine lv_aload_n hx hb d_AModel_456 rfl (lv_at hl 0 rfl) ?_
  refine lv_iconst (v := 5) hx hb d_AModel_457 (by decide) ?_
  refine k_newc C h (by decide) rfl (Nat.le_of_ble_eq_true rfl) hc hs d_AModel_458 (fun q H h => ?_)
  refine lv_dup hx hb d_AModel_460 rfl ?_
  refine lv_iconst (v := 0) hx hb d_AModel_461 (by decide) ?_
  refine lv_bipush (v := 99) hx hb d_AModel_462 (by decide) ?_
  refine k_casL C h (in_e (i := 0) (n := 5) (by decide)) (by decide) d_AModel_464 (fun H locs h => ?_)
  refine lv_dup hx hb d_AModel_465 rfl ?_
  refine lv_iconst (v := 1) hx hb d_AModel_466 (by decide) ?_
  refine lv_bipush (v := 114) hx hb d_AModel_467 (by decide) ?_
  refine k_casL C h (in_e (i := 1) (n := 5) (by decide)) (by decide) d_AModel_469 (fun H locs h => ?_)
  refine lv_dup hx hb d_AModel_470 rfl ?_
  refine lv_iconst (v := 2) hx hb d_AModel_471 (by decide) ?_
  refine lv_bipush (v := 111) hx hb d_AModel_472 (by decide) ?_
  refine k_casL C h (in_e (i := 2) (n := 5) (by decide)) (by decide) d_AModel_474 (fun H locs h => ?_)
  refine lv_dup hx hb d_AModel_475 rfl ?_
  refine lv_iconst (v := 3) hx hb d_AModel_476 (by decide) ?_
  refine lv_bipush (v := 119) hx hb d_AModel_477 (by decide) ?_
  refine k_casL C h (in_e (i := 3) (n := 5) (by decide)) (by decide) d_AModel_479 (fun H locs h => ?_)
  refine lv_dup hx hb d_AModel_480 rfl ?_
  refine lv_iconst (v := 4) hx hb d_AModel_481 (by decide) ?_
  refine lv_bipush (v := 100) hx hb d_AModel_482 (by decide) ?_
  refine k_casL C h (in_e (i := 4) (n := 5) (by decide)) (by decide) d_AModel_484 (fun H locs h => ?_)
  replace h := Wl_congr h chr_15
  refine cp_Model_crowdWord C hin h (by rw [hfl]; decide) k1119 d_AModel_485 (fun H locs h => ?_)
  exact kk _ _ _ h
set_option maxHeartbeats 4000000 in
theorem sgm_19 (C : Cx g A p s m av meth c prog_13_method_1_code 1 "BellHammerModel" none) (hin : meth.name = "<init>") (hl : lv_has ls 1 [(0, .ref h0)]) (hfl : fs.length = 82) (h : Wl g ((h0, .inr (9, fs)) :: tl) A s H locs) (hc : cells + 1 ≤ R.cells) (hs : slots + 4 ≤ R.slots) (kk : ∀ (q : Nat) (H : Heap) (locs : List Loc), Wl g ((h0, .inr (9, fs.set 26 (.ref q))) :: (tl ++ [(q, .inl (g.2.1.2.2, 4, .inl (wchr 16)))])) A s H locs → W p l e R s m av below meth c H locs (cells + 1) (slots + 4) Q (F0 m 515 ls [])) : W p l e R s m av below meth c H locs cells slots Q (F0 m 488 ls []) := by
  obtain ⟨hx, hb, hml, hown, hts, hK, hA, hZ, hlocks, hr, hN⟩ := id C
  refine lv_aload_n hx hb d_AModel_488 rfl (lv_at hl 0 rfl) ?_
  refine lv_iconst (v := 4) hx hb d_AModel_489 (by decide) ?_
  refine k_newc C h (by decide) rfl (Nat.le_of_ble_eq_true rfl) hc hs d_AModel_490 (fun q H h => ?_)
  refine lv_dup hx hb d_AModel_492 rfl ?_
  refine lv_iconst (v := 0) hx hb d_AModel_493 (by decide) ?_
  refine lv_bipush (v := 110) hx hb d_AModel_494 (by decide) ?_
  refine k_casL C h (in_e (i := 0) (n := 4) (by decide)) (by decide) d_AModel_496 (fun H locs h => ?_)
  refine lv_dup hx hb d_AModel_497 rfl ?_
  refine lv_iconst (v := 1) hx hb d_AModel_498 (by decide) ?_
  refine lv_bipush (v := 101) hx hb d_AModel_499 (by decide) ?_
  refine k_casL C h (in_e (i := 1) (n := 4) (by decide)) (by decide) d_AModel_501 (fun H locs h => ?_)
  refine lv_dup hx hb d_AModel_502 rfl ?_
  refine lv_iconst (v := 2) hx hb d_AModel_503 (by decide) ?_
  refine lv_bipush (v := 97) hx hb d_AModel_504 (by decide) ?_
  refine k_casL C h (in_e (i := 2) (n := 4) (by decide)) (by decide) d_AModel_506 (fun H locs h => ?_)
  refine lv_dup hx hb d_AModel_507 rfl ?_
  refine lv_iconst (v := 3) hx hb d_AModel_508 (by decide) ?_
  refine lv_bipush (v := 114) hx hb d_AModel_509 (by decide) ?_
  refine k_casL C h (in_e (i := 3) (n := 4) (by decide)) (by decide) d_AModel_511 (fun H locs h => ?_)
  replace h := Wl_congr h chr_16
  refine cp_Model_nearWord C hin h (by rw [hfl]; decide) k1120 d_AModel_512 (fun H locs h => ?_)
  exact kk _ _ _ h
set_option maxHeartbeats 4000000 in
theorem sgm_20 (C : Cx g A p s m av meth c prog_13_method_1_code 1 "BellHammerModel" none) (hin : meth.name = "<init>") (hl : lv_has ls 1 [(0, .ref h0)]) (hfl : fs.length = 82) (h : Wl g ((h0, .inr (9, fs)) :: tl) A s H locs) (hc : cells + 1 ≤ R.cells) (hs : slots + 5 ≤ R.slots) (kk : ∀ (q : Nat) (H : Heap) (locs : List Loc), Wl g ((h0, .inr (9, fs.set 27 (.ref q))) :: (tl ++ [(q, .inl (g.2.1.2.2, 5, .inl (wchr 17)))])) A s H locs → W p l e R s m av below meth c H locs (cells + 1) (slots + 5) Q (F0 m 547 ls [])) : W p l e R s m av below meth c H locs cells slots Q (F0 m 515 ls []) := by
  obtain ⟨hx, hb, hml, hown, hts, hK, hA, hZ, hlocks, hr, hN⟩ := id C
  refine lv_aload_n hx hb d_AModel_515 rfl (lv_at hl 0 rfl) ?_
  refine lv_iconst (v := 5) hx hb d_AModel_516 (by decide) ?_
  refine k_newc C h (by decide) rfl (Nat.le_of_ble_eq_true rfl) hc hs d_AModel_517 (fun q H h => ?_)
  refine lv_dup hx hb d_AModel_519 rfl ?_
  refine lv_iconst (v := 0) hx hb d_AModel_520 (by decide) ?_
  refine lv_bipush (v := 99) hx hb d_AModel_521 (by decide) ?_
  refine k_casL C h (in_e (i := 0) (n := 5) (by decide)) (by decide) d_AModel_523 (fun H locs h => ?_)
  refine lv_dup hx hb d_AModel_524 rfl ?_
  refine lv_iconst (v := 1) hx hb d_AModel_525 (by decide) ?_
  refine lv_bipush (v := 111) hx hb d_AModel_526 (by decide) ?_
  refine k_casL C h (in_e (i := 1) (n := 5) (by decide)) (by decide) d_AModel_528 (fun H locs h => ?_)
  refine lv_dup hx hb d_AModel_529 rfl ?_
  refine lv_iconst (v := 2) hx hb d_AModel_530 (by decide) ?_
  refine lv_bipush (v := 109) hx hb d_AModel_531 (by decide) ?_
  refine k_casL C h (in_e (i := 2) (n := 5) (by decide)) (by decide) d_AModel_533 (fun H locs h => ?_)
  refine lv_dup hx hb d_AModel_534 rfl ?_
  refine lv_iconst (v := 3) hx hb d_AModel_535 (by decide) ?_
  refine lv_bipush (v := 101) hx hb d_AModel_536 (by decide) ?_
  refine k_casL C h (in_e (i := 3) (n := 5) (by decide)) (by decide) d_AModel_538 (fun H locs h => ?_)
  refine lv_dup hx hb d_AModel_539 rfl ?_
  refine lv_iconst (v := 4) hx hb d_AModel_540 (by decide) ?_
  refine lv_bipush (v := 115) hx hb d_AModel_541 (by decide) ?_
  refine k_casL C h (in_e (i := 4) (n := 5) (by decide)) (by decide) d_AModel_543 (fun H locs h => ?_)
  replace h := Wl_congr h chr_17
  refine cp_Model_comesWord C hin h (by rw [hfl]; decide) k1121 d_AModel_544 (fun H locs h => ?_)
  exact kk _ _ _ h
set_option maxHeartbeats 4000000 in
theorem sgm_21 (C : Cx g A p s m av meth c prog_13_method_1_code 1 "BellHammerModel" none) (hin : meth.name = "<init>") (hl : lv_has ls 1 [(0, .ref h0)]) (hfl : fs.length = 82) (h : Wl g ((h0, .inr (9, fs)) :: tl) A s H locs) (hc : cells + 1 ≤ R.cells) (hs : slots + 5 ≤ R.slots) (kk : ∀ (q : Nat) (H : Heap) (locs : List Loc), Wl g ((h0, .inr (9, fs.set 28 (.ref q))) :: (tl ++ [(q, .inl (g.2.1.2.2, 5, .inl (wchr 18)))])) A s H locs → W p l e R s m av below meth c H locs (cells + 1) (slots + 5) Q (F0 m 579 ls [])) : W p l e R s m av below meth c H locs cells slots Q (F0 m 547 ls []) := by
  obtain ⟨hx, hb, hml, hown, hts, hK, hA, hZ, hlocks, hr, hN⟩ := id C
  refine lv_aload_n hx hb d_AModel_547 rfl (lv_at hl 0 rfl) ?_
  refine lv_iconst (v := 5) hx hb d_AModel_548 (by decide) ?_
  refine k_newc C h (by decide) rfl (Nat.le_of_ble_eq_true rfl) hc hs d_AModel_549 (fun q H h => ?_)
  refine lv_dup hx hb d_AModel_551 rfl ?_
  refine lv_iconst (v := 0) hx hb d_AModel_552 (by decide) ?_
  refine lv_bipush (v := 116) hx hb d_AModel_553 (by decide) ?_
  refine k_casL C h (in_e (i := 0) (n := 5) (by decide)) (by decide) d_AModel_555 (fun H locs h => ?_)
  refine lv_dup hx hb d_AModel_556 rfl ?_
  refine lv_iconst (v := 1) hx hb d_AModel_557 (by decide) ?_
  refine lv_bipush (v := 114) hx hb d_AModel_558 (by decide) ?_
  refine k_casL C h (in_e (i := 1) (n := 5) (by decide)) (by decide) d_AModel_560 (fun H locs h => ?_)
  refine lv_dup hx hb d_AModel_561 rfl ?_
  refine lv_iconst (v := 2) hx hb d_AModel_562 (by decide) ?_
  refine lv_bipush (v := 105) hx hb d_AModel_563 (by decide) ?_
  refine k_casL C h (in_e (i := 2) (n := 5) (by decide)) (by decide) d_AModel_565 (fun H locs h => ?_)
  refine lv_dup hx hb d_AModel_566 rfl ?_
  refine lv_iconst (v := 3) hx hb d_AModel_567 (by decide) ?_
  refine lv_bipush (v := 101) hx hb d_AModel_568 (by decide) ?_
  refine k_casL C h (in_e (i := 3) (n := 5) (by decide)) (by decide) d_AModel_570 (fun H locs h => ?_)
  refine lv_dup hx hb d_AModel_571 rfl ?_
  refine lv_iconst (v := 4) hx hb d_AModel_572 (by decide) ?_
  refine lv_bipush (v := 100) hx hb d_AModel_573 (by decide) ?_
  refine k_casL C h (in_e (i := 4) (n := 5) (by decide)) (by decide) d_AModel_575 (fun H locs h => ?_)
  replace h := Wl_congr h chr_18
  refine cp_Model_triedWord C hin h (by rw [hfl]; decide) k1122 d_AModel_576 (fun H locs h => ?_)
  exact kk _ _ _ h
set_option maxHeartbeats 4000000 in
theorem sgm_22 (C : Cx g A p s m av meth c prog_13_method_1_code 1 "BellHammerModel" none) (hin : meth.name = "<init>") (hl : lv_has ls 1 [(0, .ref h0)]) (hfl : fs.length = 82) (h : Wl g ((h0, .inr (9, fs)) :: tl) A s H locs) (hc : cells + 1 ≤ R.cells) (hs : slots + 4 ≤ R.slots) (kk : ∀ (q : Nat) (H : Heap) (locs : List Loc), Wl g ((h0, .inr (9, fs.set 29 (.ref q))) :: (tl ++ [(q, .inl (g.2.1.2.2, 4, .inl (wchr 19)))])) A s H locs → W p l e R s m av below meth c H locs (cells + 1) (slots + 4) Q (F0 m 606 ls [])) : W p l e R s m av below meth c H locs cells slots Q (F0 m 579 ls []) := by
  obtain ⟨hx, hb, hml, hown, hts, hK, hA, hZ, hlocks, hr, hN⟩ := id C
  refine lv_aload_n hx hb d_AModel_579 rfl (lv_at hl 0 rfl) ?_
  refine lv_iconst (v := 4) hx hb d_AModel_580 (by decide) ?_
  refine k_newc C h (by decide) rfl (Nat.le_of_ble_eq_true rfl) hc hs d_AModel_581 (fun q H h => ?_)
  refine lv_dup hx hb d_AModel_583 rfl ?_
  refine lv_iconst (v := 0) hx hb d_AModel_584 (by decide) ?_
  refine lv_bipush (v := 108) hx hb d_AModel_585 (by decide) ?_
  refine k_casL C h (in_e (i := 0) (n := 4) (by decide)) (by decide) d_AModel_587 (fun H locs h => ?_)
  refine lv_dup hx hb d_AModel_588 rfl ?_
  refine lv_iconst (v := 1) hx hb d_AModel_589 (by decide) ?_
  refine lv_bipush (v := 97) hx hb d_AModel_590 (by decide) ?_
  refine k_casL C h (in_e (i := 1) (n := 4) (by decide)) (by decide) d_AModel_592 (fun H locs h => ?_)
  refine lv_dup hx hb d_AModel_593 rfl ?_
  refine lv_iconst (v := 2) hx hb d_AModel_594 (by decide) ?_
  refine lv_bipush (v := 115) hx hb d_AModel_595 (by decide) ?_
  refine k_casL C h (in_e (i := 2) (n := 4) (by decide)) (by decide) d_AModel_597 (fun H locs h => ?_)
  refine lv_dup hx hb d_AModel_598 rfl ?_
  refine lv_iconst (v := 3) hx hb d_AModel_599 (by decide) ?_
  refine lv_bipush (v := 116) hx hb d_AModel_600 (by decide) ?_
  refine k_casL C h (in_e (i := 3) (n := 4) (by decide)) (by decide) d_AModel_602 (fun H locs h => ?_)
  replace h := Wl_congr h chr_19
  refine cp_Model_lastWord C hin h (by rw [hfl]; decide) k1123 d_AModel_603 (fun H locs h => ?_)
  exact kk _ _ _ h
set_option maxHeartbeats 4000000 in
theorem sgm_23 (C : Cx g A p s m av meth c prog_13_method_1_code 1 "BellHammerModel" none) (hin : meth.name = "<init>") (hl : lv_has ls 1 [(0, .ref h0)]) (hfl : fs.length = 82) (h : Wl g ((h0, .inr (9, fs)) :: tl) A s H locs) (hc : cells + 1 ≤ R.cells) (hs : slots + 5 ≤ R.slots) (kk : ∀ (q : Nat) (H : Heap) (locs : List Loc), Wl g ((h0, .inr (9, fs.set 30 (.ref q))) :: (tl ++ [(q, .inl (g.2.1.2.2, 5, .inl (wchr 20)))])) A s H locs → W p l e R s m av below meth c H locs (cells + 1) (slots + 5) Q (F0 m 638 ls [])) : W p l e R s m av below meth c H locs cells slots Q (F0 m 606 ls []) := by
  obtain ⟨hx, hb, hml, hown, hts, hK, hA, hZ, hlocks, hr, hN⟩ := id C
  refine lv_aload_n hx hb d_AModel_606 rfl (lv_at hl 0 rfl) ?_
  refine lv_iconst (v := 5) hx hb d_AModel_607 (by decide) ?_
  refine k_newc C h (by decide) rfl (Nat.le_of_ble_eq_true rfl) hc hs d_AModel_608 (fun q H h => ?_)
  refine lv_dup hx hb d_AModel_610 rfl ?_
  refine lv_iconst (v := 0) hx hb d_AModel_611 (by decide) ?_
  refine lv_bipush (v := 114) hx hb d_AModel_612 (by decide) ?_
  refine k_casL C h (in_e (i := 0) (n := 5) (by decide)) (by decide) d_AModel_614 (fun H locs h => ?_)
  refine lv_dup hx hb d_AModel_615 rfl ?_
  refine lv_iconst (v := 1) hx hb d_AModel_616 (by decide) ?_
  refine lv_bipush (v := 105) hx hb d_AModel_617 (by decide) ?_
  refine k_casL C h (in_e (i := 1) (n := 5) (by decide)) (by decide) d_AModel_619 (fun H locs h => ?_)
  refine lv_dup hx hb d_AModel_620 rfl ?_
  refine lv_iconst (v := 2) hx hb d_AModel_621 (by decide) ?_
  refine lv_bipush (v := 110) hx hb d_AModel_622 (by decide) ?_
  refine k_casL C h (in_e (i := 2) (n := 5) (by decide)) (by decide) d_AModel_624 (fun H locs h => ?_)
  refine lv_dup hx hb d_AModel_625 rfl ?_
  refine lv_iconst (v := 3) hx hb d_AModel_626 (by decide) ?_
  refine lv_bipush (v := 103) hx hb d_AModel_627 (by decide) ?_
  refine k_casL C h (in_e (i := 3) (n := 5) (by decide)) (by decide) d_AModel_629 (fun H locs h => ?_)
  refine lv_dup hx hb d_AModel_630 rfl ?_
  refine lv_iconst (v := 4) hx hb d_AModel_631 (by decide) ?_
  refine lv_bipush (v := 115) hx hb d_AModel_632 (by decide) ?_
  refine k_casL C h (in_e (i := 4) (n := 5) (by decide)) (by decide) d_AModel_634 (fun H locs h => ?_)
  replace h := Wl_congr h chr_20
  refine cp_Model_ringsWord C hin h (by rw [hfl]; decide) k1124 d_AModel_635 (fun H locs h => ?_)
  exact kk _ _ _ h
set_option maxHeartbeats 4000000 in
theorem sgm_24 (C : Cx g A p s m av meth c prog_13_method_1_code 1 "BellHammerModel" none) (hin : meth.name = "<init>") (hl : lv_has ls 1 [(0, .ref h0)]) (hfl : fs.length = 82) (h : Wl g ((h0, .inr (9, fs)) :: tl) A s H locs) (hc : cells + 1 ≤ R.cells) (hs : slots + 2 ≤ R.slots) (kk : ∀ (q : Nat) (H : Heap) (locs : List Loc), Wl g ((h0, .inr (9, fs.set 31 (.ref q))) :: (tl ++ [(q, .inl (g.2.1.2.2, 2, .inl (wchr 21)))])) A s H locs → W p l e R s m av below meth c H locs (cells + 1) (slots + 2) Q (F0 m 655 ls [])) : W p l e R s m av below meth c H locs cells slots Q (F0 m 638 ls []) := by
  obtain ⟨hx, hb, hml, hown, hts, hK, hA, hZ, hlocks, hr, hN⟩ := id C
  refine lv_aload_n hx hb d_AModel_638 rfl (lv_at hl 0 rfl) ?_
  refine lv_iconst (v := 2) hx hb d_AModel_639 (by decide) ?_
  refine k_newc C h (by decide) rfl (Nat.le_of_ble_eq_true rfl) hc hs d_AModel_640 (fun q H h => ?_)
  refine lv_dup hx hb d_AModel_642 rfl ?_
  refine lv_iconst (v := 0) hx hb d_AModel_643 (by decide) ?_
  refine lv_bipush (v := 111) hx hb d_AModel_644 (by decide) ?_
  refine k_casL C h (in_e (i := 0) (n := 2) (by decide)) (by decide) d_AModel_646 (fun H locs h => ?_)
  refine lv_dup hx hb d_AModel_647 rfl ?_
  refine lv_iconst (v := 1) hx hb d_AModel_648 (by decide) ?_
  refine lv_bipush (v := 114) hx hb d_AModel_649 (by decide) ?_
  refine k_casL C h (in_e (i := 1) (n := 2) (by decide)) (by decide) d_AModel_651 (fun H locs h => ?_)
  replace h := Wl_congr h chr_21
  refine cp_Model_orWord C hin h (by rw [hfl]; decide) k1125 d_AModel_652 (fun H locs h => ?_)
  exact kk _ _ _ h
set_option maxHeartbeats 4000000 in
theorem sgm_25 (C : Cx g A p s m av meth c prog_13_method_1_code 1 "BellHammerModel" none) (hin : meth.name = "<init>") (hl : lv_has ls 1 [(0, .ref h0)]) (hfl : fs.length = 82) (h : Wl g ((h0, .inr (9, fs)) :: tl) A s H locs) (hc : cells + 1 ≤ R.cells) (hs : slots + 3 ≤ R.slots) (kk : ∀ (q : Nat) (H : Heap) (locs : List Loc), Wl g ((h0, .inr (9, fs.set 32 (.ref q))) :: (tl ++ [(q, .inl (g.2.1.2.2, 3, .inl (wchr 22)))])) A s H locs → W p l e R s m av below meth c H locs (cells + 1) (slots + 3) Q (F0 m 677 ls [])) : W p l e R s m av below meth c H locs cells slots Q (F0 m 655 ls []) := by
  obtain ⟨hx, hb, hml, hown, hts, hK, hA, hZ, hlocks, hr, hN⟩ := id C
  refine lv_aload_n hx hb d_AModel_655 rfl (lv_at hl 0 rfl) ?_
  refine lv_iconst (v := 3) hx hb d_AModel_656 (by decide) ?_
  refine k_newc C h (by decide) rfl (Nat.le_of_ble_eq_true rfl) hc hs d_AModel_657 (fun q H h => ?_)
  refine lv_dup hx hb d_AModel_659 rfl ?_
  refine lv_iconst (v := 0) hx hb d_AModel_660 (by decide) ?_
  refine lv_bipush (v := 97) hx hb d_AModel_661 (by decide) ?_
  refine k_casL C h (in_e (i := 0) (n := 3) (by decide)) (by decide) d_AModel_663 (fun H locs h => ?_)
  refine lv_dup hx hb d_AModel_664 rfl ?_
  refine lv_iconst (v := 1) hx hb d_AModel_665 (by decide) ?_
  refine lv_bipush (v := 110) hx hb d_AModel_666 (by decide) ?_
  refine k_casL C h (in_e (i := 1) (n := 3) (by decide)) (by decide) d_AModel_668 (fun H locs h => ?_)
  refine lv_dup hx hb d_AModel_669 rfl ?_
  refine lv_iconst (v := 2) hx hb d_AModel_670 (by decide) ?_
  refine lv_bipush (v := 100) hx hb d_AModel_671 (by decide) ?_
  refine k_casL C h (in_e (i := 2) (n := 3) (by decide)) (by decide) d_AModel_673 (fun H locs h => ?_)
  replace h := Wl_congr h chr_22
  refine cp_Model_andWord C hin h (by rw [hfl]; decide) k1126 d_AModel_674 (fun H locs h => ?_)
  exact kk _ _ _ h
set_option maxHeartbeats 4000000 in
theorem sgm_26 (C : Cx g A p s m av meth c prog_13_method_1_code 1 "BellHammerModel" none) (hin : meth.name = "<init>") (hl : lv_has ls 1 [(0, .ref h0)]) (hfl : fs.length = 82) (h : Wl g ((h0, .inr (9, fs)) :: tl) A s H locs) (hc : cells + 1 ≤ R.cells) (hs : slots + 3 ≤ R.slots) (kk : ∀ (q : Nat) (H : Heap) (locs : List Loc), Wl g ((h0, .inr (9, fs.set 33 (.ref q))) :: (tl ++ [(q, .inl (g.2.1.2.2, 3, .inl (wchr 23)))])) A s H locs → W p l e R s m av below meth c H locs (cells + 1) (slots + 3) Q (F0 m 699 ls [])) : W p l e R s m av below meth c H locs cells slots Q (F0 m 677 ls []) := by
  obtain ⟨hx, hb, hml, hown, hts, hK, hA, hZ, hlocks, hr, hN⟩ := id C
  refine lv_aload_n hx hb d_AModel_677 rfl (lv_at hl 0 rfl) ?_
  refine lv_iconst (v := 3) hx hb d_AModel_678 (by decide) ?_
  refine k_newc C h (by decide) rfl (Nat.le_of_ble_eq_true rfl) hc hs d_AModel_679 (fun q H h => ?_)
  refine lv_dup hx hb d_AModel_681 rfl ?_
  refine lv_iconst (v := 0) hx hb d_AModel_682 (by decide) ?_
  refine lv_bipush (v := 110) hx hb d_AModel_683 (by decide) ?_
  refine k_casL C h (in_e (i := 0) (n := 3) (by decide)) (by decide) d_AModel_685 (fun H locs h => ?_)
  refine lv_dup hx hb d_AModel_686 rfl ?_
  refine lv_iconst (v := 1) hx hb d_AModel_687 (by decide) ?_
  refine lv_bipush (v := 111) hx hb d_AModel_688 (by decide) ?_
  refine k_casL C h (in_e (i := 1) (n := 3) (by decide)) (by decide) d_AModel_690 (fun H locs h => ?_)
  refine lv_dup hx hb d_AModel_691 rfl ?_
  refine lv_iconst (v := 2) hx hb d_AModel_692 (by decide) ?_
  refine lv_bipush (v := 116) hx hb d_AModel_693 (by decide) ?_
  refine k_casL C h (in_e (i := 2) (n := 3) (by decide)) (by decide) d_AModel_695 (fun H locs h => ?_)
  replace h := Wl_congr h chr_23
  refine cp_Model_notWord C hin h (by rw [hfl]; decide) k1127 d_AModel_696 (fun H locs h => ?_)
  exact kk _ _ _ h
set_option maxHeartbeats 4000000 in
theorem sgm_27 (C : Cx g A p s m av meth c prog_13_method_1_code 1 "BellHammerModel" none) (hin : meth.name = "<init>") (hl : lv_has ls 1 [(0, .ref h0)]) (hfl : fs.length = 82) (h : Wl g ((h0, .inr (9, fs)) :: tl) A s H locs) (hc : cells + 1 ≤ R.cells) (hs : slots + 3 ≤ R.slots) (kk : ∀ (q : Nat) (H : Heap) (locs : List Loc), Wl g ((h0, .inr (9, fs.set 34 (.ref q))) :: (tl ++ [(q, .inl (g.2.1.2.2, 3, .inl (wchr 24)))])) A s H locs → W p l e R s m av below meth c H locs (cells + 1) (slots + 3) Q (F0 m 721 ls [])) : W p l e R s m av below meth c H locs cells slots Q (F0 m 699 ls []) := by
  obtain ⟨hx, hb, hml, hown, hts, hK, hA, hZ, hlocks, hr, hN⟩ := id C
  refine lv_aload_n hx hb d_AModel_699 rfl (lv_at hl 0 rfl) ?_
  refine lv_iconst (v := 3) hx hb d_AModel_700 (by decide) ?_
  refine k_newc C h (by decide) rfl (Nat.le_of_ble_eq_true rfl) hc hs d_AModel_701 (fun q H h => ?_)
  refine lv_dup hx hb d_AModel_703 rfl ?_
  refine lv_iconst (v := 0) hx hb d_AModel_704 (by decide) ?_
  refine lv_bipush (v := 97) hx hb d_AModel_705 (by decide) ?_
  refine k_casL C h (in_e (i := 0) (n := 3) (by decide)) (by decide) d_AModel_707 (fun H locs h => ?_)
  refine lv_dup hx hb d_AModel_708 rfl ?_
  refine lv_iconst (v := 1) hx hb d_AModel_709 (by decide) ?_
  refine lv_bipush (v := 108) hx hb d_AModel_710 (by decide) ?_
  refine k_casL C h (in_e (i := 1) (n := 3) (by decide)) (by decide) d_AModel_712 (fun H locs h => ?_)
  refine lv_dup hx hb d_AModel_713 rfl ?_
  refine lv_iconst (v := 2) hx hb d_AModel_714 (by decide) ?_
  refine lv_bipush (v := 108) hx hb d_AModel_715 (by decide) ?_
  refine k_casL C h (in_e (i := 2) (n := 3) (by decide)) (by decide) d_AModel_717 (fun H locs h => ?_)
  replace h := Wl_congr h chr_24
  refine cp_Model_allWord C hin h (by rw [hfl]; decide) k1128 d_AModel_718 (fun H locs h => ?_)
  exact kk _ _ _ h
set_option maxHeartbeats 4000000 in
theorem sgm_28 (C : Cx g A p s m av meth c prog_13_method_1_code 1 "BellHammerModel" none) (hin : meth.name = "<init>") (hl : lv_has ls 1 [(0, .ref h0)]) (hfl : fs.length = 82) (h : Wl g ((h0, .inr (9, fs)) :: tl) A s H locs) (hc : cells + 1 ≤ R.cells) (hs : slots + 3 ≤ R.slots) (kk : ∀ (q : Nat) (H : Heap) (locs : List Loc), Wl g ((h0, .inr (9, fs.set 35 (.ref q))) :: (tl ++ [(q, .inl (g.2.1.2.2, 3, .inl (wchr 25)))])) A s H locs → W p l e R s m av below meth c H locs (cells + 1) (slots + 3) Q (F0 m 743 ls [])) : W p l e R s m av below meth c H locs cells slots Q (F0 m 721 ls []) := by
  obtain ⟨hx, hb, hml, hown, hts, hK, hA, hZ, hlocks, hr, hN⟩ := id C
  refine lv_aload_n hx hb d_AModel_721 rfl (lv_at hl 0 rfl) ?_
  refine lv_iconst (v := 3) hx hb d_AModel_722 (by decide) ?_
  refine k_newc C h (by decide) rfl (Nat.le_of_ble_eq_true rfl) hc hs d_AModel_723 (fun q H h => ?_)
  refine lv_dup hx hb d_AModel_725 rfl ?_
  refine lv_iconst (v := 0) hx hb d_AModel_726 (by decide) ?_
  refine lv_bipush (v := 109) hx hb d_AModel_727 (by decide) ?_
  refine k_casL C h (in_e (i := 0) (n := 3) (by decide)) (by decide) d_AModel_729 (fun H locs h => ?_)
  refine lv_dup hx hb d_AModel_730 rfl ?_
  refine lv_iconst (v := 1) hx hb d_AModel_731 (by decide) ?_
  refine lv_bipush (v := 105) hx hb d_AModel_732 (by decide) ?_
  refine k_casL C h (in_e (i := 1) (n := 3) (by decide)) (by decide) d_AModel_734 (fun H locs h => ?_)
  refine lv_dup hx hb d_AModel_735 rfl ?_
  refine lv_iconst (v := 2) hx hb d_AModel_736 (by decide) ?_
  refine lv_bipush (v := 110) hx hb d_AModel_737 (by decide) ?_
  refine k_casL C h (in_e (i := 2) (n := 3) (by decide)) (by decide) d_AModel_739 (fun H locs h => ?_)
  replace h := Wl_congr h chr_25
  refine cp_Model_minWord C hin h (by rw [hfl]; decide) k1129 d_AModel_740 (fun H locs h => ?_)
  exact kk _ _ _ h
set_option maxHeartbeats 4000000 in
theorem sgm_29 (C : Cx g A p s m av meth c prog_13_method_1_code 1 "BellHammerModel" none) (hin : meth.name = "<init>") (hl : lv_has ls 1 [(0, .ref h0)]) (hfl : fs.length = 82) (h : Wl g ((h0, .inr (9, fs)) :: tl) A s H locs) (hc : cells + 1 ≤ R.cells) (hs : slots + 3 ≤ R.slots) (kk : ∀ (q : Nat) (H : Heap) (locs : List Loc), Wl g ((h0, .inr (9, fs.set 36 (.ref q))) :: (tl ++ [(q, .inl (g.2.1.2.2, 3, .inl (wchr 26)))])) A s H locs → W p l e R s m av below meth c H locs (cells + 1) (slots + 3) Q (F0 m 765 ls [])) : W p l e R s m av below meth c H locs cells slots Q (F0 m 743 ls []) := by
  obtain ⟨hx, hb, hml, hown, hts, hK, hA, hZ, hlocks, hr, hN⟩ := id C
  refine lv_aload_n hx hb d_AModel_743 rfl (lv_at hl 0 rfl) ?_
  refine lv_iconst (v := 3) hx hb d_AModel_744 (by decide) ?_
  refine k_newc C h (by decide) rfl (Nat.le_of_ble_eq_true rfl) hc hs d_AModel_745 (fun q H h => ?_)
  refine lv_dup hx hb d_AModel_747 rfl ?_
  refine lv_iconst (v := 0) hx hb d_AModel_748 (by decide) ?_
  refine lv_bipush (v := 109) hx hb d_AModel_749 (by decide) ?_
  refine k_casL C h (in_e (i := 0) (n := 3) (by decide)) (by decide) d_AModel_751 (fun H locs h => ?_)
  refine lv_dup hx hb d_AModel_752 rfl ?_
  refine lv_iconst (v := 1) hx hb d_AModel_753 (by decide) ?_
  refine lv_bipush (v := 97) hx hb d_AModel_754 (by decide) ?_
  refine k_casL C h (in_e (i := 1) (n := 3) (by decide)) (by decide) d_AModel_756 (fun H locs h => ?_)
  refine lv_dup hx hb d_AModel_757 rfl ?_
  refine lv_iconst (v := 2) hx hb d_AModel_758 (by decide) ?_
  refine lv_bipush (v := 120) hx hb d_AModel_759 (by decide) ?_
  refine k_casL C h (in_e (i := 2) (n := 3) (by decide)) (by decide) d_AModel_761 (fun H locs h => ?_)
  replace h := Wl_congr h chr_26
  refine cp_Model_maxWord C hin h (by rw [hfl]; decide) k1130 d_AModel_762 (fun H locs h => ?_)
  exact kk _ _ _ h
set_option maxHeartbeats 4000000 in
theorem sgm_30 (C : Cx g A p s m av meth c prog_13_method_1_code 1 "BellHammerModel" none) (hin : meth.name = "<init>") (hl : lv_has ls 1 [(0, .ref h0)]) (hfl : fs.length = 82) (h : Wl g ((h0, .inr (9, fs)) :: tl) A s H locs) (hc : cells + 1 ≤ R.cells) (hs : slots + 6 ≤ R.slots) (kk : ∀ (q : Nat) (H : Heap) (locs : List Loc), Wl g ((h0, .inr (9, fs.set 38 (.ref q))) :: (tl ++ [(q, .inl (g.2.1.1, 6, .inl (fun _ => 0)))])) A s H locs → W p l e R s m av below meth c H locs (cells + 1) (slots + 6) Q (F0 m 773 ls [])) : W p l e R s m av below meth c H locs cells slots Q (F0 m 765 ls []) := by
  obtain ⟨hx, hb, hml, hown, hts, hK, hA, hZ, hlocks, hr, hN⟩ := id C
  refine lv_aload_n hx hb d_AModel_765 rfl (lv_at hl 0 rfl) ?_
  refine lv_bipush (v := 6) hx hb d_AModel_766 (by decide) ?_
  refine k_newi C h (by decide) rfl (Nat.le_of_ble_eq_true rfl) hc hs d_AModel_768 (fun q H h => ?_)
  refine cp_Model_many C hin h (by rw [hfl]; decide) k1132 d_AModel_770 (fun H locs h => ?_)
  exact kk _ _ _ h
set_option maxHeartbeats 4000000 in
theorem sgm_31 (C : Cx g A p s m av meth c prog_13_method_1_code 1 "BellHammerModel" none) (hin : meth.name = "<init>") (hl : lv_has ls 1 [(0, .ref h0)]) (hfl : fs.length = 82) (h : Wl g ((h0, .inr (9, fs)) :: tl) A s H locs) (hc : cells + 1 ≤ R.cells) (hs : slots + 32 ≤ R.slots) (kk : ∀ (q : Nat) (H : Heap) (locs : List Loc), Wl g ((h0, .inr (9, fs.set 39 (.ref q))) :: (tl ++ [(q, .inl (g.2.1.2.1, 32, .inr (.inl (fun _ => 0))))])) A s H locs → W p l e R s m av below meth c H locs (cells + 1) (slots + 32) Q (F0 m 781 ls [])) : W p l e R s m av below meth c H locs cells slots Q (F0 m 773 ls []) := by
  obtain ⟨hx, hb, hml, hown, hts, hK, hA, hZ, hlocks, hr, hN⟩ := id C
  refine lv_aload_n hx hb d_AModel_773 rfl (lv_at hl 0 rfl) ?_
  refine lv_bipush (v := 32) hx hb d_AModel_774 (by decide) ?_
  refine k_newj C h (by decide) rfl (Nat.le_of_ble_eq_true rfl) hc hs d_AModel_776 (fun q H h => ?_)
  refine cp_Model_names C hin h (by rw [hfl]; decide) k1133 d_AModel_778 (fun H locs h => ?_)
  exact kk _ _ _ h
set_option maxHeartbeats 4000000 in
theorem sgm_32 (C : Cx g A p s m av meth c prog_13_method_1_code 1 "BellHammerModel" none) (hin : meth.name = "<init>") (hl : lv_has ls 1 [(0, .ref h0)]) (hfl : fs.length = 82) (h : Wl g ((h0, .inr (9, fs)) :: tl) A s H locs) (hc : cells + 1 ≤ R.cells) (hs : slots + 12 ≤ R.slots) (kk : ∀ (q : Nat) (H : Heap) (locs : List Loc), Wl g ((h0, .inr (9, fs.set 40 (.ref q))) :: (tl ++ [(q, .inl (g.2.1.1, 12, .inl (fun _ => 0)))])) A s H locs → W p l e R s m av below meth c H locs (cells + 1) (slots + 12) Q (F0 m 789 ls [])) : W p l e R s m av below meth c H locs cells slots Q (F0 m 781 ls []) := by
  obtain ⟨hx, hb, hml, hown, hts, hK, hA, hZ, hlocks, hr, hN⟩ := id C
  refine lv_aload_n hx hb d_AModel_781 rfl (lv_at hl 0 rfl) ?_
  refine lv_bipush (v := 12) hx hb d_AModel_782 (by decide) ?_
  refine k_newi C h (by decide) rfl (Nat.le_of_ble_eq_true rfl) hc hs d_AModel_784 (fun q H h => ?_)
  refine cp_Model_marks C hin h (by rw [hfl]; decide) k1134 d_AModel_786 (fun H locs h => ?_)
  exact kk _ _ _ h
set_option maxHeartbeats 4000000 in
theorem sgm_33 (C : Cx g A p s m av meth c prog_13_method_1_code 1 "BellHammerModel" none) (hin : meth.name = "<init>") (hl : lv_has ls 1 [(0, .ref h0)]) (hfl : fs.length = 82) (h : Wl g ((h0, .inr (9, fs)) :: tl) A s H locs) (hc : cells + 1 ≤ R.cells) (hs : slots + 96 ≤ R.slots) (kk : ∀ (q : Nat) (H : Heap) (locs : List Loc), Wl g ((h0, .inr (9, fs.set 41 (.ref q))) :: (tl ++ [(q, .inl (g.2.1.1, 96, .inl (fun _ => 0)))])) A s H locs → W p l e R s m av below meth c H locs (cells + 1) (slots + 96) Q (F0 m 797 ls [])) : W p l e R s m av below meth c H locs cells slots Q (F0 m 789 ls []) := by
  obtain ⟨hx, hb, hml, hown, hts, hK, hA, hZ, hlocks, hr, hN⟩ := id C
  refine lv_aload_n hx hb d_AModel_789 rfl (lv_at hl 0 rfl) ?_
  refine lv_bipush (v := 96) hx hb d_AModel_790 (by decide) ?_
  refine k_newi C h (by decide) rfl (Nat.le_of_ble_eq_true rfl) hc hs d_AModel_792 (fun q H h => ?_)
  refine cp_Model_triers C hin h (by rw [hfl]; decide) k1135 d_AModel_794 (fun H locs h => ?_)
  exact kk _ _ _ h
set_option maxHeartbeats 4000000 in
theorem sgm_34 (C : Cx g A p s m av meth c prog_13_method_1_code 1 "BellHammerModel" none) (hin : meth.name = "<init>") (hl : lv_has ls 1 [(0, .ref h0)]) (hfl : fs.length = 82) (h : Wl g ((h0, .inr (9, fs)) :: tl) A s H locs) (hc : cells + 1 ≤ R.cells) (hs : slots + 18 ≤ R.slots) (kk : ∀ (q : Nat) (H : Heap) (locs : List Loc), Wl g ((h0, .inr (9, fs.set 42 (.ref q))) :: (tl ++ [(q, .inl (g.2.1.1, 18, .inl (upd (upd (upd (upd (upd (upd (upd (upd (upd (upd (upd (upd (upd (upd (upd (upd (upd (upd (fun _ => 0) (0 : Int32).toNatClampNeg 50) (1 : Int32).toNatClampNeg 1) (2 : Int32).toNatClampNeg 3) (3 : Int32).toNatClampNeg 20) (4 : Int32).toNatClampNeg 0) (5 : Int32).toNatClampNeg 3) (6 : Int32).toNatClampNeg 3) (7 : Int32).toNatClampNeg 1) (8 : Int32).toNatClampNeg 0) (9 : Int32).toNatClampNeg 50) (10 : Int32).toNatClampNeg 1) (11 : Int32).toNatClampNeg 3) (12 : Int32).toNatClampNeg 20) (13 : Int32).toNatClampNeg 0) (14 : Int32).toNatClampNeg 3) (15 : Int32).toNatClampNeg 3) (16 : Int32).toNatClampNeg 1) (17 : Int32).toNatClampNeg 0)))])) A s H locs → W p l e R s m av below meth c H locs (cells + 1) (slots + 18) Q (F0 m 893 ls [])) : W p l e R s m av below meth c H locs cells slots Q (F0 m 797 ls []) := by
  obtain ⟨hx, hb, hml, hown, hts, hK, hA, hZ, hlocks, hr, hN⟩ := id C
  refine lv_aload_n hx hb d_AModel_797 rfl (lv_at hl 0 rfl) ?_
  refine lv_bipush (v := 18) hx hb d_AModel_798 (by decide) ?_
  refine k_newi C h (by decide) rfl (Nat.le_of_ble_eq_true rfl) hc hs d_AModel_800 (fun q H h => ?_)
  refine lv_dup hx hb d_AModel_802 rfl ?_
  refine lv_iconst (v := 0) hx hb d_AModel_803 (by decide) ?_
  refine lv_bipush (v := 50) hx hb d_AModel_804 (by decide) ?_
  refine k_iasL C h (in_e (i := 0) (n := 18) (by decide)) d_AModel_806 (fun H locs h => ?_)
  refine lv_dup hx hb d_AModel_807 rfl ?_
  refine lv_iconst (v := 1) hx hb d_AModel_808 (by decide) ?_
  refine lv_iconst (v := 1) hx hb d_AModel_809 (by decide) ?_
  refine k_iasL C h (in_e (i := 1) (n := 18) (by decide)) d_AModel_810 (fun H locs h => ?_)
  refine lv_dup hx hb d_AModel_811 rfl ?_
  refine lv_iconst (v := 2) hx hb d_AModel_812 (by decide) ?_
  refine lv_iconst (v := 3) hx hb d_AModel_813 (by decide) ?_
  refine k_iasL C h (in_e (i := 2) (n := 18) (by decide)) d_AModel_814 (fun H locs h => ?_)
  refine lv_dup hx hb d_AModel_815 rfl ?_
  refine lv_iconst (v := 3) hx hb d_AModel_816 (by decide) ?_
  refine lv_bipush (v := 20) hx hb d_AModel_817 (by decide) ?_
  refine k_iasL C h (in_e (i := 3) (n := 18) (by decide)) d_AModel_819 (fun H locs h => ?_)
  refine lv_dup hx hb d_AModel_820 rfl ?_
  refine lv_iconst (v := 4) hx hb d_AModel_821 (by decide) ?_
  refine lv_iconst (v := 0) hx hb d_AModel_822 (by decide) ?_
  refine k_iasL C h (in_e (i := 4) (n := 18) (by decide)) d_AModel_823 (fun H locs h => ?_)
  refine lv_dup hx hb d_AModel_824 rfl ?_
  refine lv_iconst (v := 5) hx hb d_AModel_825 (by decide) ?_
  refine lv_iconst (v := 3) hx hb d_AModel_826 (by decide) ?_
  refine k_iasL C h (in_e (i := 5) (n := 18) (by decide)) d_AModel_827 (fun H locs h => ?_)
  refine lv_dup hx hb d_AModel_828 rfl ?_
  refine lv_bipush (v := 6) hx hb d_AModel_829 (by decide) ?_
  refine lv_iconst (v := 3) hx hb d_AModel_831 (by decide) ?_
  refine k_iasL C h (in_e (i := 6) (n := 18) (by decide)) d_AModel_832 (fun H locs h => ?_)
  refine lv_dup hx hb d_AModel_833 rfl ?_
  refine lv_bipush (v := 7) hx hb d_AModel_834 (by decide) ?_
  refine lv_iconst (v := 1) hx hb d_AModel_836 (by decide) ?_
  refine k_iasL C h (in_e (i := 7) (n := 18) (by decide)) d_AModel_837 (fun H locs h => ?_)
  refine lv_dup hx hb d_AModel_838 rfl ?_
  refine lv_bipush (v := 8) hx hb d_AModel_839 (by decide) ?_
  refine lv_iconst (v := 0) hx hb d_AModel_841 (by decide) ?_
  refine k_iasL C h (in_e (i := 8) (n := 18) (by decide)) d_AModel_842 (fun H locs h => ?_)
  refine lv_dup hx hb d_AModel_843 rfl ?_
  refine lv_bipush (v := 9) hx hb d_AModel_844 (by decide) ?_
  refine lv_bipush (v := 50) hx hb d_AModel_846 (by decide) ?_
  refine k_iasL C h (in_e (i := 9) (n := 18) (by decide)) d_AModel_848 (fun H locs h => ?_)
  refine lv_dup hx hb d_AModel_849 rfl ?_
  refine lv_bipush (v := 10) hx hb d_AModel_850 (by decide) ?_
  refine lv_iconst (v := 1) hx hb d_AModel_852 (by decide) ?_
  refine k_iasL C h (in_e (i := 10) (n := 18) (by decide)) d_AModel_853 (fun H locs h => ?_)
  refine lv_dup hx hb d_AModel_854 rfl ?_
  refine lv_bipush (v := 11) hx hb d_AModel_855 (by decide) ?_
  refine lv_iconst (v := 3) hx hb d_AModel_857 (by decide) ?_
  refine k_iasL C h (in_e (i := 11) (n := 18) (by decide)) d_AModel_858 (fun H locs h => ?_)
  refine lv_dup hx hb d_AModel_859 rfl ?_
  refine lv_bipush (v := 12) hx hb d_AModel_860 (by decide) ?_
  refine lv_bipush (v := 20) hx hb d_AModel_862 (by decide) ?_
  refine k_iasL C h (in_e (i := 12) (n := 18) (by decide)) d_AModel_864 (fun H locs h => ?_)
  refine lv_dup hx hb d_AModel_865 rfl ?_
  refine lv_bipush (v := 13) hx hb d_AModel_866 (by decide) ?_
  refine lv_iconst (v := 0) hx hb d_AModel_868 (by decide) ?_
  refine k_iasL C h (in_e (i := 13) (n := 18) (by decide)) d_AModel_869 (fun H locs h => ?_)
  refine lv_dup hx hb d_AModel_870 rfl ?_
  refine lv_bipush (v := 14) hx hb d_AModel_871 (by decide) ?_
  refine lv_iconst (v := 3) hx hb d_AModel_873 (by decide) ?_
  refine k_iasL C h (in_e (i := 14) (n := 18) (by decide)) d_AModel_874 (fun H locs h => ?_)
  refine lv_dup hx hb d_AModel_875 rfl ?_
  refine lv_bipush (v := 15) hx hb d_AModel_876 (by decide) ?_
  refine lv_iconst (v := 3) hx hb d_AModel_878 (by decide) ?_
  refine k_iasL C h (in_e (i := 15) (n := 18) (by decide)) d_AModel_879 (fun H locs h => ?_)
  refine lv_dup hx hb d_AModel_880 rfl ?_
  refine lv_bipush (v := 16) hx hb d_AModel_881 (by decide) ?_
  refine lv_iconst (v := 1) hx hb d_AModel_883 (by decide) ?_
  refine k_iasL C h (in_e (i := 16) (n := 18) (by decide)) d_AModel_884 (fun H locs h => ?_)
  refine lv_dup hx hb d_AModel_885 rfl ?_
  refine lv_bipush (v := 17) hx hb d_AModel_886 (by decide) ?_
  refine lv_iconst (v := 0) hx hb d_AModel_888 (by decide) ?_
  refine k_iasL C h (in_e (i := 17) (n := 18) (by decide)) d_AModel_889 (fun H locs h => ?_)
  refine cp_Model_told C hin h (by rw [hfl]; decide) k1136 d_AModel_890 (fun H locs h => ?_)
  exact kk _ _ _ h
set_option maxHeartbeats 4000000 in
theorem sgm_35 (C : Cx g A p s m av meth c prog_13_method_1_code 1 "BellHammerModel" none) (hin : meth.name = "<init>") (hl : lv_has ls 1 [(0, .ref h0)]) (hfl : fs.length = 82) (h : Wl g ((h0, .inr (9, fs)) :: tl) A s H locs) (hc : cells + 1 ≤ R.cells) (hs : slots + 3200 ≤ R.slots) (kk : ∀ (q : Nat) (H : Heap) (locs : List Loc), Wl g ((h0, .inr (9, fs.set 44 (.ref q))) :: (tl ++ [(q, .inl (g.2.1.1, 3200, .inl (fun _ => 0)))])) A s H locs → W p l e R s m av below meth c H locs (cells + 1) (slots + 3200) Q (F0 m 902 ls [])) : W p l e R s m av below meth c H locs cells slots Q (F0 m 893 ls []) := by
  obtain ⟨hx, hb, hml, hown, hts, hK, hA, hZ, hlocks, hr, hN⟩ := id C
  refine lv_aload_n hx hb d_AModel_893 rfl (lv_at hl 0 rfl) ?_
  refine lv_sipush (v := 3200) hx hb d_AModel_894 (by decide) ?_
  refine k_newi C h (by decide) rfl (Nat.le_of_ble_eq_true rfl) hc hs d_AModel_897 (fun q H h => ?_)
  refine cp_Model_codes C hin h (by rw [hfl]; decide) k1138 d_AModel_899 (fun H locs h => ?_)
  exact kk _ _ _ h
set_option maxHeartbeats 4000000 in
theorem sgm_36 (C : Cx g A p s m av meth c prog_13_method_1_code 1 "BellHammerModel" none) (hin : meth.name = "<init>") (hl : lv_has ls 1 [(0, .ref h0)]) (hfl : fs.length = 82) (h : Wl g ((h0, .inr (9, fs)) :: tl) A s H locs) (hc : cells + 1 ≤ R.cells) (hs : slots + 1700 ≤ R.slots) (kk : ∀ (q : Nat) (H : Heap) (locs : List Loc), Wl g ((h0, .inr (9, fs.set 46 (.ref q))) :: (tl ++ [(q, .inl (g.2.1.1, 1700, .inl (fun _ => 0)))])) A s H locs → W p l e R s m av below meth c H locs (cells + 1) (slots + 1700) Q (F0 m 911 ls [])) : W p l e R s m av below meth c H locs cells slots Q (F0 m 902 ls []) := by
  obtain ⟨hx, hb, hml, hown, hts, hK, hA, hZ, hlocks, hr, hN⟩ := id C
  refine lv_aload_n hx hb d_AModel_902 rfl (lv_at hl 0 rfl) ?_
  refine lv_sipush (v := 1700) hx hb d_AModel_903 (by decide) ?_
  refine k_newi C h (by decide) rfl (Nat.le_of_ble_eq_true rfl) hc hs d_AModel_906 (fun q H h => ?_)
  refine cp_Model_wait C hin h (by rw [hfl]; decide) k1140 d_AModel_908 (fun H locs h => ?_)
  exact kk _ _ _ h
set_option maxHeartbeats 4000000 in
theorem sgm_37 (C : Cx g A p s m av meth c prog_13_method_1_code 1 "BellHammerModel" none) (hin : meth.name = "<init>") (hl : lv_has ls 1 [(0, .ref h0)]) (hfl : fs.length = 82) (h : Wl g ((h0, .inr (9, fs)) :: tl) A s H locs) (hc : cells + 1 ≤ R.cells) (hs : slots + 12 ≤ R.slots) (kk : ∀ (q : Nat) (H : Heap) (locs : List Loc), Wl g ((h0, .inr (9, fs.set 49 (.ref q))) :: (tl ++ [(q, .inl (g.2.1.1, 12, .inl (fun _ => 0)))])) A s H locs → W p l e R s m av below meth c H locs (cells + 1) (slots + 12) Q (F0 m 919 ls [])) : W p l e R s m av below meth c H locs cells slots Q (F0 m 911 ls []) := by
  obtain ⟨hx, hb, hml, hown, hts, hK, hA, hZ, hlocks, hr, hN⟩ := id C
  refine lv_aload_n hx hb d_AModel_911 rfl (lv_at hl 0 rfl) ?_
  refine lv_bipush (v := 12) hx hb d_AModel_912 (by decide) ?_
  refine k_newi C h (by decide) rfl (Nat.le_of_ble_eq_true rfl) hc hs d_AModel_914 (fun q H h => ?_)
  refine cp_Model_testFrom C hin h (by rw [hfl]; decide) k1143 d_AModel_916 (fun H locs h => ?_)
  exact kk _ _ _ h
set_option maxHeartbeats 4000000 in
theorem sgm_38 (C : Cx g A p s m av meth c prog_13_method_1_code 1 "BellHammerModel" none) (hin : meth.name = "<init>") (hl : lv_has ls 1 [(0, .ref h0)]) (hfl : fs.length = 82) (h : Wl g ((h0, .inr (9, fs)) :: tl) A s H locs) (hc : cells + 1 ≤ R.cells) (hs : slots + 12 ≤ R.slots) (kk : ∀ (q : Nat) (H : Heap) (locs : List Loc), Wl g ((h0, .inr (9, fs.set 50 (.ref q))) :: (tl ++ [(q, .inl (g.2.1.1, 12, .inl (fun _ => 0)))])) A s H locs → W p l e R s m av below meth c H locs (cells + 1) (slots + 12) Q (F0 m 927 ls [])) : W p l e R s m av below meth c H locs cells slots Q (F0 m 919 ls []) := by
  obtain ⟨hx, hb, hml, hown, hts, hK, hA, hZ, hlocks, hr, hN⟩ := id C
  refine lv_aload_n hx hb d_AModel_919 rfl (lv_at hl 0 rfl) ?_
  refine lv_bipush (v := 12) hx hb d_AModel_920 (by decide) ?_
  refine k_newi C h (by decide) rfl (Nat.le_of_ble_eq_true rfl) hc hs d_AModel_922 (fun q H h => ?_)
  refine cp_Model_testEnd C hin h (by rw [hfl]; decide) k1144 d_AModel_924 (fun H locs h => ?_)
  exact kk _ _ _ h
set_option maxHeartbeats 4000000 in
theorem sgm_39 (C : Cx g A p s m av meth c prog_13_method_1_code 1 "BellHammerModel" none) (hin : meth.name = "<init>") (hl : lv_has ls 1 [(0, .ref h0)]) (hfl : fs.length = 82) (h : Wl g ((h0, .inr (9, fs)) :: tl) A s H locs) (hc : cells + 1 ≤ R.cells) (hs : slots + 1700 ≤ R.slots) (kk : ∀ (q : Nat) (H : Heap) (locs : List Loc), Wl g ((h0, .inr (9, fs.set 52 (.ref q))) :: (tl ++ [(q, .inl (g.2.1.2.1, 1700, .inr (.inl (fun _ => 0))))])) A s H locs → W p l e R s m av below meth c H locs (cells + 1) (slots + 1700) Q (F0 m 936 ls [])) : W p l e R s m av below meth c H locs cells slots Q (F0 m 927 ls []) := by
  obtain ⟨hx, hb, hml, hown, hts, hK, hA, hZ, hlocks, hr, hN⟩ := id C
  refine lv_aload_n hx hb d_AModel_927 rfl (lv_at hl 0 rfl) ?_
  refine lv_sipush (v := 1700) hx hb d_AModel_928 (by decide) ?_
  refine k_newj C h (by decide) rfl (Nat.le_of_ble_eq_true rfl) hc hs d_AModel_931 (fun q H h => ?_)
  refine cp_Model_pile C hin h (by rw [hfl]; decide) k1146 d_AModel_933 (fun H locs h => ?_)
  exact kk _ _ _ h
set_option maxHeartbeats 4000000 in
theorem sgm_40 (C : Cx g A p s m av meth c prog_13_method_1_code 1 "BellHammerModel" none) (hin : meth.name = "<init>") (hl : lv_has ls 1 [(0, .ref h0)]) (hfl : fs.length = 82) (h : Wl g ((h0, .inr (9, fs)) :: tl) A s H locs) (hc : cells + 1 ≤ R.cells) (hs : slots + 6 ≤ R.slots) (kk : ∀ (q : Nat) (H : Heap) (locs : List Loc), Wl g ((h0, .inr (9, fs.set 54 (.ref q))) :: (tl ++ [(q, .inl (g.2.1.1, 6, .inl (fun _ => 0)))])) A s H locs → W p l e R s m av below meth c H locs (cells + 1) (slots + 6) Q (F0 m 944 ls [])) : W p l e R s m av below meth c H locs cells slots Q (F0 m 936 ls []) := by
  obtain ⟨hx, hb, hml, hown, hts, hK, hA, hZ, hlocks, hr, hN⟩ := id C
  refine lv_aload_n hx hb d_AModel_936 rfl (lv_at hl 0 rfl) ?_
  refine lv_bipush (v := 6) hx hb d_AModel_937 (by decide) ?_
  refine k_newi C h (by decide) rfl (Nat.le_of_ble_eq_true rfl) hc hs d_AModel_939 (fun q H h => ?_)
  refine cp_Model_ask C hin h (by rw [hfl]; decide) k1148 d_AModel_941 (fun H locs h => ?_)
  exact kk _ _ _ h
set_option maxHeartbeats 4000000 in
theorem sgm_41 (C : Cx g A p s m av meth c prog_13_method_1_code 1 "BellHammerModel" none) (hin : meth.name = "<init>") (hl : lv_has ls 1 [(0, .ref h0)]) (hfl : fs.length = 82) (h : Wl g ((h0, .inr (9, fs)) :: tl) A s H locs) (hc : cells + 1 ≤ R.cells) (hs : slots + 10 ≤ R.slots) (kk : ∀ (q : Nat) (H : Heap) (locs : List Loc), Wl g ((h0, .inr (9, fs.set 55 (.ref q))) :: (tl ++ [(q, .inl (g.2.1.1, 10, .inl (upd (upd (upd (upd (upd (upd (upd (upd (upd (upd (fun _ => 0) (0 : Int32).toNatClampNeg 0) (1 : Int32).toNatClampNeg 0) (2 : Int32).toNatClampNeg 0) (3 : Int32).toNatClampNeg 50) (4 : Int32).toNatClampNeg 20) (5 : Int32).toNatClampNeg 1) (6 : Int32).toNatClampNeg 0) (7 : Int32).toNatClampNeg 0) (8 : Int32).toNatClampNeg 0) (9 : Int32).toNatClampNeg 0)))])) A s H locs → W p l e R s m av below meth c H locs (cells + 1) (slots + 10) Q (F0 m 998 ls [])) : W p l e R s m av below meth c H locs cells slots Q (F0 m 944 ls []) := by
  obtain ⟨hx, hb, hml, hown, hts, hK, hA, hZ, hlocks, hr, hN⟩ := id C
  refine lv_aload_n hx hb d_AModel_944 rfl (lv_at hl 0 rfl) ?_
  refine lv_bipush (v := 10) hx hb d_AModel_945 (by decide) ?_
  refine k_newi C h (by decide) rfl (Nat.le_of_ble_eq_true rfl) hc hs d_AModel_947 (fun q H h => ?_)
  refine lv_dup hx hb d_AModel_949 rfl ?_
  refine lv_iconst (v := 0) hx hb d_AModel_950 (by decide) ?_
  refine lv_iconst (v := 0) hx hb d_AModel_951 (by decide) ?_
  refine k_iasL C h (in_e (i := 0) (n := 10) (by decide)) d_AModel_952 (fun H locs h => ?_)
  refine lv_dup hx hb d_AModel_953 rfl ?_
  refine lv_iconst (v := 1) hx hb d_AModel_954 (by decide) ?_
  refine lv_iconst (v := 0) hx hb d_AModel_955 (by decide) ?_
  refine k_iasL C h (in_e (i := 1) (n := 10) (by decide)) d_AModel_956 (fun H locs h => ?_)
  refine lv_dup hx hb d_AModel_957 rfl ?_
  refine lv_iconst (v := 2) hx hb d_AModel_958 (by decide) ?_
  refine lv_iconst (v := 0) hx hb d_AModel_959 (by decide) ?_
  refine k_iasL C h (in_e (i := 2) (n := 10) (by decide)) d_AModel_960 (fun H locs h => ?_)
  refine lv_dup hx hb d_AModel_961 rfl ?_
  refine lv_iconst (v := 3) hx hb d_AModel_962 (by decide) ?_
  refine lv_bipush (v := 50) hx hb d_AModel_963 (by decide) ?_
  refine k_iasL C h (in_e (i := 3) (n := 10) (by decide)) d_AModel_965 (fun H locs h => ?_)
  refine lv_dup hx hb d_AModel_966 rfl ?_
  refine lv_iconst (v := 4) hx hb d_AModel_967 (by decide) ?_
  refine lv_bipush (v := 20) hx hb d_AModel_968 (by decide) ?_
  refine k_iasL C h (in_e (i := 4) (n := 10) (by decide)) d_AModel_970 (fun H locs h => ?_)
  refine lv_dup hx hb d_AModel_971 rfl ?_
  refine lv_iconst (v := 5) hx hb d_AModel_972 (by decide) ?_
  refine lv_iconst (v := 1) hx hb d_AModel_973 (by decide) ?_
  refine k_iasL C h (in_e (i := 5) (n := 10) (by decide)) d_AModel_974 (fun H locs h => ?_)
  refine lv_dup hx hb d_AModel_975 rfl ?_
  refine lv_bipush (v := 6) hx hb d_AModel_976 (by decide) ?_
  refine lv_iconst (v := 0) hx hb d_AModel_978 (by decide) ?_
  refine k_iasL C h (in_e (i := 6) (n := 10) (by decide)) d_AModel_979 (fun H locs h => ?_)
  refine lv_dup hx hb d_AModel_980 rfl ?_
  refine lv_bipush (v := 7) hx hb d_AModel_981 (by decide) ?_
  refine lv_iconst (v := 0) hx hb d_AModel_983 (by decide) ?_
  refine k_iasL C h (in_e (i := 7) (n := 10) (by decide)) d_AModel_984 (fun H locs h => ?_)
  refine lv_dup hx hb d_AModel_985 rfl ?_
  refine lv_bipush (v := 8) hx hb d_AModel_986 (by decide) ?_
  refine lv_iconst (v := 0) hx hb d_AModel_988 (by decide) ?_
  refine k_iasL C h (in_e (i := 8) (n := 10) (by decide)) d_AModel_989 (fun H locs h => ?_)
  refine lv_dup hx hb d_AModel_990 rfl ?_
  refine lv_bipush (v := 9) hx hb d_AModel_991 (by decide) ?_
  refine lv_iconst (v := 0) hx hb d_AModel_993 (by decide) ?_
  refine k_iasL C h (in_e (i := 9) (n := 10) (by decide)) d_AModel_994 (fun H locs h => ?_)
  refine cp_Model_now C hin h (by rw [hfl]; decide) k1149 d_AModel_995 (fun H locs h => ?_)
  exact kk _ _ _ h
set_option maxHeartbeats 4000000 in
theorem sgm_42 (C : Cx g A p s m av meth c prog_13_method_1_code 1 "BellHammerModel" none) (hin : meth.name = "<init>") (hl : lv_has ls 1 [(0, .ref h0)]) (hfl : fs.length = 82) (h : Wl g ((h0, .inr (9, fs)) :: tl) A s H locs) (hc : cells + 1 ≤ R.cells) (hs : slots + 300 ≤ R.slots) (kk : ∀ (q : Nat) (H : Heap) (locs : List Loc), Wl g ((h0, .inr (9, fs.set 56 (.ref q))) :: (tl ++ [(q, .inl (g.2.1.1, 300, .inl (fun _ => 0)))])) A s H locs → W p l e R s m av below meth c H locs (cells + 1) (slots + 300) Q (F0 m 1007 ls [])) : W p l e R s m av below meth c H locs cells slots Q (F0 m 998 ls []) := by
  obtain ⟨hx, hb, hml, hown, hts, hK, hA, hZ, hlocks, hr, hN⟩ := id C
  refine lv_aload_n hx hb d_AModel_998 rfl (lv_at hl 0 rfl) ?_
  refine lv_sipush (v := 300) hx hb d_AModel_999 (by decide) ?_
  refine k_newi C h (by decide) rfl (Nat.le_of_ble_eq_true rfl) hc hs d_AModel_1002 (fun q H h => ?_)
  refine cp_Model_blows C hin h (by rw [hfl]; decide) k1150 d_AModel_1004 (fun H locs h => ?_)
  exact kk _ _ _ h
set_option maxHeartbeats 4000000 in
theorem sgm_43 (C : Cx g A p s m av meth c prog_13_method_1_code 1 "BellHammerModel" none) (hin : meth.name = "<init>") (hl : lv_has ls 1 [(0, .ref h0)]) (hfl : fs.length = 82) (h : Wl g ((h0, .inr (9, fs)) :: tl) A s H locs) (hc : cells + 1 ≤ R.cells) (hs : slots + 6140 ≤ R.slots) (kk : ∀ (q : Nat) (H : Heap) (locs : List Loc), Wl g ((h0, .inr (9, fs.set 73 (.ref q))) :: (tl ++ [(q, .inl (g.2.1.1, 6140, .inl (fun _ => 0)))])) A s H locs → W p l e R s m av below meth c H locs (cells + 1) (slots + 6140) Q (F0 m 1016 ls [])) : W p l e R s m av below meth c H locs cells slots Q (F0 m 1007 ls []) := by
  obtain ⟨hx, hb, hml, hown, hts, hK, hA, hZ, hlocks, hr, hN⟩ := id C
  refine lv_aload_n hx hb d_AModel_1007 rfl (lv_at hl 0 rfl) ?_
  refine lv_sipush (v := 6140) hx hb d_AModel_1008 (by decide) ?_
  refine k_newi C h (by decide) rfl (Nat.le_of_ble_eq_true rfl) hc hs d_AModel_1011 (fun q H h => ?_)
  refine cp_Model_keptNow C hin h (by rw [hfl]; decide) k1167 d_AModel_1013 (fun H locs h => ?_)
  exact kk _ _ _ h
set_option maxHeartbeats 4000000 in
theorem sgm_44 (C : Cx g A p s m av meth c prog_13_method_1_code 1 "BellHammerModel" none) (hin : meth.name = "<init>") (hl : lv_has ls 1 [(0, .ref h0)]) (hfl : fs.length = 82) (h : Wl g ((h0, .inr (9, fs)) :: tl) A s H locs) (kk : ∀ (H : Heap) (locs : List Loc), Wl g ((h0, .inr (9, fs.set 76 (.long 1))) :: tl) A s H locs → W p l e R s m av below meth c H locs cells slots Q (F0 m 1021 ls [])) : W p l e R s m av below meth c H locs cells slots Q (F0 m 1016 ls []) := by
  obtain ⟨hx, hb, hml, hown, hts, hK, hA, hZ, hlocks, hr, hN⟩ := id C
  refine lv_aload_n hx hb d_AModel_1016 rfl (lv_at hl 0 rfl) ?_
  refine lv_lconst (v := 1) hx hb d_AModel_1017 (by decide) ?_
  refine cp_Model_seeded C h (by rw [hfl]; decide) k1170 d_AModel_1018 (fun H locs h => ?_)
  exact kk _ _ h
set_option maxHeartbeats 4000000 in
theorem sgm_45 (C : Cx g A p s m av meth c prog_13_method_1_code 1 "BellHammerModel" none) (hin : meth.name = "<init>") (hl : lv_has ls 1 [(0, .ref h0)]) (hfl : fs.length = 82) (h : Wl g ((h0, .inr (9, fs)) :: tl) A s H locs) (hc : cells + 1 ≤ R.cells) (hs : slots + 4 ≤ R.slots) (kk : ∀ (q : Nat) (H : Heap) (locs : List Loc), Wl g ((h0, .inr (9, fs.set 79 (.ref q))) :: (tl ++ [(q, .inl (g.2.1.1, 4, .inl (fun _ => 0)))])) A s H locs → W p l e R s m av below meth c H locs (cells + 1) (slots + 4) Q (F0 m 1028 ls [])) : W p l e R s m av below meth c H locs cells slots Q (F0 m 1021 ls []) := by
  obtain ⟨hx, hb, hml, hown, hts, hK, hA, hZ, hlocks, hr, hN⟩ := id C
  refine lv_aload_n hx hb d_AModel_1021 rfl (lv_at hl 0 rfl) ?_
  refine lv_iconst (v := 4) hx hb d_AModel_1022 (by decide) ?_
  refine k_newi C h (by decide) rfl (Nat.le_of_ble_eq_true rfl) hc hs d_AModel_1023 (fun q H h => ?_)
  refine cp_Model_seen C hin h (by rw [hfl]; decide) k1173 d_AModel_1025 (fun H locs h => ?_)
  exact kk _ _ _ h
set_option maxHeartbeats 4000000 in
theorem sgm_46 (C : Cx g A p s m av meth c prog_13_method_1_code 1 "BellHammerModel" none) (hin : meth.name = "<init>") (hl : lv_has ls 1 [(0, .ref h0)]) (hfl : fs.length = 82) (h : Wl g ((h0, .inr (9, fs)) :: tl) A s H locs) (hc : cells + 1 ≤ R.cells) (hs : slots + 10 ≤ R.slots) (kk : ∀ (q : Nat) (H : Heap) (locs : List Loc), Wl g ((h0, .inr (9, fs.set 80 (.ref q))) :: (tl ++ [(q, .inl (g.2.1.1, 10, .inl (fun _ => 0)))])) A s H locs → W p l e R s m av below meth c H locs (cells + 1) (slots + 10) Q (F0 m 1036 ls [])) : W p l e R s m av below meth c H locs cells slots Q (F0 m 1028 ls []) := by
  obtain ⟨hx, hb, hml, hown, hts, hK, hA, hZ, hlocks, hr, hN⟩ := id C
  refine lv_aload_n hx hb d_AModel_1028 rfl (lv_at hl 0 rfl) ?_
  refine lv_bipush (v := 10) hx hb d_AModel_1029 (by decide) ?_
  refine k_newi C h (by decide) rfl (Nat.le_of_ble_eq_true rfl) hc hs d_AModel_1031 (fun q H h => ?_)
  refine cp_Model_octet C hin h (by rw [hfl]; decide) k1174 d_AModel_1033 (fun H locs h => ?_)
  exact kk _ _ _ h
end RC
def wi_Model (g : GX) (q : Nat → Nat) : va_W := [((q 0), .inr (9, [.ref (q 1), .int 0, .int 0, .int 0, .int 0, .int 0, .int 0, .int 0, .int (-1), .ref (q 2), .ref (q 3), .ref (q 4), .ref (q 5), .ref (q 6), .ref (q 7), .ref (q 8), .ref (q 9), .ref (q 10), .ref (q 11), .ref (q 12), .ref (q 13), .ref (q 14), .ref (q 15), .ref (q 16), .ref (q 17), .ref (q 18), .ref (q 19), .ref (q 20), .ref (q 21), .ref (q 22), .ref (q 23), .ref (q 24), .ref (q 25), .ref (q 26), .ref (q 27), .ref (q 28), .ref (q 29), .int 0, .ref (q 30), .ref (q 31), .ref (q 32), .ref (q 33), .ref (q 34), .int 0, .ref (q 35), .int 0, .ref (q 36), .int 0, .int 0, .ref (q 37), .ref (q 38), .int 0, .ref (q 39), .int 0, .ref (q 40), .ref (q 41), .ref (q 42), .int 0, .int 0, .int 0, .int 0, .int 0, .int 0, .int 0, .int 0, .int 0, .long 0, .long 0, .long 0, .long 0, .long 0, .int 0, .int 0, .ref (q 43), .int 0, .int 0, .long 1, .int 0, .int 0, .ref (q 44), .ref (q 45), .int 0])), ((q 1), .inl (g.2.1.1, 1600, .inl (fun _ => 0))), ((q 2), .inl (g.2.1.1, 6, .inl (fun _ => 0))), ((q 3), .inl (g.2.1.2.2, 4, .inl (wchr 0))), ((q 4), .inl (g.2.1.2.2, 2, .inl (wchr 1))), ((q 5), .inl (g.2.1.2.2, 5, .inl (wchr 2))), ((q 6), .inl (g.2.1.2.2, 5, .inl (wchr 3))), ((q 7), .inl (g.2.1.2.2, 3, .inl (wchr 4))), ((q 8), .inl (g.2.1.2.2, 5, .inl (wchr 5))), ((q 9), .inl (g.2.1.2.2, 5, .inl (wchr 6))), ((q 10), .inl (g.2.1.2.2, 5, .inl (wchr 7))), ((q 11), .inl (g.2.1.2.2, 4, .inl (wchr 8))), ((q 12), .inl (g.2.1.2.2, 4, .inl (wchr 9))), ((q 13), .inl (g.2.1.2.2, 4, .inl (wchr 10))), ((q 14), .inl (g.2.1.2.2, 4, .inl (wchr 11))), ((q 15), .inl (g.2.1.2.2, 5, .inl (wchr 12))), ((q 16), .inl (g.2.1.2.2, 5, .inl (wchr 13))), ((q 17), .inl (g.2.1.2.2, 5, .inl (wchr 14))), ((q 18), .inl (g.2.1.2.2, 5, .inl (wchr 15))), ((q 19), .inl (g.2.1.2.2, 4, .inl (wchr 16))), ((q 20), .inl (g.2.1.2.2, 5, .inl (wchr 17))), ((q 21), .inl (g.2.1.2.2, 5, .inl (wchr 18))), ((q 22), .inl (g.2.1.2.2, 4, .inl (wchr 19))), ((q 23), .inl (g.2.1.2.2, 5, .inl (wchr 20))), ((q 24), .inl (g.2.1.2.2, 2, .inl (wchr 21))), ((q 25), .inl (g.2.1.2.2, 3, .inl (wchr 22))), ((q 26), .inl (g.2.1.2.2, 3, .inl (wchr 23))), ((q 27), .inl (g.2.1.2.2, 3, .inl (wchr 24))), ((q 28), .inl (g.2.1.2.2, 3, .inl (wchr 25))), ((q 29), .inl (g.2.1.2.2, 3, .inl (wchr 26))), ((q 30), .inl (g.2.1.1, 6, .inl (fun _ => 0))), ((q 31), .inl (g.2.1.2.1, 32, .inr (.inl (fun _ => 0)))), ((q 32), .inl (g.2.1.1, 12, .inl (fun _ => 0))), ((q 33), .inl (g.2.1.1, 96, .inl (fun _ => 0))), ((q 34), .inl (g.2.1.1, 18, .inl (upd (upd (upd (upd (upd (upd (upd (upd (upd (upd (upd (upd (upd (upd (upd (upd (upd (upd (fun _ => 0) (0 : Int32).toNatClampNeg 50) (1 : Int32).toNatClampNeg 1) (2 : Int32).toNatClampNeg 3) (3 : Int32).toNatClampNeg 20) (4 : Int32).toNatClampNeg 0) (5 : Int32).toNatClampNeg 3) (6 : Int32).toNatClampNeg 3) (7 : Int32).toNatClampNeg 1) (8 : Int32).toNatClampNeg 0) (9 : Int32).toNatClampNeg 50) (10 : Int32).toNatClampNeg 1) (11 : Int32).toNatClampNeg 3) (12 : Int32).toNatClampNeg 20) (13 : Int32).toNatClampNeg 0) (14 : Int32).toNatClampNeg 3) (15 : Int32).toNatClampNeg 3) (16 : Int32).toNatClampNeg 1) (17 : Int32).toNatClampNeg 0))), ((q 35), .inl (g.2.1.1, 3200, .inl (fun _ => 0))), ((q 36), .inl (g.2.1.1, 1700, .inl (fun _ => 0))), ((q 37), .inl (g.2.1.1, 12, .inl (fun _ => 0))), ((q 38), .inl (g.2.1.1, 12, .inl (fun _ => 0))), ((q 39), .inl (g.2.1.2.1, 1700, .inr (.inl (fun _ => 0)))), ((q 40), .inl (g.2.1.1, 6, .inl (fun _ => 0))), ((q 41), .inl (g.2.1.1, 10, .inl (upd (upd (upd (upd (upd (upd (upd (upd (upd (upd (fun _ => 0) (0 : Int32).toNatClampNeg 0) (1 : Int32).toNatClampNeg 0) (2 : Int32).toNatClampNeg 0) (3 : Int32).toNatClampNeg 50) (4 : Int32).toNatClampNeg 20) (5 : Int32).toNatClampNeg 1) (6 : Int32).toNatClampNeg 0) (7 : Int32).toNatClampNeg 0) (8 : Int32).toNatClampNeg 0) (9 : Int32).toNatClampNeg 0))), ((q 42), .inl (g.2.1.1, 300, .inl (fun _ => 0))), ((q 43), .inl (g.2.1.1, 6140, .inl (fun _ => 0))), ((q 44), .inl (g.2.1.1, 4, .inl (fun _ => 0))), ((q 45), .inl (g.2.1.1, 10, .inl (fun _ => 0)))]
set_option maxHeartbeats 16000000 in
set_option maxRecDepth 100000 in
theorem a_Model {l : Launch} {g : GX} {h0 : Nat} : KA l y_AModel prog_13_method_1_code 1 1 45 14974 g [(h0, .inr (9, [.null, .int 0, .int 0, .int 0, .int 0, .int 0, .int 0, .int 0, .int 0, .null, .null, .null, .null, .null, .null, .null, .null, .null, .null, .null, .null, .null, .null, .null, .null, .null, .null, .null, .null, .null, .null, .null, .null, .null, .null, .null, .null, .int 0, .null, .null, .null, .null, .null, .int 0, .null, .int 0, .null, .int 0, .int 0, .null, .null, .int 0, .null, .int 0, .null, .null, .null, .int 0, .int 0, .int 0, .int 0, .int 0, .int 0, .int 0, .int 0, .int 0, .long 0, .long 0, .long 0, .long 0, .long 0, .int 0, .int 0, .null, .int 0, .int 0, .long 0, .int 0, .int 0, .null, .null, .int 0]))] [.ref h0] (fun w => ∃ q : Nat → Nat, q 0 = h0 ∧ w = wi_Model g q) := by
  refine KA_of (plainFor_of_name (by decide)) (Nat.le_of_ble_eq_true rfl) (fun p e s m below meth c A ls C hin h hl => ?_)
  have hl : lv_has ls 1 [(0, .ref h0)] := hl
  obtain ⟨hx, hb, hml, hown, hts, hK, hA, hZ, hlocks, hr, hN⟩ := id C
  generalize ([] : List Loc) = locs at h ⊢
  refine lv_aload_n hx hb d_AModel_0 rfl (lv_at hl 0 rfl) ?_
  refine k_init C hl.1 k1093 d_AModel_1 (Nat.le_of_ble_eq_true rfl) (Nat.le_of_ble_eq_true rfl) ?_
  refine sgm_0 C hin hl rfl h (Nat.le_of_ble_eq_true rfl) (Nat.le_of_ble_eq_true rfl) (fun b0 H locs h1 => ?_)
  clear h
  have h : Wl g [(h0, .inr (9, [.ref b0, .int 0, .int 0, .int 0, .int 0, .int 0, .int 0, .int 0, .int 0, .null, .null, .null, .null, .null, .null, .null, .null, .null, .null, .null, .null, .null, .null, .null, .null, .null, .null, .null, .null, .null, .null, .null, .null, .null, .null, .null, .null, .int 0, .null, .null, .null, .null, .null, .int 0, .null, .int 0, .null, .int 0, .int 0, .null, .null, .int 0, .null, .int 0, .null, .null, .null, .int 0, .int 0, .int 0, .int 0, .int 0, .int 0, .int 0, .int 0, .int 0, .long 0, .long 0, .long 0, .long 0, .long 0, .int 0, .int 0, .null, .int 0, .int 0, .long 0, .int 0, .int 0, .null, .null, .int 0])), (b0, .inl (g.2.1.1, 1600, .inl (fun _ => 0)))] A s H locs := h1
  clear h1
  refine sgm_1 C hin hl rfl h (fun H locs h1 => ?_)
  clear h
  have h : Wl g [(h0, .inr (9, [.ref b0, .int 0, .int 0, .int 0, .int 0, .int 0, .int 0, .int 0, .int (-1), .null, .null, .null, .null, .null, .null, .null, .null, .null, .null, .null, .null, .null, .null, .null, .null, .null, .null, .null, .null, .null, .null, .null, .null, .null, .null, .null, .null, .int 0, .null, .null, .null, .null, .null, .int 0, .null, .int 0, .null, .int 0, .int 0, .null, .null, .int 0, .null, .int 0, .null, .null, .null, .int 0, .int 0, .int 0, .int 0, .int 0, .int 0, .int 0, .int 0, .int 0, .long 0, .long 0, .long 0, .long 0, .long 0, .int 0, .int 0, .null, .int 0, .int 0, .long 0, .int 0, .int 0, .null, .null, .int 0])), (b0, .inl (g.2.1.1, 1600, .inl (fun _ => 0)))] A s H locs := h1
  clear h1
  refine sgm_2 C hin hl rfl h (Nat.le_of_ble_eq_true rfl) (Nat.le_of_ble_eq_true rfl) (fun b1 H locs h1 => ?_)
  clear h
  have h : Wl g [(h0, .inr (9, [.ref b0, .int 0, .int 0, .int 0, .int 0, .int 0, .int 0, .int 0, .int (-1), .ref b1, .null, .null, .null, .null, .null, .null, .null, .null, .null, .null, .null, .null, .null, .null, .null, .null, .null, .null, .null, .null, .null, .null, .null, .null, .null, .null, .null, .int 0, .null, .null, .null, .null, .null, .int 0, .null, .int 0, .null, .int 0, .int 0, .null, .null, .int 0, .null, .int 0, .null, .null, .null, .int 0, .int 0, .int 0, .int 0, .int 0, .int 0, .int 0, .int 0, .int 0, .long 0, .long 0, .long 0, .long 0, .long 0, .int 0, .int 0, .null, .int 0, .int 0, .long 0, .int 0, .int 0, .null, .null, .int 0])), (b0, .inl (g.2.1.1, 1600, .inl (fun _ => 0))), (b1, .inl (g.2.1.1, 6, .inl (fun _ => 0)))] A s H locs := h1
  clear h1
  refine sgm_3 C hin hl rfl h (Nat.le_of_ble_eq_true rfl) (Nat.le_of_ble_eq_true rfl) (fun b2 H locs h1 => ?_)
  clear h
  have h : Wl g [(h0, .inr (9, [.ref b0, .int 0, .int 0, .int 0, .int 0, .int 0, .int 0, .int 0, .int (-1), .ref b1, .ref b2, .null, .null, .null, .null, .null, .null, .null, .null, .null, .null, .null, .null, .null, .null, .null, .null, .null, .null, .null, .null, .null, .null, .null, .null, .null, .null, .int 0, .null, .null, .null, .null, .null, .int 0, .null, .int 0, .null, .int 0, .int 0, .null, .null, .int 0, .null, .int 0, .null, .null, .null, .int 0, .int 0, .int 0, .int 0, .int 0, .int 0, .int 0, .int 0, .int 0, .long 0, .long 0, .long 0, .long 0, .long 0, .int 0, .int 0, .null, .int 0, .int 0, .long 0, .int 0, .int 0, .null, .null, .int 0])), (b0, .inl (g.2.1.1, 1600, .inl (fun _ => 0))), (b1, .inl (g.2.1.1, 6, .inl (fun _ => 0))), (b2, .inl (g.2.1.2.2, 4, .inl (wchr 0)))] A s H locs := h1
  clear h1
  refine sgm_4 C hin hl rfl h (Nat.le_of_ble_eq_true rfl) (Nat.le_of_ble_eq_true rfl) (fun b3 H locs h1 => ?_)
  clear h
  have h : Wl g [(h0, .inr (9, [.ref b0, .int 0, .int 0, .int 0, .int 0, .int 0, .int 0, .int 0, .int (-1), .ref b1, .ref b2, .ref b3, .null, .null, .null, .null, .null, .null, .null, .null, .null, .null, .null, .null, .null, .null, .null, .null, .null, .null, .null, .null, .null, .null, .null, .null, .null, .int 0, .null, .null, .null, .null, .null, .int 0, .null, .int 0, .null, .int 0, .int 0, .null, .null, .int 0, .null, .int 0, .null, .null, .null, .int 0, .int 0, .int 0, .int 0, .int 0, .int 0, .int 0, .int 0, .int 0, .long 0, .long 0, .long 0, .long 0, .long 0, .int 0, .int 0, .null, .int 0, .int 0, .long 0, .int 0, .int 0, .null, .null, .int 0])), (b0, .inl (g.2.1.1, 1600, .inl (fun _ => 0))), (b1, .inl (g.2.1.1, 6, .inl (fun _ => 0))), (b2, .inl (g.2.1.2.2, 4, .inl (wchr 0))), (b3, .inl (g.2.1.2.2, 2, .inl (wchr 1)))] A s H locs := h1
  clear h1
  refine sgm_5 C hin hl rfl h (Nat.le_of_ble_eq_true rfl) (Nat.le_of_ble_eq_true rfl) (fun b4 H locs h1 => ?_)
  clear h
  have h : Wl g [(h0, .inr (9, [.ref b0, .int 0, .int 0, .int 0, .int 0, .int 0, .int 0, .int 0, .int (-1), .ref b1, .ref b2, .ref b3, .ref b4, .null, .null, .null, .null, .null, .null, .null, .null, .null, .null, .null, .null, .null, .null, .null, .null, .null, .null, .null, .null, .null, .null, .null, .null, .int 0, .null, .null, .null, .null, .null, .int 0, .null, .int 0, .null, .int 0, .int 0, .null, .null, .int 0, .null, .int 0, .null, .null, .null, .int 0, .int 0, .int 0, .int 0, .int 0, .int 0, .int 0, .int 0, .int 0, .long 0, .long 0, .long 0, .long 0, .long 0, .int 0, .int 0, .null, .int 0, .int 0, .long 0, .int 0, .int 0, .null, .null, .int 0])), (b0, .inl (g.2.1.1, 1600, .inl (fun _ => 0))), (b1, .inl (g.2.1.1, 6, .inl (fun _ => 0))), (b2, .inl (g.2.1.2.2, 4, .inl (wchr 0))), (b3, .inl (g.2.1.2.2, 2, .inl (wchr 1))), (b4, .inl (g.2.1.2.2, 5, .inl (wchr 2)))] A s H locs := h1
  clear h1
  refine sgm_6 C hin hl rfl h (Nat.le_of_ble_eq_true rfl) (Nat.le_of_ble_eq_true rfl) (fun b5 H locs h1 => ?_)
  clear h
  have h : Wl g [(h0, .inr (9, [.ref b0, .int 0, .int 0, .int 0, .int 0, .int 0, .int 0, .int 0, .int (-1), .ref b1, .ref b2, .ref b3, .ref b4, .ref b5, .null, .null, .null, .null, .null, .null, .null, .null, .null, .null, .null, .null, .null, .null, .null, .null, .null, .null, .null, .null, .null, .null, .null, .int 0, .null, .null, .null, .null, .null, .int 0, .null, .int 0, .null, .int 0, .int 0, .null, .null, .int 0, .null, .int 0, .null, .null, .null, .int 0, .int 0, .int 0, .int 0, .int 0, .int 0, .int 0, .int 0, .int 0, .long 0, .long 0, .long 0, .long 0, .long 0, .int 0, .int 0, .null, .int 0, .int 0, .long 0, .int 0, .int 0, .null, .null, .int 0])), (b0, .inl (g.2.1.1, 1600, .inl (fun _ => 0))), (b1, .inl (g.2.1.1, 6, .inl (fun _ => 0))), (b2, .inl (g.2.1.2.2, 4, .inl (wchr 0))), (b3, .inl (g.2.1.2.2, 2, .inl (wchr 1))), (b4, .inl (g.2.1.2.2, 5, .inl (wchr 2))), (b5, .inl (g.2.1.2.2, 5, .inl (wchr 3)))] A s H locs := h1
  clear h1
  refine sgm_7 C hin hl rfl h (Nat.le_of_ble_eq_true rfl) (Nat.le_of_ble_eq_true rfl) (fun b6 H locs h1 => ?_)
  clear h
  have h : Wl g [(h0, .inr (9, [.ref b0, .int 0, .int 0, .int 0, .int 0, .int 0, .int 0, .int 0, .int (-1), .ref b1, .ref b2, .ref b3, .ref b4, .ref b5, .ref b6, .null, .null, .null, .null, .null, .null, .null, .null, .null, .null, .null, .null, .null, .null, .null, .null, .null, .null, .null, .null, .null, .null, .int 0, .null, .null, .null, .null, .null, .int 0, .null, .int 0, .null, .int 0, .int 0, .null, .null, .int 0, .null, .int 0, .null, .null, .null, .int 0, .int 0, .int 0, .int 0, .int 0, .int 0, .int 0, .int 0, .int 0, .long 0, .long 0, .long 0, .long 0, .long 0, .int 0, .int 0, .null, .int 0, .int 0, .long 0, .int 0, .int 0, .null, .null, .int 0])), (b0, .inl (g.2.1.1, 1600, .inl (fun _ => 0))), (b1, .inl (g.2.1.1, 6, .inl (fun _ => 0))), (b2, .inl (g.2.1.2.2, 4, .inl (wchr 0))), (b3, .inl (g.2.1.2.2, 2, .inl (wchr 1))), (b4, .inl (g.2.1.2.2, 5, .inl (wchr 2))), (b5, .inl (g.2.1.2.2, 5, .inl (wchr 3))), (b6, .inl (g.2.1.2.2, 3, .inl (wchr 4)))] A s H locs := h1
  clear h1
  refine sgm_8 C hin hl rfl h (Nat.le_of_ble_eq_true rfl) (Nat.le_of_ble_eq_true rfl) (fun b7 H locs h1 => ?_)
  clear h
  have h : Wl g [(h0, .inr (9, [.ref b0, .int 0, .int 0, .int 0, .int 0, .int 0, .int 0, .int 0, .int (-1), .ref b1, .ref b2, .ref b3, .ref b4, .ref b5, .ref b6, .ref b7, .null, .null, .null, .null, .null, .null, .null, .null, .null, .null, .null, .null, .null, .null, .null, .null, .null, .null, .null, .null, .null, .int 0, .null, .null, .null, .null, .null, .int 0, .null, .int 0, .null, .int 0, .int 0, .null, .null, .int 0, .null, .int 0, .null, .null, .null, .int 0, .int 0, .int 0, .int 0, .int 0, .int 0, .int 0, .int 0, .int 0, .long 0, .long 0, .long 0, .long 0, .long 0, .int 0, .int 0, .null, .int 0, .int 0, .long 0, .int 0, .int 0, .null, .null, .int 0])), (b0, .inl (g.2.1.1, 1600, .inl (fun _ => 0))), (b1, .inl (g.2.1.1, 6, .inl (fun _ => 0))), (b2, .inl (g.2.1.2.2, 4, .inl (wchr 0))), (b3, .inl (g.2.1.2.2, 2, .inl (wchr 1))), (b4, .inl (g.2.1.2.2, 5, .inl (wchr 2))), (b5, .inl (g.2.1.2.2, 5, .inl (wchr 3))), (b6, .inl (g.2.1.2.2, 3, .inl (wchr 4))), (b7, .inl (g.2.1.2.2, 5, .inl (wchr 5)))] A s H locs := h1
  clear h1
  refine sgm_9 C hin hl rfl h (Nat.le_of_ble_eq_true rfl) (Nat.le_of_ble_eq_true rfl) (fun b8 H locs h1 => ?_)
  clear h
  have h : Wl g [(h0, .inr (9, [.ref b0, .int 0, .int 0, .int 0, .int 0, .int 0, .int 0, .int 0, .int (-1), .ref b1, .ref b2, .ref b3, .ref b4, .ref b5, .ref b6, .ref b7, .ref b8, .null, .null, .null, .null, .null, .null, .null, .null, .null, .null, .null, .null, .null, .null, .null, .null, .null, .null, .null, .null, .int 0, .null, .null, .null, .null, .null, .int 0, .null, .int 0, .null, .int 0, .int 0, .null, .null, .int 0, .null, .int 0, .null, .null, .null, .int 0, .int 0, .int 0, .int 0, .int 0, .int 0, .int 0, .int 0, .int 0, .long 0, .long 0, .long 0, .long 0, .long 0, .int 0, .int 0, .null, .int 0, .int 0, .long 0, .int 0, .int 0, .null, .null, .int 0])), (b0, .inl (g.2.1.1, 1600, .inl (fun _ => 0))), (b1, .inl (g.2.1.1, 6, .inl (fun _ => 0))), (b2, .inl (g.2.1.2.2, 4, .inl (wchr 0))), (b3, .inl (g.2.1.2.2, 2, .inl (wchr 1))), (b4, .inl (g.2.1.2.2, 5, .inl (wchr 2))), (b5, .inl (g.2.1.2.2, 5, .inl (wchr 3))), (b6, .inl (g.2.1.2.2, 3, .inl (wchr 4))), (b7, .inl (g.2.1.2.2, 5, .inl (wchr 5))), (b8, .inl (g.2.1.2.2, 5, .inl (wchr 6)))] A s H locs := h1
  clear h1
  refine sgm_10 C hin hl rfl h (Nat.le_of_ble_eq_true rfl) (Nat.le_of_ble_eq_true rfl) (fun b9 H locs h1 => ?_)
  clear h
  have h : Wl g [(h0, .inr (9, [.ref b0, .int 0, .int 0, .int 0, .int 0, .int 0, .int 0, .int 0, .int (-1), .ref b1, .ref b2, .ref b3, .ref b4, .ref b5, .ref b6, .ref b7, .ref b8, .ref b9, .null, .null, .null, .null, .null, .null, .null, .null, .null, .null, .null, .null, .null, .null, .null, .null, .null, .null, .null, .int 0, .null, .null, .null, .null, .null, .int 0, .null, .int 0, .null, .int 0, .int 0, .null, .null, .int 0, .null, .int 0, .null, .null, .null, .int 0, .int 0, .int 0, .int 0, .int 0, .int 0, .int 0, .int 0, .int 0, .long 0, .long 0, .long 0, .long 0, .long 0, .int 0, .int 0, .null, .int 0, .int 0, .long 0, .int 0, .int 0, .null, .null, .int 0])), (b0, .inl (g.2.1.1, 1600, .inl (fun _ => 0))), (b1, .inl (g.2.1.1, 6, .inl (fun _ => 0))), (b2, .inl (g.2.1.2.2, 4, .inl (wchr 0))), (b3, .inl (g.2.1.2.2, 2, .inl (wchr 1))), (b4, .inl (g.2.1.2.2, 5, .inl (wchr 2))), (b5, .inl (g.2.1.2.2, 5, .inl (wchr 3))), (b6, .inl (g.2.1.2.2, 3, .inl (wchr 4))), (b7, .inl (g.2.1.2.2, 5, .inl (wchr 5))), (b8, .inl (g.2.1.2.2, 5, .inl (wchr 6))), (b9, .inl (g.2.1.2.2, 5, .inl (wchr 7)))] A s H locs := h1
  clear h1
  refine sgm_11 C hin hl rfl h (Nat.le_of_ble_eq_true rfl) (Nat.le_of_ble_eq_true rfl) (fun b10 H locs h1 => ?_)
  clear h
  have h : Wl g [(h0, .inr (9, [.ref b0, .int 0, .int 0, .int 0, .int 0, .int 0, .int 0, .int 0, .int (-1), .ref b1, .ref b2, .ref b3, .ref b4, .ref b5, .ref b6, .ref b7, .ref b8, .ref b9, .ref b10, .null, .null, .null, .null, .null, .null, .null, .null, .null, .null, .null, .null, .null, .null, .null, .null, .null, .null, .int 0, .null, .null, .null, .null, .null, .int 0, .null, .int 0, .null, .int 0, .int 0, .null, .null, .int 0, .null, .int 0, .null, .null, .null, .int 0, .int 0, .int 0, .int 0, .int 0, .int 0, .int 0, .int 0, .int 0, .long 0, .long 0, .long 0, .long 0, .long 0, .int 0, .int 0, .null, .int 0, .int 0, .long 0, .int 0, .int 0, .null, .null, .int 0])), (b0, .inl (g.2.1.1, 1600, .inl (fun _ => 0))), (b1, .inl (g.2.1.1, 6, .inl (fun _ => 0))), (b2, .inl (g.2.1.2.2, 4, .inl (wchr 0))), (b3, .inl (g.2.1.2.2, 2, .inl (wchr 1))), (b4, .inl (g.2.1.2.2, 5, .inl (wchr 2))), (b5, .inl (g.2.1.2.2, 5, .inl (wchr 3))), (b6, .inl (g.2.1.2.2, 3, .inl (wchr 4))), (b7, .inl (g.2.1.2.2, 5, .inl (wchr 5))), (b8, .inl (g.2.1.2.2, 5, .inl (wchr 6))), (b9, .inl (g.2.1.2.2, 5, .inl (wchr 7))), (b10, .inl (g.2.1.2.2, 4, .inl (wchr 8)))] A s H locs := h1
  clear h1
  refine sgm_12 C hin hl rfl h (Nat.le_of_ble_eq_true rfl) (Nat.le_of_ble_eq_true rfl) (fun b11 H locs h1 => ?_)
  clear h
  have h : Wl g [(h0, .inr (9, [.ref b0, .int 0, .int 0, .int 0, .int 0, .int 0, .int 0, .int 0, .int (-1), .ref b1, .ref b2, .ref b3, .ref b4, .ref b5, .ref b6, .ref b7, .ref b8, .ref b9, .ref b10, .ref b11, .null, .null, .null, .null, .null, .null, .null, .null, .null, .null, .null, .null, .null, .null, .null, .null, .null, .int 0, .null, .null, .null, .null, .null, .int 0, .null, .int 0, .null, .int 0, .int 0, .null, .null, .int 0, .null, .int 0, .null, .null, .null, .int 0, .int 0, .int 0, .int 0, .int 0, .int 0, .int 0, .int 0, .int 0, .long 0, .long 0, .long 0, .long 0, .long 0, .int 0, .int 0, .null, .int 0, .int 0, .long 0, .int 0, .int 0, .null, .null, .int 0])), (b0, .inl (g.2.1.1, 1600, .inl (fun _ => 0))), (b1, .inl (g.2.1.1, 6, .inl (fun _ => 0))), (b2, .inl (g.2.1.2.2, 4, .inl (wchr 0))), (b3, .inl (g.2.1.2.2, 2, .inl (wchr 1))), (b4, .inl (g.2.1.2.2, 5, .inl (wchr 2))), (b5, .inl (g.2.1.2.2, 5, .inl (wchr 3))), (b6, .inl (g.2.1.2.2, 3, .inl (wchr 4))), (b7, .inl (g.2.1.2.2, 5, .inl (wchr 5))), (b8, .inl (g.2.1.2.2, 5, .inl (wchr 6))), (b9, .inl (g.2.1.2.2, 5, .inl (wchr 7))), (b10, .inl (g.2.1.2.2, 4, .inl (wchr 8))), (b11, .inl (g.2.1.2.2, 4, .inl (wchr 9)))] A s H locs := h1
  clear h1
  refine sgm_13 C hin hl rfl h (Nat.le_of_ble_eq_true rfl) (Nat.le_of_ble_eq_true rfl) (fun b12 H locs h1 => ?_)
  clear h
  have h : Wl g [(h0, .inr (9, [.ref b0, .int 0, .int 0, .int 0, .int 0, .int 0, .int 0, .int 0, .int (-1), .ref b1, .ref b2, .ref b3, .ref b4, .ref b5, .ref b6, .ref b7, .ref b8, .ref b9, .ref b10, .ref b11, .ref b12, .null, .null, .null, .null, .null, .null, .null, .null, .null, .null, .null, .null, .null, .null, .null, .null, .int 0, .null, .null, .null, .null, .null, .int 0, .null, .int 0, .null, .int 0, .int 0, .null, .null, .int 0, .null, .int 0, .null, .null, .null, .int 0, .int 0, .int 0, .int 0, .int 0, .int 0, .int 0, .int 0, .int 0, .long 0, .long 0, .long 0, .long 0, .long 0, .int 0, .int 0, .null, .int 0, .int 0, .long 0, .int 0, .int 0, .null, .null, .int 0])), (b0, .inl (g.2.1.1, 1600, .inl (fun _ => 0))), (b1, .inl (g.2.1.1, 6, .inl (fun _ => 0))), (b2, .inl (g.2.1.2.2, 4, .inl (wchr 0))), (b3, .inl (g.2.1.2.2, 2, .inl (wchr 1))), (b4, .inl (g.2.1.2.2, 5, .inl (wchr 2))), (b5, .inl (g.2.1.2.2, 5, .inl (wchr 3))), (b6, .inl (g.2.1.2.2, 3, .inl (wchr 4))), (b7, .inl (g.2.1.2.2, 5, .inl (wchr 5))), (b8, .inl (g.2.1.2.2, 5, .inl (wchr 6))), (b9, .inl (g.2.1.2.2, 5, .inl (wchr 7))), (b10, .inl (g.2.1.2.2, 4, .inl (wchr 8))), (b11, .inl (g.2.1.2.2, 4, .inl (wchr 9))), (b12, .inl (g.2.1.2.2, 4, .inl (wchr 10)))] A s H locs := h1
  clear h1
  refine sgm_14 C hin hl rfl h (Nat.le_of_ble_eq_true rfl) (Nat.le_of_ble_eq_true rfl) (fun b13 H locs h1 => ?_)
  clear h
  have h : Wl g [(h0, .inr (9, [.ref b0, .int 0, .int 0, .int 0, .int 0, .int 0, .int 0, .int 0, .int (-1), .ref b1, .ref b2, .ref b3, .ref b4, .ref b5, .ref b6, .ref b7, .ref b8, .ref b9, .ref b10, .ref b11, .ref b12, .ref b13, .null, .null, .null, .null, .null, .null, .null, .null, .null, .null, .null, .null, .null, .null, .null, .int 0, .null, .null, .null, .null, .null, .int 0, .null, .int 0, .null, .int 0, .int 0, .null, .null, .int 0, .null, .int 0, .null, .null, .null, .int 0, .int 0, .int 0, .int 0, .int 0, .int 0, .int 0, .int 0, .int 0, .long 0, .long 0, .long 0, .long 0, .long 0, .int 0, .int 0, .null, .int 0, .int 0, .long 0, .int 0, .int 0, .null, .null, .int 0])), (b0, .inl (g.2.1.1, 1600, .inl (fun _ => 0))), (b1, .inl (g.2.1.1, 6, .inl (fun _ => 0))), (b2, .inl (g.2.1.2.2, 4, .inl (wchr 0))), (b3, .inl (g.2.1.2.2, 2, .inl (wchr 1))), (b4, .inl (g.2.1.2.2, 5, .inl (wchr 2))), (b5, .inl (g.2.1.2.2, 5, .inl (wchr 3))), (b6, .inl (g.2.1.2.2, 3, .inl (wchr 4))), (b7, .inl (g.2.1.2.2, 5, .inl (wchr 5))), (b8, .inl (g.2.1.2.2, 5, .inl (wchr 6))), (b9, .inl (g.2.1.2.2, 5, .inl (wchr 7))), (b10, .inl (g.2.1.2.2, 4, .inl (wchr 8))), (b11, .inl (g.2.1.2.2, 4, .inl (wchr 9))), (b12, .inl (g.2.1.2.2, 4, .inl (wchr 10))), (b13, .inl (g.2.1.2.2, 4, .inl (wchr 11)))] A s H locs := h1
  clear h1
  refine sgm_15 C hin hl rfl h (Nat.le_of_ble_eq_true rfl) (Nat.le_of_ble_eq_true rfl) (fun b14 H locs h1 => ?_)
  clear h
  have h : Wl g [(h0, .inr (9, [.ref b0, .int 0, .int 0, .int 0, .int 0, .int 0, .int 0, .int 0, .int (-1), .ref b1, .ref b2, .ref b3, .ref b4, .ref b5, .ref b6, .ref b7, .ref b8, .ref b9, .ref b10, .ref b11, .ref b12, .ref b13, .ref b14, .null, .null, .null, .null, .null, .null, .null, .null, .null, .null, .null, .null, .null, .null, .int 0, .null, .null, .null, .null, .null, .int 0, .null, .int 0, .null, .int 0, .int 0, .null, .null, .int 0, .null, .int 0, .null, .null, .null, .int 0, .int 0, .int 0, .int 0, .int 0, .int 0, .int 0, .int 0, .int 0, .long 0, .long 0, .long 0, .long 0, .long 0, .int 0, .int 0, .null, .int 0, .int 0, .long 0, .int 0, .int 0, .null, .null, .int 0])), (b0, .inl (g.2.1.1, 1600, .inl (fun _ => 0))), (b1, .inl (g.2.1.1, 6, .inl (fun _ => 0))), (b2, .inl (g.2.1.2.2, 4, .inl (wchr 0))), (b3, .inl (g.2.1.2.2, 2, .inl (wchr 1))), (b4, .inl (g.2.1.2.2, 5, .inl (wchr 2))), (b5, .inl (g.2.1.2.2, 5, .inl (wchr 3))), (b6, .inl (g.2.1.2.2, 3, .inl (wchr 4))), (b7, .inl (g.2.1.2.2, 5, .inl (wchr 5))), (b8, .inl (g.2.1.2.2, 5, .inl (wchr 6))), (b9, .inl (g.2.1.2.2, 5, .inl (wchr 7))), (b10, .inl (g.2.1.2.2, 4, .inl (wchr 8))), (b11, .inl (g.2.1.2.2, 4, .inl (wchr 9))), (b12, .inl (g.2.1.2.2, 4, .inl (wchr 10))), (b13, .inl (g.2.1.2.2, 4, .inl (wchr 11))), (b14, .inl (g.2.1.2.2, 5, .inl (wchr 12)))] A s H locs := h1
  clear h1
  refine sgm_16 C hin hl rfl h (Nat.le_of_ble_eq_true rfl) (Nat.le_of_ble_eq_true rfl) (fun b15 H locs h1 => ?_)
  clear h
  have h : Wl g [(h0, .inr (9, [.ref b0, .int 0, .int 0, .int 0, .int 0, .int 0, .int 0, .int 0, .int (-1), .ref b1, .ref b2, .ref b3, .ref b4, .ref b5, .ref b6, .ref b7, .ref b8, .ref b9, .ref b10, .ref b11, .ref b12, .ref b13, .ref b14, .ref b15, .null, .null, .null, .null, .null, .null, .null, .null, .null, .null, .null, .null, .null, .int 0, .null, .null, .null, .null, .null, .int 0, .null, .int 0, .null, .int 0, .int 0, .null, .null, .int 0, .null, .int 0, .null, .null, .null, .int 0, .int 0, .int 0, .int 0, .int 0, .int 0, .int 0, .int 0, .int 0, .long 0, .long 0, .long 0, .long 0, .long 0, .int 0, .int 0, .null, .int 0, .int 0, .long 0, .int 0, .int 0, .null, .null, .int 0])), (b0, .inl (g.2.1.1, 1600, .inl (fun _ => 0))), (b1, .inl (g.2.1.1, 6, .inl (fun _ => 0))), (b2, .inl (g.2.1.2.2, 4, .inl (wchr 0))), (b3, .inl (g.2.1.2.2, 2, .inl (wchr 1))), (b4, .inl (g.2.1.2.2, 5, .inl (wchr 2))), (b5, .inl (g.2.1.2.2, 5, .inl (wchr 3))), (b6, .inl (g.2.1.2.2, 3, .inl (wchr 4))), (b7, .inl (g.2.1.2.2, 5, .inl (wchr 5))), (b8, .inl (g.2.1.2.2, 5, .inl (wchr 6))), (b9, .inl (g.2.1.2.2, 5, .inl (wchr 7))), (b10, .inl (g.2.1.2.2, 4, .inl (wchr 8))), (b11, .inl (g.2.1.2.2, 4, .inl (wchr 9))), (b12, .inl (g.2.1.2.2, 4, .inl (wchr 10))), (b13, .inl (g.2.1.2.2, 4, .inl (wchr 11))), (b14, .inl (g.2.1.2.2, 5, .inl (wchr 12))), (b15, .inl (g.2.1.2.2, 5, .inl (wchr 13)))] A s H locs := h1
  clear h1
  refine sgm_17 C hin hl rfl h (Nat.le_of_ble_eq_true rfl) (Nat.le_of_ble_eq_true rfl) (fun b16 H locs h1 => ?_)
  clear h
  have h : Wl g [(h0, .inr (9, [.ref b0, .int 0, .int 0, .int 0, .int 0, .int 0, .int 0, .int 0, .int (-1), .ref b1, .ref b2, .ref b3, .ref b4, .ref b5, .ref b6, .ref b7, .ref b8, .ref b9, .ref b10, .ref b11, .ref b12, .ref b13, .ref b14, .ref b15, .ref b16, .null, .null, .null, .null, .null, .null, .null, .null, .null, .null, .null, .null, .int 0, .null, .null, .null, .null, .null, .int 0, .null, .int 0, .null, .int 0, .int 0, .null, .null, .int 0, .null, .int 0, .null, .null, .null, .int 0, .int 0, .int 0, .int 0, .int 0, .int 0, .int 0, .int 0, .int 0, .long 0, .long 0, .long 0, .long 0, .long 0, .int 0, .int 0, .null, .int 0, .int 0, .long 0, .int 0, .int 0, .null, .null, .int 0])), (b0, .inl (g.2.1.1, 1600, .inl (fun _ => 0))), (b1, .inl (g.2.1.1, 6, .inl (fun _ => 0))), (b2, .inl (g.2.1.2.2, 4, .inl (wchr 0))), (b3, .inl (g.2.1.2.2, 2, .inl (wchr 1))), (b4, .inl (g.2.1.2.2, 5, .inl (wchr 2))), (b5, .inl (g.2.1.2.2, 5, .inl (wchr 3))), (b6, .inl (g.2.1.2.2, 3, .inl (wchr 4))), (b7, .inl (g.2.1.2.2, 5, .inl (wchr 5))), (b8, .inl (g.2.1.2.2, 5, .inl (wchr 6))), (b9, .inl (g.2.1.2.2, 5, .inl (wchr 7))), (b10, .inl (g.2.1.2.2, 4, .inl (wchr 8))), (b11, .inl (g.2.1.2.2, 4, .inl (wchr 9))), (b12, .inl (g.2.1.2.2, 4, .inl (wchr 10))), (b13, .inl (g.2.1.2.2, 4, .inl (wchr 11))), (b14, .inl (g.2.1.2.2, 5, .inl (wchr 12))), (b15, .inl (g.2.1.2.2, 5, .inl (wchr 13))), (b16, .inl (g.2.1.2.2, 5, .inl (wchr 14)))] A s H locs := h1
  clear h1
  refine sgm_18 C hin hl rfl h (Nat.le_of_ble_eq_true rfl) (Nat.le_of_ble_eq_true rfl) (fun b17 H locs h1 => ?_)
  clear h
  have h : Wl g [(h0, .inr (9, [.ref b0, .int 0, .int 0, .int 0, .int 0, .int 0, .int 0, .int 0, .int (-1), .ref b1, .ref b2, .ref b3, .ref b4, .ref b5, .ref b6, .ref b7, .ref b8, .ref b9, .ref b10, .ref b11, .ref b12, .ref b13, .ref b14, .ref b15, .ref b16, .ref b17, .null, .null, .null, .null, .null, .null, .null, .null, .null, .null, .null, .int 0, .null, .null, .null, .null, .null, .int 0, .null, .int 0, .null, .int 0, .int 0, .null, .null, .int 0, .null, .int 0, .null, .null, .null, .int 0, .int 0, .int 0, .int 0, .int 0, .int 0, .int 0, .int 0, .int 0, .long 0, .long 0, .long 0, .long 0, .long 0, .int 0, .int 0, .null, .int 0, .int 0, .long 0, .int 0, .int 0, .null, .null, .int 0])), (b0, .inl (g.2.1.1, 1600, .inl (fun _ => 0))), (b1, .inl (g.2.1.1, 6, .inl (fun _ => 0))), (b2, .inl (g.2.1.2.2, 4, .inl (wchr 0))), (b3, .inl (g.2.1.2.2, 2, .inl (wchr 1))), (b4, .inl (g.2.1.2.2, 5, .inl (wchr 2))), (b5, .inl (g.2.1.2.2, 5, .inl (wchr 3))), (b6, .inl (g.2.1.2.2, 3, .inl (wchr 4))), (b7, .inl (g.2.1.2.2, 5, .inl (wchr 5))), (b8, .inl (g.2.1.2.2, 5, .inl (wchr 6))), (b9, .inl (g.2.1.2.2, 5, .inl (wchr 7))), (b10, .inl (g.2.1.2.2, 4, .inl (wchr 8))), (b11, .inl (g.2.1.2.2, 4, .inl (wchr 9))), (b12, .inl (g.2.1.2.2, 4, .inl (wchr 10))), (b13, .inl (g.2.1.2.2, 4, .inl (wchr 11))), (b14, .inl (g.2.1.2.2, 5, .inl (wchr 12))), (b15, .inl (g.2.1.2.2, 5, .inl (wchr 13))), (b16, .inl (g.2.1.2.2, 5, .inl (wchr 14))), (b17, .inl (g.2.1.2.2, 5, .inl (wchr 15)))] A s H locs := h1
  clear h1
  refine sgm_19 C hin hl rfl h (Nat.le_of_ble_eq_true rfl) (Nat.le_of_ble_eq_true rfl) (fun b18 H locs h1 => ?_)
  clear h
  have h : Wl g [(h0, .inr (9, [.ref b0, .int 0, .int 0, .int 0, .int 0, .int 0, .int 0, .int 0, .int (-1), .ref b1, .ref b2, .ref b3, .ref b4, .ref b5, .ref b6, .ref b7, .ref b8, .ref b9, .ref b10, .ref b11, .ref b12, .ref b13, .ref b14, .ref b15, .ref b16, .ref b17, .ref b18, .null, .null, .null, .null, .null, .null, .null, .null, .null, .null, .int 0, .null, .null, .null, .null, .null, .int 0, .null, .int 0, .null, .int 0, .int 0, .null, .null, .int 0, .null, .int 0, .null, .null, .null, .int 0, .int 0, .int 0, .int 0, .int 0, .int 0, .int 0, .int 0, .int 0, .long 0, .long 0, .long 0, .long 0, .long 0, .int 0, .int 0, .null, .int 0, .int 0, .long 0, .int 0, .int 0, .null, .null, .int 0])), (b0, .inl (g.2.1.1, 1600, .inl (fun _ => 0))), (b1, .inl (g.2.1.1, 6, .inl (fun _ => 0))), (b2, .inl (g.2.1.2.2, 4, .inl (wchr 0))), (b3, .inl (g.2.1.2.2, 2, .inl (wchr 1))), (b4, .inl (g.2.1.2.2, 5, .inl (wchr 2))), (b5, .inl (g.2.1.2.2, 5, .inl (wchr 3))), (b6, .inl (g.2.1.2.2, 3, .inl (wchr 4))), (b7, .inl (g.2.1.2.2, 5, .inl (wchr 5))), (b8, .inl (g.2.1.2.2, 5, .inl (wchr 6))), (b9, .inl (g.2.1.2.2, 5, .inl (wchr 7))), (b10, .inl (g.2.1.2.2, 4, .inl (wchr 8))), (b11, .inl (g.2.1.2.2, 4, .inl (wchr 9))), (b12, .inl (g.2.1.2.2, 4, .inl (wchr 10))), (b13, .inl (g.2.1.2.2, 4, .inl (wchr 11))), (b14, .inl (g.2.1.2.2, 5, .inl (wchr 12))), (b15, .inl (g.2.1.2.2, 5, .inl (wchr 13))), (b16, .inl (g.2.1.2.2, 5, .inl (wchr 14))), (b17, .inl (g.2.1.2.2, 5, .inl (wchr 15))), (b18, .inl (g.2.1.2.2, 4, .inl (wchr 16)))] A s H locs := h1
  clear h1
  refine sgm_20 C hin hl rfl h (Nat.le_of_ble_eq_true rfl) (Nat.le_of_ble_eq_true rfl) (fun b19 H locs h1 => ?_)
  clear h
  have h : Wl g [(h0, .inr (9, [.ref b0, .int 0, .int 0, .int 0, .int 0, .int 0, .int 0, .int 0, .int (-1), .ref b1, .ref b2, .ref b3, .ref b4, .ref b5, .ref b6, .ref b7, .ref b8, .ref b9, .ref b10, .ref b11, .ref b12, .ref b13, .ref b14, .ref b15, .ref b16, .ref b17, .ref b18, .ref b19, .null, .null, .null, .null, .null, .null, .null, .null, .null, .int 0, .null, .null, .null, .null, .null, .int 0, .null, .int 0, .null, .int 0, .int 0, .null, .null, .int 0, .null, .int 0, .null, .null, .null, .int 0, .int 0, .int 0, .int 0, .int 0, .int 0, .int 0, .int 0, .int 0, .long 0, .long 0, .long 0, .long 0, .long 0, .int 0, .int 0, .null, .int 0, .int 0, .long 0, .int 0, .int 0, .null, .null, .int 0])), (b0, .inl (g.2.1.1, 1600, .inl (fun _ => 0))), (b1, .inl (g.2.1.1, 6, .inl (fun _ => 0))), (b2, .inl (g.2.1.2.2, 4, .inl (wchr 0))), (b3, .inl (g.2.1.2.2, 2, .inl (wchr 1))), (b4, .inl (g.2.1.2.2, 5, .inl (wchr 2))), (b5, .inl (g.2.1.2.2, 5, .inl (wchr 3))), (b6, .inl (g.2.1.2.2, 3, .inl (wchr 4))), (b7, .inl (g.2.1.2.2, 5, .inl (wchr 5))), (b8, .inl (g.2.1.2.2, 5, .inl (wchr 6))), (b9, .inl (g.2.1.2.2, 5, .inl (wchr 7))), (b10, .inl (g.2.1.2.2, 4, .inl (wchr 8))), (b11, .inl (g.2.1.2.2, 4, .inl (wchr 9))), (b12, .inl (g.2.1.2.2, 4, .inl (wchr 10))), (b13, .inl (g.2.1.2.2, 4, .inl (wchr 11))), (b14, .inl (g.2.1.2.2, 5, .inl (wchr 12))), (b15, .inl (g.2.1.2.2, 5, .inl (wchr 13))), (b16, .inl (g.2.1.2.2, 5, .inl (wchr 14))), (b17, .inl (g.2.1.2.2, 5, .inl (wchr 15))), (b18, .inl (g.2.1.2.2, 4, .inl (wchr 16))), (b19, .inl (g.2.1.2.2, 5, .inl (wchr 17)))] A s H locs := h1
  clear h1
  refine sgm_21 C hin hl rfl h (Nat.le_of_ble_eq_true rfl) (Nat.le_of_ble_eq_true rfl) (fun b20 H locs h1 => ?_)
  clear h
  have h : Wl g [(h0, .inr (9, [.ref b0, .int 0, .int 0, .int 0, .int 0, .int 0, .int 0, .int 0, .int (-1), .ref b1, .ref b2, .ref b3, .ref b4, .ref b5, .ref b6, .ref b7, .ref b8, .ref b9, .ref b10, .ref b11, .ref b12, .ref b13, .ref b14, .ref b15, .ref b16, .ref b17, .ref b18, .ref b19, .ref b20, .null, .null, .null, .null, .null, .null, .null, .null, .int 0, .null, .null, .null, .null, .null, .int 0, .null, .int 0, .null, .int 0, .int 0, .null, .null, .int 0, .null, .int 0, .null, .null, .null, .int 0, .int 0, .int 0, .int 0, .int 0, .int 0, .int 0, .int 0, .int 0, .long 0, .long 0, .long 0, .long 0, .long 0, .int 0, .int 0, .null, .int 0, .int 0, .long 0, .int 0, .int 0, .null, .null, .int 0])), (b0, .inl (g.2.1.1, 1600, .inl (fun _ => 0))), (b1, .inl (g.2.1.1, 6, .inl (fun _ => 0))), (b2, .inl (g.2.1.2.2, 4, .inl (wchr 0))), (b3, .inl (g.2.1.2.2, 2, .inl (wchr 1))), (b4, .inl (g.2.1.2.2, 5, .inl (wchr 2))), (b5, .inl (g.2.1.2.2, 5, .inl (wchr 3))), (b6, .inl (g.2.1.2.2, 3, .inl (wchr 4))), (b7, .inl (g.2.1.2.2, 5, .inl (wchr 5))), (b8, .inl (g.2.1.2.2, 5, .inl (wchr 6))), (b9, .inl (g.2.1.2.2, 5, .inl (wchr 7))), (b10, .inl (g.2.1.2.2, 4, .inl (wchr 8))), (b11, .inl (g.2.1.2.2, 4, .inl (wchr 9))), (b12, .inl (g.2.1.2.2, 4, .inl (wchr 10))), (b13, .inl (g.2.1.2.2, 4, .inl (wchr 11))), (b14, .inl (g.2.1.2.2, 5, .inl (wchr 12))), (b15, .inl (g.2.1.2.2, 5, .inl (wchr 13))), (b16, .inl (g.2.1.2.2, 5, .inl (wchr 14))), (b17, .inl (g.2.1.2.2, 5, .inl (wchr 15))), (b18, .inl (g.2.1.2.2, 4, .inl (wchr 16))), (b19, .inl (g.2.1.2.2, 5, .inl (wchr 17))), (b20, .inl (g.2.1.2.2, 5, .inl (wchr 18)))] A s H locs := h1
  clear h1
  refine sgm_22 C hin hl rfl h (Nat.le_of_ble_eq_true rfl) (Nat.le_of_ble_eq_true rfl) (fun b21 H locs h1 => ?_)
  clear h
  have h : Wl g [(h0, .inr (9, [.ref b0, .int 0, .int 0, .int 0, .int 0, .int 0, .int 0, .int 0, .int (-1), .ref b1, .ref b2, .ref b3, .ref b4, .ref b5, .ref b6, .ref b7, .ref b8, .ref b9, .ref b10, .ref b11, .ref b12, .ref b13, .ref b14, .ref b15, .ref b16, .ref b17, .ref b18, .ref b19, .ref b20, .ref b21, .null, .null, .null, .null, .null, .null, .null, .int 0, .null, .null, .null, .null, .null, .int 0, .null, .int 0, .null, .int 0, .int 0, .null, .null, .int 0, .null, .int 0, .null, .null, .null, .int 0, .int 0, .int 0, .int 0, .int 0, .int 0, .int 0, .int 0, .int 0, .long 0, .long 0, .long 0, .long 0, .long 0, .int 0, .int 0, .null, .int 0, .int 0, .long 0, .int 0, .int 0, .null, .null, .int 0])), (b0, .inl (g.2.1.1, 1600, .inl (fun _ => 0))), (b1, .inl (g.2.1.1, 6, .inl (fun _ => 0))), (b2, .inl (g.2.1.2.2, 4, .inl (wchr 0))), (b3, .inl (g.2.1.2.2, 2, .inl (wchr 1))), (b4, .inl (g.2.1.2.2, 5, .inl (wchr 2))), (b5, .inl (g.2.1.2.2, 5, .inl (wchr 3))), (b6, .inl (g.2.1.2.2, 3, .inl (wchr 4))), (b7, .inl (g.2.1.2.2, 5, .inl (wchr 5))), (b8, .inl (g.2.1.2.2, 5, .inl (wchr 6))), (b9, .inl (g.2.1.2.2, 5, .inl (wchr 7))), (b10, .inl (g.2.1.2.2, 4, .inl (wchr 8))), (b11, .inl (g.2.1.2.2, 4, .inl (wchr 9))), (b12, .inl (g.2.1.2.2, 4, .inl (wchr 10))), (b13, .inl (g.2.1.2.2, 4, .inl (wchr 11))), (b14, .inl (g.2.1.2.2, 5, .inl (wchr 12))), (b15, .inl (g.2.1.2.2, 5, .inl (wchr 13))), (b16, .inl (g.2.1.2.2, 5, .inl (wchr 14))), (b17, .inl (g.2.1.2.2, 5, .inl (wchr 15))), (b18, .inl (g.2.1.2.2, 4, .inl (wchr 16))), (b19, .inl (g.2.1.2.2, 5, .inl (wchr 17))), (b20, .inl (g.2.1.2.2, 5, .inl (wchr 18))), (b21, .inl (g.2.1.2.2, 4, .inl (wchr 19)))] A s H locs := h1
  clear h1
  refine sgm_23 C hin hl rfl h (Nat.le_of_ble_eq_true rfl) (Nat.le_of_ble_eq_true rfl) (fun b22 H locs h1 => ?_)
  clear h
  have h : Wl g [(h0, .inr (9, [.ref b0, .int 0, .int 0, .int 0, .int 0, .int 0, .int 0, .int 0, .int (-1), .ref b1, .ref b2, .ref b3, .ref b4, .ref b5, .ref b6, .ref b7, .ref b8, .ref b9, .ref b10, .ref b11, .ref b12, .ref b13, .ref b14, .ref b15, .ref b16, .ref b17, .ref b18, .ref b19, .ref b20, .ref b21, .ref b22, .null, .null, .null, .null, .null, .null, .int 0, .null, .null, .null, .null, .null, .int 0, .null, .int 0, .null, .int 0, .int 0, .null, .null, .int 0, .null, .int 0, .null, .null, .null, .int 0, .int 0, .int 0, .int 0, .int 0, .int 0, .int 0, .int 0, .int 0, .long 0, .long 0, .long 0, .long 0, .long 0, .int 0, .int 0, .null, .int 0, .int 0, .long 0, .int 0, .int 0, .null, .null, .int 0])), (b0, .inl (g.2.1.1, 1600, .inl (fun _ => 0))), (b1, .inl (g.2.1.1, 6, .inl (fun _ => 0))), (b2, .inl (g.2.1.2.2, 4, .inl (wchr 0))), (b3, .inl (g.2.1.2.2, 2, .inl (wchr 1))), (b4, .inl (g.2.1.2.2, 5, .inl (wchr 2))), (b5, .inl (g.2.1.2.2, 5, .inl (wchr 3))), (b6, .inl (g.2.1.2.2, 3, .inl (wchr 4))), (b7, .inl (g.2.1.2.2, 5, .inl (wchr 5))), (b8, .inl (g.2.1.2.2, 5, .inl (wchr 6))), (b9, .inl (g.2.1.2.2, 5, .inl (wchr 7))), (b10, .inl (g.2.1.2.2, 4, .inl (wchr 8))), (b11, .inl (g.2.1.2.2, 4, .inl (wchr 9))), (b12, .inl (g.2.1.2.2, 4, .inl (wchr 10))), (b13, .inl (g.2.1.2.2, 4, .inl (wchr 11))), (b14, .inl (g.2.1.2.2, 5, .inl (wchr 12))), (b15, .inl (g.2.1.2.2, 5, .inl (wchr 13))), (b16, .inl (g.2.1.2.2, 5, .inl (wchr 14))), (b17, .inl (g.2.1.2.2, 5, .inl (wchr 15))), (b18, .inl (g.2.1.2.2, 4, .inl (wchr 16))), (b19, .inl (g.2.1.2.2, 5, .inl (wchr 17))), (b20, .inl (g.2.1.2.2, 5, .inl (wchr 18))), (b21, .inl (g.2.1.2.2, 4, .inl (wchr 19))), (b22, .inl (g.2.1.2.2, 5, .inl (wchr 20)))] A s H locs := h1
  clear h1
  refine sgm_24 C hin hl rfl h (Nat.le_of_ble_eq_true rfl) (Nat.le_of_ble_eq_true rfl) (fun b23 H locs h1 => ?_)
  clear h
  have h : Wl g [(h0, .inr (9, [.ref b0, .int 0, .int 0, .int 0, .int 0, .int 0, .int 0, .int 0, .int (-1), .ref b1, .ref b2, .ref b3, .ref b4, .ref b5, .ref b6, .ref b7, .ref b8, .ref b9, .ref b10, .ref b11, .ref b12, .ref b13, .ref b14, .ref b15, .ref b16, .ref b17, .ref b18, .ref b19, .ref b20, .ref b21, .ref b22, .ref b23, .null, .null, .null, .null, .null, .int 0, .null, .null, .null, .null, .null, .int 0, .null, .int 0, .null, .int 0, .int 0, .null, .null, .int 0, .null, .int 0, .null, .null, .null, .int 0, .int 0, .int 0, .int 0, .int 0, .int 0, .int 0, .int 0, .int 0, .long 0, .long 0, .long 0, .long 0, .long 0, .int 0, .int 0, .null, .int 0, .int 0, .long 0, .int 0, .int 0, .null, .null, .int 0])), (b0, .inl (g.2.1.1, 1600, .inl (fun _ => 0))), (b1, .inl (g.2.1.1, 6, .inl (fun _ => 0))), (b2, .inl (g.2.1.2.2, 4, .inl (wchr 0))), (b3, .inl (g.2.1.2.2, 2, .inl (wchr 1))), (b4, .inl (g.2.1.2.2, 5, .inl (wchr 2))), (b5, .inl (g.2.1.2.2, 5, .inl (wchr 3))), (b6, .inl (g.2.1.2.2, 3, .inl (wchr 4))), (b7, .inl (g.2.1.2.2, 5, .inl (wchr 5))), (b8, .inl (g.2.1.2.2, 5, .inl (wchr 6))), (b9, .inl (g.2.1.2.2, 5, .inl (wchr 7))), (b10, .inl (g.2.1.2.2, 4, .inl (wchr 8))), (b11, .inl (g.2.1.2.2, 4, .inl (wchr 9))), (b12, .inl (g.2.1.2.2, 4, .inl (wchr 10))), (b13, .inl (g.2.1.2.2, 4, .inl (wchr 11))), (b14, .inl (g.2.1.2.2, 5, .inl (wchr 12))), (b15, .inl (g.2.1.2.2, 5, .inl (wchr 13))), (b16, .inl (g.2.1.2.2, 5, .inl (wchr 14))), (b17, .inl (g.2.1.2.2, 5, .inl (wchr 15))), (b18, .inl (g.2.1.2.2, 4, .inl (wchr 16))), (b19, .inl (g.2.1.2.2, 5, .inl (wchr 17))), (b20, .inl (g.2.1.2.2, 5, .inl (wchr 18))), (b21, .inl (g.2.1.2.2, 4, .inl (wchr 19))), (b22, .inl (g.2.1.2.2, 5, .inl (wchr 20))), (b23, .inl (g.2.1.2.2, 2, .inl (wchr 21)))] A s H locs := h1
  clear h1
  refine sgm_25 C hin hl rfl h (Nat.le_of_ble_eq_true rfl) (Nat.le_of_ble_eq_true rfl) (fun b24 H locs h1 => ?_)
  clear h
  have h : Wl g [(h0, .inr (9, [.ref b0, .int 0, .int 0, .int 0, .int 0, .int 0, .int 0, .int 0, .int (-1), .ref b1, .ref b2, .ref b3, .ref b4, .ref b5, .ref b6, .ref b7, .ref b8, .ref b9, .ref b10, .ref b11, .ref b12, .ref b13, .ref b14, .ref b15, .ref b16, .ref b17, .ref b18, .ref b19, .ref b20, .ref b21, .ref b22, .ref b23, .ref b24, .null, .null, .null, .null, .int 0, .null, .null, .null, .null, .null, .int 0, .null, .int 0, .null, .int 0, .int 0, .null, .null, .int 0, .null, .int 0, .null, .null, .null, .int 0, .int 0, .int 0, .int 0, .int 0, .int 0, .int 0, .int 0, .int 0, .long 0, .long 0, .long 0, .long 0, .long 0, .int 0, .int 0, .null, .int 0, .int 0, .long 0, .int 0, .int 0, .null, .null, .int 0])), (b0, .inl (g.2.1.1, 1600, .inl (fun _ => 0))), (b1, .inl (g.2.1.1, 6, .inl (fun _ => 0))), (b2, .inl (g.2.1.2.2, 4, .inl (wchr 0))), (b3, .inl (g.2.1.2.2, 2, .inl (wchr 1))), (b4, .inl (g.2.1.2.2, 5, .inl (wchr 2))), (b5, .inl (g.2.1.2.2, 5, .inl (wchr 3))), (b6, .inl (g.2.1.2.2, 3, .inl (wchr 4))), (b7, .inl (g.2.1.2.2, 5, .inl (wchr 5))), (b8, .inl (g.2.1.2.2, 5, .inl (wchr 6))), (b9, .inl (g.2.1.2.2, 5, .inl (wchr 7))), (b10, .inl (g.2.1.2.2, 4, .inl (wchr 8))), (b11, .inl (g.2.1.2.2, 4, .inl (wchr 9))), (b12, .inl (g.2.1.2.2, 4, .inl (wchr 10))), (b13, .inl (g.2.1.2.2, 4, .inl (wchr 11))), (b14, .inl (g.2.1.2.2, 5, .inl (wchr 12))), (b15, .inl (g.2.1.2.2, 5, .inl (wchr 13))), (b16, .inl (g.2.1.2.2, 5, .inl (wchr 14))), (b17, .inl (g.2.1.2.2, 5, .inl (wchr 15))), (b18, .inl (g.2.1.2.2, 4, .inl (wchr 16))), (b19, .inl (g.2.1.2.2, 5, .inl (wchr 17))), (b20, .inl (g.2.1.2.2, 5, .inl (wchr 18))), (b21, .inl (g.2.1.2.2, 4, .inl (wchr 19))), (b22, .inl (g.2.1.2.2, 5, .inl (wchr 20))), (b23, .inl (g.2.1.2.2, 2, .inl (wchr 21))), (b24, .inl (g.2.1.2.2, 3, .inl (wchr 22)))] A s H locs := h1
  clear h1
  refine sgm_26 C hin hl rfl h (Nat.le_of_ble_eq_true rfl) (Nat.le_of_ble_eq_true rfl) (fun b25 H locs h1 => ?_)
  clear h
  have h : Wl g [(h0, .inr (9, [.ref b0, .int 0, .int 0, .int 0, .int 0, .int 0, .int 0, .int 0, .int (-1), .ref b1, .ref b2, .ref b3, .ref b4, .ref b5, .ref b6, .ref b7, .ref b8, .ref b9, .ref b10, .ref b11, .ref b12, .ref b13, .ref b14, .ref b15, .ref b16, .ref b17, .ref b18, .ref b19, .ref b20, .ref b21, .ref b22, .ref b23, .ref b24, .ref b25, .null, .null, .null, .int 0, .null, .null, .null, .null, .null, .int 0, .null, .int 0, .null, .int 0, .int 0, .null, .null, .int 0, .null, .int 0, .null, .null, .null, .int 0, .int 0, .int 0, .int 0, .int 0, .int 0, .int 0, .int 0, .int 0, .long 0, .long 0, .long 0, .long 0, .long 0, .int 0, .int 0, .null, .int 0, .int 0, .long 0, .int 0, .int 0, .null, .null, .int 0])), (b0, .inl (g.2.1.1, 1600, .inl (fun _ => 0))), (b1, .inl (g.2.1.1, 6, .inl (fun _ => 0))), (b2, .inl (g.2.1.2.2, 4, .inl (wchr 0))), (b3, .inl (g.2.1.2.2, 2, .inl (wchr 1))), (b4, .inl (g.2.1.2.2, 5, .inl (wchr 2))), (b5, .inl (g.2.1.2.2, 5, .inl (wchr 3))), (b6, .inl (g.2.1.2.2, 3, .inl (wchr 4))), (b7, .inl (g.2.1.2.2, 5, .inl (wchr 5))), (b8, .inl (g.2.1.2.2, 5, .inl (wchr 6))), (b9, .inl (g.2.1.2.2, 5, .inl (wchr 7))), (b10, .inl (g.2.1.2.2, 4, .inl (wchr 8))), (b11, .inl (g.2.1.2.2, 4, .inl (wchr 9))), (b12, .inl (g.2.1.2.2, 4, .inl (wchr 10))), (b13, .inl (g.2.1.2.2, 4, .inl (wchr 11))), (b14, .inl (g.2.1.2.2, 5, .inl (wchr 12))), (b15, .inl (g.2.1.2.2, 5, .inl (wchr 13))), (b16, .inl (g.2.1.2.2, 5, .inl (wchr 14))), (b17, .inl (g.2.1.2.2, 5, .inl (wchr 15))), (b18, .inl (g.2.1.2.2, 4, .inl (wchr 16))), (b19, .inl (g.2.1.2.2, 5, .inl (wchr 17))), (b20, .inl (g.2.1.2.2, 5, .inl (wchr 18))), (b21, .inl (g.2.1.2.2, 4, .inl (wchr 19))), (b22, .inl (g.2.1.2.2, 5, .inl (wchr 20))), (b23, .inl (g.2.1.2.2, 2, .inl (wchr 21))), (b24, .inl (g.2.1.2.2, 3, .inl (wchr 22))), (b25, .inl (g.2.1.2.2, 3, .inl (wchr 23)))] A s H locs := h1
  clear h1
  refine sgm_27 C hin hl rfl h (Nat.le_of_ble_eq_true rfl) (Nat.le_of_ble_eq_true rfl) (fun b26 H locs h1 => ?_)
  clear h
  have h : Wl g [(h0, .inr (9, [.ref b0, .int 0, .int 0, .int 0, .int 0, .int 0, .int 0, .int 0, .int (-1), .ref b1, .ref b2, .ref b3, .ref b4, .ref b5, .ref b6, .ref b7, .ref b8, .ref b9, .ref b10, .ref b11, .ref b12, .ref b13, .ref b14, .ref b15, .ref b16, .ref b17, .ref b18, .ref b19, .ref b20, .ref b21, .ref b22, .ref b23, .ref b24, .ref b25, .ref b26, .null, .null, .int 0, .null, .null, .null, .null, .null, .int 0, .null, .int 0, .null, .int 0, .int 0, .null, .null, .int 0, .null, .int 0, .null, .null, .null, .int 0, .int 0, .int 0, .int 0, .int 0, .int 0, .int 0, .int 0, .int 0, .long 0, .long 0, .long 0, .long 0, .long 0, .int 0, .int 0, .null, .int 0, .int 0, .long 0, .int 0, .int 0, .null, .null, .int 0])), (b0, .inl (g.2.1.1, 1600, .inl (fun _ => 0))), (b1, .inl (g.2.1.1, 6, .inl (fun _ => 0))), (b2, .inl (g.2.1.2.2, 4, .inl (wchr 0))), (b3, .inl (g.2.1.2.2, 2, .inl (wchr 1))), (b4, .inl (g.2.1.2.2, 5, .inl (wchr 2))), (b5, .inl (g.2.1.2.2, 5, .inl (wchr 3))), (b6, .inl (g.2.1.2.2, 3, .inl (wchr 4))), (b7, .inl (g.2.1.2.2, 5, .inl (wchr 5))), (b8, .inl (g.2.1.2.2, 5, .inl (wchr 6))), (b9, .inl (g.2.1.2.2, 5, .inl (wchr 7))), (b10, .inl (g.2.1.2.2, 4, .inl (wchr 8))), (b11, .inl (g.2.1.2.2, 4, .inl (wchr 9))), (b12, .inl (g.2.1.2.2, 4, .inl (wchr 10))), (b13, .inl (g.2.1.2.2, 4, .inl (wchr 11))), (b14, .inl (g.2.1.2.2, 5, .inl (wchr 12))), (b15, .inl (g.2.1.2.2, 5, .inl (wchr 13))), (b16, .inl (g.2.1.2.2, 5, .inl (wchr 14))), (b17, .inl (g.2.1.2.2, 5, .inl (wchr 15))), (b18, .inl (g.2.1.2.2, 4, .inl (wchr 16))), (b19, .inl (g.2.1.2.2, 5, .inl (wchr 17))), (b20, .inl (g.2.1.2.2, 5, .inl (wchr 18))), (b21, .inl (g.2.1.2.2, 4, .inl (wchr 19))), (b22, .inl (g.2.1.2.2, 5, .inl (wchr 20))), (b23, .inl (g.2.1.2.2, 2, .inl (wchr 21))), (b24, .inl (g.2.1.2.2, 3, .inl (wchr 22))), (b25, .inl (g.2.1.2.2, 3, .inl (wchr 23))), (b26, .inl (g.2.1.2.2, 3, .inl (wchr 24)))] A s H locs := h1
  clear h1
  refine sgm_28 C hin hl rfl h (Nat.le_of_ble_eq_true rfl) (Nat.le_of_ble_eq_true rfl) (fun b27 H locs h1 => ?_)
  clear h
  have h : Wl g [(h0, .inr (9, [.ref b0, .int 0, .int 0, .int 0, .int 0, .int 0, .int 0, .int 0, .int (-1), .ref b1, .ref b2, .ref b3, .ref b4, .ref b5, .ref b6, .ref b7, .ref b8, .ref b9, .ref b10, .ref b11, .ref b12, .ref b13, .ref b14, .ref b15, .ref b16, .ref b17, .ref b18, .ref b19, .ref b20, .ref b21, .ref b22, .ref b23, .ref b24, .ref b25, .ref b26, .ref b27, .null, .int 0, .null, .null, .null, .null, .null, .int 0, .null, .int 0, .null, .int 0, .int 0, .null, .null, .int 0, .null, .int 0, .null, .null, .null, .int 0, .int 0, .int 0, .int 0, .int 0, .int 0, .int 0, .int 0, .int 0, .long 0, .long 0, .long 0, .long 0, .long 0, .int 0, .int 0, .null, .int 0, .int 0, .long 0, .int 0, .int 0, .null, .null, .int 0])), (b0, .inl (g.2.1.1, 1600, .inl (fun _ => 0))), (b1, .inl (g.2.1.1, 6, .inl (fun _ => 0))), (b2, .inl (g.2.1.2.2, 4, .inl (wchr 0))), (b3, .inl (g.2.1.2.2, 2, .inl (wchr 1))), (b4, .inl (g.2.1.2.2, 5, .inl (wchr 2))), (b5, .inl (g.2.1.2.2, 5, .inl (wchr 3))), (b6, .inl (g.2.1.2.2, 3, .inl (wchr 4))), (b7, .inl (g.2.1.2.2, 5, .inl (wchr 5))), (b8, .inl (g.2.1.2.2, 5, .inl (wchr 6))), (b9, .inl (g.2.1.2.2, 5, .inl (wchr 7))), (b10, .inl (g.2.1.2.2, 4, .inl (wchr 8))), (b11, .inl (g.2.1.2.2, 4, .inl (wchr 9))), (b12, .inl (g.2.1.2.2, 4, .inl (wchr 10))), (b13, .inl (g.2.1.2.2, 4, .inl (wchr 11))), (b14, .inl (g.2.1.2.2, 5, .inl (wchr 12))), (b15, .inl (g.2.1.2.2, 5, .inl (wchr 13))), (b16, .inl (g.2.1.2.2, 5, .inl (wchr 14))), (b17, .inl (g.2.1.2.2, 5, .inl (wchr 15))), (b18, .inl (g.2.1.2.2, 4, .inl (wchr 16))), (b19, .inl (g.2.1.2.2, 5, .inl (wchr 17))), (b20, .inl (g.2.1.2.2, 5, .inl (wchr 18))), (b21, .inl (g.2.1.2.2, 4, .inl (wchr 19))), (b22, .inl (g.2.1.2.2, 5, .inl (wchr 20))), (b23, .inl (g.2.1.2.2, 2, .inl (wchr 21))), (b24, .inl (g.2.1.2.2, 3, .inl (wchr 22))), (b25, .inl (g.2.1.2.2, 3, .inl (wchr 23))), (b26, .inl (g.2.1.2.2, 3, .inl (wchr 24))), (b27, .inl (g.2.1.2.2, 3, .inl (wchr 25)))] A s H locs := h1
  clear h1
  refine sgm_29 C hin hl rfl h (Nat.le_of_ble_eq_true rfl) (Nat.le_of_ble_eq_true rfl) (fun b28 H locs h1 => ?_)
  clear h
  have h : Wl g [(h0, .inr (9, [.ref b0, .int 0, .int 0, .int 0, .int 0, .int 0, .int 0, .int 0, .int (-1), .ref b1, .ref b2, .ref b3, .ref b4, .ref b5, .ref b6, .ref b7, .ref b8, .ref b9, .ref b10, .ref b11, .ref b12, .ref b13, .ref b14, .ref b15, .ref b16, .ref b17, .ref b18, .ref b19, .ref b20, .ref b21, .ref b22, .ref b23, .ref b24, .ref b25, .ref b26, .ref b27, .ref b28, .int 0, .null, .null, .null, .null, .null, .int 0, .null, .int 0, .null, .int 0, .int 0, .null, .null, .int 0, .null, .int 0, .null, .null, .null, .int 0, .int 0, .int 0, .int 0, .int 0, .int 0, .int 0, .int 0, .int 0, .long 0, .long 0, .long 0, .long 0, .long 0, .int 0, .int 0, .null, .int 0, .int 0, .long 0, .int 0, .int 0, .null, .null, .int 0])), (b0, .inl (g.2.1.1, 1600, .inl (fun _ => 0))), (b1, .inl (g.2.1.1, 6, .inl (fun _ => 0))), (b2, .inl (g.2.1.2.2, 4, .inl (wchr 0))), (b3, .inl (g.2.1.2.2, 2, .inl (wchr 1))), (b4, .inl (g.2.1.2.2, 5, .inl (wchr 2))), (b5, .inl (g.2.1.2.2, 5, .inl (wchr 3))), (b6, .inl (g.2.1.2.2, 3, .inl (wchr 4))), (b7, .inl (g.2.1.2.2, 5, .inl (wchr 5))), (b8, .inl (g.2.1.2.2, 5, .inl (wchr 6))), (b9, .inl (g.2.1.2.2, 5, .inl (wchr 7))), (b10, .inl (g.2.1.2.2, 4, .inl (wchr 8))), (b11, .inl (g.2.1.2.2, 4, .inl (wchr 9))), (b12, .inl (g.2.1.2.2, 4, .inl (wchr 10))), (b13, .inl (g.2.1.2.2, 4, .inl (wchr 11))), (b14, .inl (g.2.1.2.2, 5, .inl (wchr 12))), (b15, .inl (g.2.1.2.2, 5, .inl (wchr 13))), (b16, .inl (g.2.1.2.2, 5, .inl (wchr 14))), (b17, .inl (g.2.1.2.2, 5, .inl (wchr 15))), (b18, .inl (g.2.1.2.2, 4, .inl (wchr 16))), (b19, .inl (g.2.1.2.2, 5, .inl (wchr 17))), (b20, .inl (g.2.1.2.2, 5, .inl (wchr 18))), (b21, .inl (g.2.1.2.2, 4, .inl (wchr 19))), (b22, .inl (g.2.1.2.2, 5, .inl (wchr 20))), (b23, .inl (g.2.1.2.2, 2, .inl (wchr 21))), (b24, .inl (g.2.1.2.2, 3, .inl (wchr 22))), (b25, .inl (g.2.1.2.2, 3, .inl (wchr 23))), (b26, .inl (g.2.1.2.2, 3, .inl (wchr 24))), (b27, .inl (g.2.1.2.2, 3, .inl (wchr 25))), (b28, .inl (g.2.1.2.2, 3, .inl (wchr 26)))] A s H locs := h1
  clear h1
  refine sgm_30 C hin hl rfl h (Nat.le_of_ble_eq_true rfl) (Nat.le_of_ble_eq_true rfl) (fun b29 H locs h1 => ?_)
  clear h
  have h : Wl g [(h0, .inr (9, [.ref b0, .int 0, .int 0, .int 0, .int 0, .int 0, .int 0, .int 0, .int (-1), .ref b1, .ref b2, .ref b3, .ref b4, .ref b5, .ref b6, .ref b7, .ref b8, .ref b9, .ref b10, .ref b11, .ref b12, .ref b13, .ref b14, .ref b15, .ref b16, .ref b17, .ref b18, .ref b19, .ref b20, .ref b21, .ref b22, .ref b23, .ref b24, .ref b25, .ref b26, .ref b27, .ref b28, .int 0, .ref b29, .null, .null, .null, .null, .int 0, .null, .int 0, .null, .int 0, .int 0, .null, .null, .int 0, .null, .int 0, .null, .null, .null, .int 0, .int 0, .int 0, .int 0, .int 0, .int 0, .int 0, .int 0, .int 0, .long 0, .long 0, .long 0, .long 0, .long 0, .int 0, .int 0, .null, .int 0, .int 0, .long 0, .int 0, .int 0, .null, .null, .int 0])), (b0, .inl (g.2.1.1, 1600, .inl (fun _ => 0))), (b1, .inl (g.2.1.1, 6, .inl (fun _ => 0))), (b2, .inl (g.2.1.2.2, 4, .inl (wchr 0))), (b3, .inl (g.2.1.2.2, 2, .inl (wchr 1))), (b4, .inl (g.2.1.2.2, 5, .inl (wchr 2))), (b5, .inl (g.2.1.2.2, 5, .inl (wchr 3))), (b6, .inl (g.2.1.2.2, 3, .inl (wchr 4))), (b7, .inl (g.2.1.2.2, 5, .inl (wchr 5))), (b8, .inl (g.2.1.2.2, 5, .inl (wchr 6))), (b9, .inl (g.2.1.2.2, 5, .inl (wchr 7))), (b10, .inl (g.2.1.2.2, 4, .inl (wchr 8))), (b11, .inl (g.2.1.2.2, 4, .inl (wchr 9))), (b12, .inl (g.2.1.2.2, 4, .inl (wchr 10))), (b13, .inl (g.2.1.2.2, 4, .inl (wchr 11))), (b14, .inl (g.2.1.2.2, 5, .inl (wchr 12))), (b15, .inl (g.2.1.2.2, 5, .inl (wchr 13))), (b16, .inl (g.2.1.2.2, 5, .inl (wchr 14))), (b17, .inl (g.2.1.2.2, 5, .inl (wchr 15))), (b18, .inl (g.2.1.2.2, 4, .inl (wchr 16))), (b19, .inl (g.2.1.2.2, 5, .inl (wchr 17))), (b20, .inl (g.2.1.2.2, 5, .inl (wchr 18))), (b21, .inl (g.2.1.2.2, 4, .inl (wchr 19))), (b22, .inl (g.2.1.2.2, 5, .inl (wchr 20))), (b23, .inl (g.2.1.2.2, 2, .inl (wchr 21))), (b24, .inl (g.2.1.2.2, 3, .inl (wchr 22))), (b25, .inl (g.2.1.2.2, 3, .inl (wchr 23))), (b26, .inl (g.2.1.2.2, 3, .inl (wchr 24))), (b27, .inl (g.2.1.2.2, 3, .inl (wchr 25))), (b28, .inl (g.2.1.2.2, 3, .inl (wchr 26))), (b29, .inl (g.2.1.1, 6, .inl (fun _ => 0)))] A s H locs := h1
  clear h1
  refine sgm_31 C hin hl rfl h (Nat.le_of_ble_eq_true rfl) (Nat.le_of_ble_eq_true rfl) (fun b30 H locs h1 => ?_)
  clear h
  have h : Wl g [(h0, .inr (9, [.ref b0, .int 0, .int 0, .int 0, .int 0, .int 0, .int 0, .int 0, .int (-1), .ref b1, .ref b2, .ref b3, .ref b4, .ref b5, .ref b6, .ref b7, .ref b8, .ref b9, .ref b10, .ref b11, .ref b12, .ref b13, .ref b14, .ref b15, .ref b16, .ref b17, .ref b18, .ref b19, .ref b20, .ref b21, .ref b22, .ref b23, .ref b24, .ref b25, .ref b26, .ref b27, .ref b28, .int 0, .ref b29, .ref b30, .null, .null, .null, .int 0, .null, .int 0, .null, .int 0, .int 0, .null, .null, .int 0, .null, .int 0, .null, .null, .null, .int 0, .int 0, .int 0, .int 0, .int 0, .int 0, .int 0, .int 0, .int 0, .long 0, .long 0, .long 0, .long 0, .long 0, .int 0, .int 0, .null, .int 0, .int 0, .long 0, .int 0, .int 0, .null, .null, .int 0])), (b0, .inl (g.2.1.1, 1600, .inl (fun _ => 0))), (b1, .inl (g.2.1.1, 6, .inl (fun _ => 0))), (b2, .inl (g.2.1.2.2, 4, .inl (wchr 0))), (b3, .inl (g.2.1.2.2, 2, .inl (wchr 1))), (b4, .inl (g.2.1.2.2, 5, .inl (wchr 2))), (b5, .inl (g.2.1.2.2, 5, .inl (wchr 3))), (b6, .inl (g.2.1.2.2, 3, .inl (wchr 4))), (b7, .inl (g.2.1.2.2, 5, .inl (wchr 5))), (b8, .inl (g.2.1.2.2, 5, .inl (wchr 6))), (b9, .inl (g.2.1.2.2, 5, .inl (wchr 7))), (b10, .inl (g.2.1.2.2, 4, .inl (wchr 8))), (b11, .inl (g.2.1.2.2, 4, .inl (wchr 9))), (b12, .inl (g.2.1.2.2, 4, .inl (wchr 10))), (b13, .inl (g.2.1.2.2, 4, .inl (wchr 11))), (b14, .inl (g.2.1.2.2, 5, .inl (wchr 12))), (b15, .inl (g.2.1.2.2, 5, .inl (wchr 13))), (b16, .inl (g.2.1.2.2, 5, .inl (wchr 14))), (b17, .inl (g.2.1.2.2, 5, .inl (wchr 15))), (b18, .inl (g.2.1.2.2, 4, .inl (wchr 16))), (b19, .inl (g.2.1.2.2, 5, .inl (wchr 17))), (b20, .inl (g.2.1.2.2, 5, .inl (wchr 18))), (b21, .inl (g.2.1.2.2, 4, .inl (wchr 19))), (b22, .inl (g.2.1.2.2, 5, .inl (wchr 20))), (b23, .inl (g.2.1.2.2, 2, .inl (wchr 21))), (b24, .inl (g.2.1.2.2, 3, .inl (wchr 22))), (b25, .inl (g.2.1.2.2, 3, .inl (wchr 23))), (b26, .inl (g.2.1.2.2, 3, .inl (wchr 24))), (b27, .inl (g.2.1.2.2, 3, .inl (wchr 25))), (b28, .inl (g.2.1.2.2, 3, .inl (wchr 26))), (b29, .inl (g.2.1.1, 6, .inl (fun _ => 0))), (b30, .inl (g.2.1.2.1, 32, .inr (.inl (fun _ => 0))))] A s H locs := h1
  clear h1
  refine sgm_32 C hin hl rfl h (Nat.le_of_ble_eq_true rfl) (Nat.le_of_ble_eq_true rfl) (fun b31 H locs h1 => ?_)
  clear h
  have h : Wl g [(h0, .inr (9, [.ref b0, .int 0, .int 0, .int 0, .int 0, .int 0, .int 0, .int 0, .int (-1), .ref b1, .ref b2, .ref b3, .ref b4, .ref b5, .ref b6, .ref b7, .ref b8, .ref b9, .ref b10, .ref b11, .ref b12, .ref b13, .ref b14, .ref b15, .ref b16, .ref b17, .ref b18, .ref b19, .ref b20, .ref b21, .ref b22, .ref b23, .ref b24, .ref b25, .ref b26, .ref b27, .ref b28, .int 0, .ref b29, .ref b30, .ref b31, .null, .null, .int 0, .null, .int 0, .null, .int 0, .int 0, .null, .null, .int 0, .null, .int 0, .null, .null, .null, .int 0, .int 0, .int 0, .int 0, .int 0, .int 0, .int 0, .int 0, .int 0, .long 0, .long 0, .long 0, .long 0, .long 0, .int 0, .int 0, .null, .int 0, .int 0, .long 0, .int 0, .int 0, .null, .null, .int 0])), (b0, .inl (g.2.1.1, 1600, .inl (fun _ => 0))), (b1, .inl (g.2.1.1, 6, .inl (fun _ => 0))), (b2, .inl (g.2.1.2.2, 4, .inl (wchr 0))), (b3, .inl (g.2.1.2.2, 2, .inl (wchr 1))), (b4, .inl (g.2.1.2.2, 5, .inl (wchr 2))), (b5, .inl (g.2.1.2.2, 5, .inl (wchr 3))), (b6, .inl (g.2.1.2.2, 3, .inl (wchr 4))), (b7, .inl (g.2.1.2.2, 5, .inl (wchr 5))), (b8, .inl (g.2.1.2.2, 5, .inl (wchr 6))), (b9, .inl (g.2.1.2.2, 5, .inl (wchr 7))), (b10, .inl (g.2.1.2.2, 4, .inl (wchr 8))), (b11, .inl (g.2.1.2.2, 4, .inl (wchr 9))), (b12, .inl (g.2.1.2.2, 4, .inl (wchr 10))), (b13, .inl (g.2.1.2.2, 4, .inl (wchr 11))), (b14, .inl (g.2.1.2.2, 5, .inl (wchr 12))), (b15, .inl (g.2.1.2.2, 5, .inl (wchr 13))), (b16, .inl (g.2.1.2.2, 5, .inl (wchr 14))), (b17, .inl (g.2.1.2.2, 5, .inl (wchr 15))), (b18, .inl (g.2.1.2.2, 4, .inl (wchr 16))), (b19, .inl (g.2.1.2.2, 5, .inl (wchr 17))), (b20, .inl (g.2.1.2.2, 5, .inl (wchr 18))), (b21, .inl (g.2.1.2.2, 4, .inl (wchr 19))), (b22, .inl (g.2.1.2.2, 5, .inl (wchr 20))), (b23, .inl (g.2.1.2.2, 2, .inl (wchr 21))), (b24, .inl (g.2.1.2.2, 3, .inl (wchr 22))), (b25, .inl (g.2.1.2.2, 3, .inl (wchr 23))), (b26, .inl (g.2.1.2.2, 3, .inl (wchr 24))), (b27, .inl (g.2.1.2.2, 3, .inl (wchr 25))), (b28, .inl (g.2.1.2.2, 3, .inl (wchr 26))), (b29, .inl (g.2.1.1, 6, .inl (fun _ => 0))), (b30, .inl (g.2.1.2.1, 32, .inr (.inl (fun _ => 0)))), (b31, .inl (g.2.1.1, 12, .inl (fun _ => 0)))] A s H locs := h1
  clear h1
  refine sgm_33 C hin hl rfl h (Nat.le_of_ble_eq_true rfl) (Nat.le_of_ble_eq_true rfl) (fun b32 H locs h1 => ?_)
  clear h
  have h : Wl g [(h0, .inr (9, [.ref b0, .int 0, .int 0, .int 0, .int 0, .int 0, .int 0, .int 0, .int (-1), .ref b1, .ref b2, .ref b3, .ref b4, .ref b5, .ref b6, .ref b7, .ref b8, .ref b9, .ref b10, .ref b11, .ref b12, .ref b13, .ref b14, .ref b15, .ref b16, .ref b17, .ref b18, .ref b19, .ref b20, .ref b21, .ref b22, .ref b23, .ref b24, .ref b25, .ref b26, .ref b27, .ref b28, .int 0, .ref b29, .ref b30, .ref b31, .ref b32, .null, .int 0, .null, .int 0, .null, .int 0, .int 0, .null, .null, .int 0, .null, .int 0, .null, .null, .null, .int 0, .int 0, .int 0, .int 0, .int 0, .int 0, .int 0, .int 0, .int 0, .long 0, .long 0, .long 0, .long 0, .long 0, .int 0, .int 0, .null, .int 0, .int 0, .long 0, .int 0, .int 0, .null, .null, .int 0])), (b0, .inl (g.2.1.1, 1600, .inl (fun _ => 0))), (b1, .inl (g.2.1.1, 6, .inl (fun _ => 0))), (b2, .inl (g.2.1.2.2, 4, .inl (wchr 0))), (b3, .inl (g.2.1.2.2, 2, .inl (wchr 1))), (b4, .inl (g.2.1.2.2, 5, .inl (wchr 2))), (b5, .inl (g.2.1.2.2, 5, .inl (wchr 3))), (b6, .inl (g.2.1.2.2, 3, .inl (wchr 4))), (b7, .inl (g.2.1.2.2, 5, .inl (wchr 5))), (b8, .inl (g.2.1.2.2, 5, .inl (wchr 6))), (b9, .inl (g.2.1.2.2, 5, .inl (wchr 7))), (b10, .inl (g.2.1.2.2, 4, .inl (wchr 8))), (b11, .inl (g.2.1.2.2, 4, .inl (wchr 9))), (b12, .inl (g.2.1.2.2, 4, .inl (wchr 10))), (b13, .inl (g.2.1.2.2, 4, .inl (wchr 11))), (b14, .inl (g.2.1.2.2, 5, .inl (wchr 12))), (b15, .inl (g.2.1.2.2, 5, .inl (wchr 13))), (b16, .inl (g.2.1.2.2, 5, .inl (wchr 14))), (b17, .inl (g.2.1.2.2, 5, .inl (wchr 15))), (b18, .inl (g.2.1.2.2, 4, .inl (wchr 16))), (b19, .inl (g.2.1.2.2, 5, .inl (wchr 17))), (b20, .inl (g.2.1.2.2, 5, .inl (wchr 18))), (b21, .inl (g.2.1.2.2, 4, .inl (wchr 19))), (b22, .inl (g.2.1.2.2, 5, .inl (wchr 20))), (b23, .inl (g.2.1.2.2, 2, .inl (wchr 21))), (b24, .inl (g.2.1.2.2, 3, .inl (wchr 22))), (b25, .inl (g.2.1.2.2, 3, .inl (wchr 23))), (b26, .inl (g.2.1.2.2, 3, .inl (wchr 24))), (b27, .inl (g.2.1.2.2, 3, .inl (wchr 25))), (b28, .inl (g.2.1.2.2, 3, .inl (wchr 26))), (b29, .inl (g.2.1.1, 6, .inl (fun _ => 0))), (b30, .inl (g.2.1.2.1, 32, .inr (.inl (fun _ => 0)))), (b31, .inl (g.2.1.1, 12, .inl (fun _ => 0))), (b32, .inl (g.2.1.1, 96, .inl (fun _ => 0)))] A s H locs := h1
  clear h1
  refine sgm_34 C hin hl rfl h (Nat.le_of_ble_eq_true rfl) (Nat.le_of_ble_eq_true rfl) (fun b33 H locs h1 => ?_)
  clear h
  have h : Wl g [(h0, .inr (9, [.ref b0, .int 0, .int 0, .int 0, .int 0, .int 0, .int 0, .int 0, .int (-1), .ref b1, .ref b2, .ref b3, .ref b4, .ref b5, .ref b6, .ref b7, .ref b8, .ref b9, .ref b10, .ref b11, .ref b12, .ref b13, .ref b14, .ref b15, .ref b16, .ref b17, .ref b18, .ref b19, .ref b20, .ref b21, .ref b22, .ref b23, .ref b24, .ref b25, .ref b26, .ref b27, .ref b28, .int 0, .ref b29, .ref b30, .ref b31, .ref b32, .ref b33, .int 0, .null, .int 0, .null, .int 0, .int 0, .null, .null, .int 0, .null, .int 0, .null, .null, .null, .int 0, .int 0, .int 0, .int 0, .int 0, .int 0, .int 0, .int 0, .int 0, .long 0, .long 0, .long 0, .long 0, .long 0, .int 0, .int 0, .null, .int 0, .int 0, .long 0, .int 0, .int 0, .null, .null, .int 0])), (b0, .inl (g.2.1.1, 1600, .inl (fun _ => 0))), (b1, .inl (g.2.1.1, 6, .inl (fun _ => 0))), (b2, .inl (g.2.1.2.2, 4, .inl (wchr 0))), (b3, .inl (g.2.1.2.2, 2, .inl (wchr 1))), (b4, .inl (g.2.1.2.2, 5, .inl (wchr 2))), (b5, .inl (g.2.1.2.2, 5, .inl (wchr 3))), (b6, .inl (g.2.1.2.2, 3, .inl (wchr 4))), (b7, .inl (g.2.1.2.2, 5, .inl (wchr 5))), (b8, .inl (g.2.1.2.2, 5, .inl (wchr 6))), (b9, .inl (g.2.1.2.2, 5, .inl (wchr 7))), (b10, .inl (g.2.1.2.2, 4, .inl (wchr 8))), (b11, .inl (g.2.1.2.2, 4, .inl (wchr 9))), (b12, .inl (g.2.1.2.2, 4, .inl (wchr 10))), (b13, .inl (g.2.1.2.2, 4, .inl (wchr 11))), (b14, .inl (g.2.1.2.2, 5, .inl (wchr 12))), (b15, .inl (g.2.1.2.2, 5, .inl (wchr 13))), (b16, .inl (g.2.1.2.2, 5, .inl (wchr 14))), (b17, .inl (g.2.1.2.2, 5, .inl (wchr 15))), (b18, .inl (g.2.1.2.2, 4, .inl (wchr 16))), (b19, .inl (g.2.1.2.2, 5, .inl (wchr 17))), (b20, .inl (g.2.1.2.2, 5, .inl (wchr 18))), (b21, .inl (g.2.1.2.2, 4, .inl (wchr 19))), (b22, .inl (g.2.1.2.2, 5, .inl (wchr 20))), (b23, .inl (g.2.1.2.2, 2, .inl (wchr 21))), (b24, .inl (g.2.1.2.2, 3, .inl (wchr 22))), (b25, .inl (g.2.1.2.2, 3, .inl (wchr 23))), (b26, .inl (g.2.1.2.2, 3, .inl (wchr 24))), (b27, .inl (g.2.1.2.2, 3, .inl (wchr 25))), (b28, .inl (g.2.1.2.2, 3, .inl (wchr 26))), (b29, .inl (g.2.1.1, 6, .inl (fun _ => 0))), (b30, .inl (g.2.1.2.1, 32, .inr (.inl (fun _ => 0)))), (b31, .inl (g.2.1.1, 12, .inl (fun _ => 0))), (b32, .inl (g.2.1.1, 96, .inl (fun _ => 0))), (b33, .inl (g.2.1.1, 18, .inl (upd (upd (upd (upd (upd (upd (upd (upd (upd (upd (upd (upd (upd (upd (upd (upd (upd (upd (fun _ => 0) (0 : Int32).toNatClampNeg 50) (1 : Int32).toNatClampNeg 1) (2 : Int32).toNatClampNeg 3) (3 : Int32).toNatClampNeg 20) (4 : Int32).toNatClampNeg 0) (5 : Int32).toNatClampNeg 3) (6 : Int32).toNatClampNeg 3) (7 : Int32).toNatClampNeg 1) (8 : Int32).toNatClampNeg 0) (9 : Int32).toNatClampNeg 50) (10 : Int32).toNatClampNeg 1) (11 : Int32).toNatClampNeg 3) (12 : Int32).toNatClampNeg 20) (13 : Int32).toNatClampNeg 0) (14 : Int32).toNatClampNeg 3) (15 : Int32).toNatClampNeg 3) (16 : Int32).toNatClampNeg 1) (17 : Int32).toNatClampNeg 0)))] A s H locs := h1
  clear h1
  refine sgm_35 C hin hl rfl h (Nat.le_of_ble_eq_true rfl) (Nat.le_of_ble_eq_true rfl) (fun b34 H locs h1 => ?_)
  clear h
  have h : Wl g [(h0, .inr (9, [.ref b0, .int 0, .int 0, .int 0, .int 0, .int 0, .int 0, .int 0, .int (-1), .ref b1, .ref b2, .ref b3, .ref b4, .ref b5, .ref b6, .ref b7, .ref b8, .ref b9, .ref b10, .ref b11, .ref b12, .ref b13, .ref b14, .ref b15, .ref b16, .ref b17, .ref b18, .ref b19, .ref b20, .ref b21, .ref b22, .ref b23, .ref b24, .ref b25, .ref b26, .ref b27, .ref b28, .int 0, .ref b29, .ref b30, .ref b31, .ref b32, .ref b33, .int 0, .ref b34, .int 0, .null, .int 0, .int 0, .null, .null, .int 0, .null, .int 0, .null, .null, .null, .int 0, .int 0, .int 0, .int 0, .int 0, .int 0, .int 0, .int 0, .int 0, .long 0, .long 0, .long 0, .long 0, .long 0, .int 0, .int 0, .null, .int 0, .int 0, .long 0, .int 0, .int 0, .null, .null, .int 0])), (b0, .inl (g.2.1.1, 1600, .inl (fun _ => 0))), (b1, .inl (g.2.1.1, 6, .inl (fun _ => 0))), (b2, .inl (g.2.1.2.2, 4, .inl (wchr 0))), (b3, .inl (g.2.1.2.2, 2, .inl (wchr 1))), (b4, .inl (g.2.1.2.2, 5, .inl (wchr 2))), (b5, .inl (g.2.1.2.2, 5, .inl (wchr 3))), (b6, .inl (g.2.1.2.2, 3, .inl (wchr 4))), (b7, .inl (g.2.1.2.2, 5, .inl (wchr 5))), (b8, .inl (g.2.1.2.2, 5, .inl (wchr 6))), (b9, .inl (g.2.1.2.2, 5, .inl (wchr 7))), (b10, .inl (g.2.1.2.2, 4, .inl (wchr 8))), (b11, .inl (g.2.1.2.2, 4, .inl (wchr 9))), (b12, .inl (g.2.1.2.2, 4, .inl (wchr 10))), (b13, .inl (g.2.1.2.2, 4, .inl (wchr 11))), (b14, .inl (g.2.1.2.2, 5, .inl (wchr 12))), (b15, .inl (g.2.1.2.2, 5, .inl (wchr 13))), (b16, .inl (g.2.1.2.2, 5, .inl (wchr 14))), (b17, .inl (g.2.1.2.2, 5, .inl (wchr 15))), (b18, .inl (g.2.1.2.2, 4, .inl (wchr 16))), (b19, .inl (g.2.1.2.2, 5, .inl (wchr 17))), (b20, .inl (g.2.1.2.2, 5, .inl (wchr 18))), (b21, .inl (g.2.1.2.2, 4, .inl (wchr 19))), (b22, .inl (g.2.1.2.2, 5, .inl (wchr 20))), (b23, .inl (g.2.1.2.2, 2, .inl (wchr 21))), (b24, .inl (g.2.1.2.2, 3, .inl (wchr 22))), (b25, .inl (g.2.1.2.2, 3, .inl (wchr 23))), (b26, .inl (g.2.1.2.2, 3, .inl (wchr 24))), (b27, .inl (g.2.1.2.2, 3, .inl (wchr 25))), (b28, .inl (g.2.1.2.2, 3, .inl (wchr 26))), (b29, .inl (g.2.1.1, 6, .inl (fun _ => 0))), (b30, .inl (g.2.1.2.1, 32, .inr (.inl (fun _ => 0)))), (b31, .inl (g.2.1.1, 12, .inl (fun _ => 0))), (b32, .inl (g.2.1.1, 96, .inl (fun _ => 0))), (b33, .inl (g.2.1.1, 18, .inl (upd (upd (upd (upd (upd (upd (upd (upd (upd (upd (upd (upd (upd (upd (upd (upd (upd (upd (fun _ => 0) (0 : Int32).toNatClampNeg 50) (1 : Int32).toNatClampNeg 1) (2 : Int32).toNatClampNeg 3) (3 : Int32).toNatClampNeg 20) (4 : Int32).toNatClampNeg 0) (5 : Int32).toNatClampNeg 3) (6 : Int32).toNatClampNeg 3) (7 : Int32).toNatClampNeg 1) (8 : Int32).toNatClampNeg 0) (9 : Int32).toNatClampNeg 50) (10 : Int32).toNatClampNeg 1) (11 : Int32).toNatClampNeg 3) (12 : Int32).toNatClampNeg 20) (13 : Int32).toNatClampNeg 0) (14 : Int32).toNatClampNeg 3) (15 : Int32).toNatClampNeg 3) (16 : Int32).toNatClampNeg 1) (17 : Int32).toNatClampNeg 0))), (b34, .inl (g.2.1.1, 3200, .inl (fun _ => 0)))] A s H locs := h1
  clear h1
  refine sgm_36 C hin hl rfl h (Nat.le_of_ble_eq_true rfl) (Nat.le_of_ble_eq_true rfl) (fun b35 H locs h1 => ?_)
  clear h
  have h : Wl g [(h0, .inr (9, [.ref b0, .int 0, .int 0, .int 0, .int 0, .int 0, .int 0, .int 0, .int (-1), .ref b1, .ref b2, .ref b3, .ref b4, .ref b5, .ref b6, .ref b7, .ref b8, .ref b9, .ref b10, .ref b11, .ref b12, .ref b13, .ref b14, .ref b15, .ref b16, .ref b17, .ref b18, .ref b19, .ref b20, .ref b21, .ref b22, .ref b23, .ref b24, .ref b25, .ref b26, .ref b27, .ref b28, .int 0, .ref b29, .ref b30, .ref b31, .ref b32, .ref b33, .int 0, .ref b34, .int 0, .ref b35, .int 0, .int 0, .null, .null, .int 0, .null, .int 0, .null, .null, .null, .int 0, .int 0, .int 0, .int 0, .int 0, .int 0, .int 0, .int 0, .int 0, .long 0, .long 0, .long 0, .long 0, .long 0, .int 0, .int 0, .null, .int 0, .int 0, .long 0, .int 0, .int 0, .null, .null, .int 0])), (b0, .inl (g.2.1.1, 1600, .inl (fun _ => 0))), (b1, .inl (g.2.1.1, 6, .inl (fun _ => 0))), (b2, .inl (g.2.1.2.2, 4, .inl (wchr 0))), (b3, .inl (g.2.1.2.2, 2, .inl (wchr 1))), (b4, .inl (g.2.1.2.2, 5, .inl (wchr 2))), (b5, .inl (g.2.1.2.2, 5, .inl (wchr 3))), (b6, .inl (g.2.1.2.2, 3, .inl (wchr 4))), (b7, .inl (g.2.1.2.2, 5, .inl (wchr 5))), (b8, .inl (g.2.1.2.2, 5, .inl (wchr 6))), (b9, .inl (g.2.1.2.2, 5, .inl (wchr 7))), (b10, .inl (g.2.1.2.2, 4, .inl (wchr 8))), (b11, .inl (g.2.1.2.2, 4, .inl (wchr 9))), (b12, .inl (g.2.1.2.2, 4, .inl (wchr 10))), (b13, .inl (g.2.1.2.2, 4, .inl (wchr 11))), (b14, .inl (g.2.1.2.2, 5, .inl (wchr 12))), (b15, .inl (g.2.1.2.2, 5, .inl (wchr 13))), (b16, .inl (g.2.1.2.2, 5, .inl (wchr 14))), (b17, .inl (g.2.1.2.2, 5, .inl (wchr 15))), (b18, .inl (g.2.1.2.2, 4, .inl (wchr 16))), (b19, .inl (g.2.1.2.2, 5, .inl (wchr 17))), (b20, .inl (g.2.1.2.2, 5, .inl (wchr 18))), (b21, .inl (g.2.1.2.2, 4, .inl (wchr 19))), (b22, .inl (g.2.1.2.2, 5, .inl (wchr 20))), (b23, .inl (g.2.1.2.2, 2, .inl (wchr 21))), (b24, .inl (g.2.1.2.2, 3, .inl (wchr 22))), (b25, .inl (g.2.1.2.2, 3, .inl (wchr 23))), (b26, .inl (g.2.1.2.2, 3, .inl (wchr 24))), (b27, .inl (g.2.1.2.2, 3, .inl (wchr 25))), (b28, .inl (g.2.1.2.2, 3, .inl (wchr 26))), (b29, .inl (g.2.1.1, 6, .inl (fun _ => 0))), (b30, .inl (g.2.1.2.1, 32, .inr (.inl (fun _ => 0)))), (b31, .inl (g.2.1.1, 12, .inl (fun _ => 0))), (b32, .inl (g.2.1.1, 96, .inl (fun _ => 0))), (b33, .inl (g.2.1.1, 18, .inl (upd (upd (upd (upd (upd (upd (upd (upd (upd (upd (upd (upd (upd (upd (upd (upd (upd (upd (fun _ => 0) (0 : Int32).toNatClampNeg 50) (1 : Int32).toNatClampNeg 1) (2 : Int32).toNatClampNeg 3) (3 : Int32).toNatClampNeg 20) (4 : Int32).toNatClampNeg 0) (5 : Int32).toNatClampNeg 3) (6 : Int32).toNatClampNeg 3) (7 : Int32).toNatClampNeg 1) (8 : Int32).toNatClampNeg 0) (9 : Int32).toNatClampNeg 50) (10 : Int32).toNatClampNeg 1) (11 : Int32).toNatClampNeg 3) (12 : Int32).toNatClampNeg 20) (13 : Int32).toNatClampNeg 0) (14 : Int32).toNatClampNeg 3) (15 : Int32).toNatClampNeg 3) (16 : Int32).toNatClampNeg 1) (17 : Int32).toNatClampNeg 0))), (b34, .inl (g.2.1.1, 3200, .inl (fun _ => 0))), (b35, .inl (g.2.1.1, 1700, .inl (fun _ => 0)))] A s H locs := h1
  clear h1
  refine sgm_37 C hin hl rfl h (Nat.le_of_ble_eq_true rfl) (Nat.le_of_ble_eq_true rfl) (fun b36 H locs h1 => ?_)
  clear h
  have h : Wl g [(h0, .inr (9, [.ref b0, .int 0, .int 0, .int 0, .int 0, .int 0, .int 0, .int 0, .int (-1), .ref b1, .ref b2, .ref b3, .ref b4, .ref b5, .ref b6, .ref b7, .ref b8, .ref b9, .ref b10, .ref b11, .ref b12, .ref b13, .ref b14, .ref b15, .ref b16, .ref b17, .ref b18, .ref b19, .ref b20, .ref b21, .ref b22, .ref b23, .ref b24, .ref b25, .ref b26, .ref b27, .ref b28, .int 0, .ref b29, .ref b30, .ref b31, .ref b32, .ref b33, .int 0, .ref b34, .int 0, .ref b35, .int 0, .int 0, .ref b36, .null, .int 0, .null, .int 0, .null, .null, .null, .int 0, .int 0, .int 0, .int 0, .int 0, .int 0, .int 0, .int 0, .int 0, .long 0, .long 0, .long 0, .long 0, .long 0, .int 0, .int 0, .null, .int 0, .int 0, .long 0, .int 0, .int 0, .null, .null, .int 0])), (b0, .inl (g.2.1.1, 1600, .inl (fun _ => 0))), (b1, .inl (g.2.1.1, 6, .inl (fun _ => 0))), (b2, .inl (g.2.1.2.2, 4, .inl (wchr 0))), (b3, .inl (g.2.1.2.2, 2, .inl (wchr 1))), (b4, .inl (g.2.1.2.2, 5, .inl (wchr 2))), (b5, .inl (g.2.1.2.2, 5, .inl (wchr 3))), (b6, .inl (g.2.1.2.2, 3, .inl (wchr 4))), (b7, .inl (g.2.1.2.2, 5, .inl (wchr 5))), (b8, .inl (g.2.1.2.2, 5, .inl (wchr 6))), (b9, .inl (g.2.1.2.2, 5, .inl (wchr 7))), (b10, .inl (g.2.1.2.2, 4, .inl (wchr 8))), (b11, .inl (g.2.1.2.2, 4, .inl (wchr 9))), (b12, .inl (g.2.1.2.2, 4, .inl (wchr 10))), (b13, .inl (g.2.1.2.2, 4, .inl (wchr 11))), (b14, .inl (g.2.1.2.2, 5, .inl (wchr 12))), (b15, .inl (g.2.1.2.2, 5, .inl (wchr 13))), (b16, .inl (g.2.1.2.2, 5, .inl (wchr 14))), (b17, .inl (g.2.1.2.2, 5, .inl (wchr 15))), (b18, .inl (g.2.1.2.2, 4, .inl (wchr 16))), (b19, .inl (g.2.1.2.2, 5, .inl (wchr 17))), (b20, .inl (g.2.1.2.2, 5, .inl (wchr 18))), (b21, .inl (g.2.1.2.2, 4, .inl (wchr 19))), (b22, .inl (g.2.1.2.2, 5, .inl (wchr 20))), (b23, .inl (g.2.1.2.2, 2, .inl (wchr 21))), (b24, .inl (g.2.1.2.2, 3, .inl (wchr 22))), (b25, .inl (g.2.1.2.2, 3, .inl (wchr 23))), (b26, .inl (g.2.1.2.2, 3, .inl (wchr 24))), (b27, .inl (g.2.1.2.2, 3, .inl (wchr 25))), (b28, .inl (g.2.1.2.2, 3, .inl (wchr 26))), (b29, .inl (g.2.1.1, 6, .inl (fun _ => 0))), (b30, .inl (g.2.1.2.1, 32, .inr (.inl (fun _ => 0)))), (b31, .inl (g.2.1.1, 12, .inl (fun _ => 0))), (b32, .inl (g.2.1.1, 96, .inl (fun _ => 0))), (b33, .inl (g.2.1.1, 18, .inl (upd (upd (upd (upd (upd (upd (upd (upd (upd (upd (upd (upd (upd (upd (upd (upd (upd (upd (fun _ => 0) (0 : Int32).toNatClampNeg 50) (1 : Int32).toNatClampNeg 1) (2 : Int32).toNatClampNeg 3) (3 : Int32).toNatClampNeg 20) (4 : Int32).toNatClampNeg 0) (5 : Int32).toNatClampNeg 3) (6 : Int32).toNatClampNeg 3) (7 : Int32).toNatClampNeg 1) (8 : Int32).toNatClampNeg 0) (9 : Int32).toNatClampNeg 50) (10 : Int32).toNatClampNeg 1) (11 : Int32).toNatClampNeg 3) (12 : Int32).toNatClampNeg 20) (13 : Int32).toNatClampNeg 0) (14 : Int32).toNatClampNeg 3) (15 : Int32).toNatClampNeg 3) (16 : Int32).toNatClampNeg 1) (17 : Int32).toNatClampNeg 0))), (b34, .inl (g.2.1.1, 3200, .inl (fun _ => 0))), (b35, .inl (g.2.1.1, 1700, .inl (fun _ => 0))), (b36, .inl (g.2.1.1, 12, .inl (fun _ => 0)))] A s H locs := h1
  clear h1
  refine sgm_38 C hin hl rfl h (Nat.le_of_ble_eq_true rfl) (Nat.le_of_ble_eq_true rfl) (fun b37 H locs h1 => ?_)
  clear h
  have h : Wl g [(h0, .inr (9, [.ref b0, .int 0, .int 0, .int 0, .int 0, .int 0, .int 0, .int 0, .int (-1), .ref b1, .ref b2, .ref b3, .ref b4, .ref b5, .ref b6, .ref b7, .ref b8, .ref b9, .ref b10, .ref b11, .ref b12, .ref b13, .ref b14, .ref b15, .ref b16, .ref b17, .ref b18, .ref b19, .ref b20, .ref b21, .ref b22, .ref b23, .ref b24, .ref b25, .ref b26, .ref b27, .ref b28, .int 0, .ref b29, .ref b30, .ref b31, .ref b32, .ref b33, .int 0, .ref b34, .int 0, .ref b35, .int 0, .int 0, .ref b36, .ref b37, .int 0, .null, .int 0, .null, .null, .null, .int 0, .int 0, .int 0, .int 0, .int 0, .int 0, .int 0, .int 0, .int 0, .long 0, .long 0, .long 0, .long 0, .long 0, .int 0, .int 0, .null, .int 0, .int 0, .long 0, .int 0, .int 0, .null, .null, .int 0])), (b0, .inl (g.2.1.1, 1600, .inl (fun _ => 0))), (b1, .inl (g.2.1.1, 6, .inl (fun _ => 0))), (b2, .inl (g.2.1.2.2, 4, .inl (wchr 0))), (b3, .inl (g.2.1.2.2, 2, .inl (wchr 1))), (b4, .inl (g.2.1.2.2, 5, .inl (wchr 2))), (b5, .inl (g.2.1.2.2, 5, .inl (wchr 3))), (b6, .inl (g.2.1.2.2, 3, .inl (wchr 4))), (b7, .inl (g.2.1.2.2, 5, .inl (wchr 5))), (b8, .inl (g.2.1.2.2, 5, .inl (wchr 6))), (b9, .inl (g.2.1.2.2, 5, .inl (wchr 7))), (b10, .inl (g.2.1.2.2, 4, .inl (wchr 8))), (b11, .inl (g.2.1.2.2, 4, .inl (wchr 9))), (b12, .inl (g.2.1.2.2, 4, .inl (wchr 10))), (b13, .inl (g.2.1.2.2, 4, .inl (wchr 11))), (b14, .inl (g.2.1.2.2, 5, .inl (wchr 12))), (b15, .inl (g.2.1.2.2, 5, .inl (wchr 13))), (b16, .inl (g.2.1.2.2, 5, .inl (wchr 14))), (b17, .inl (g.2.1.2.2, 5, .inl (wchr 15))), (b18, .inl (g.2.1.2.2, 4, .inl (wchr 16))), (b19, .inl (g.2.1.2.2, 5, .inl (wchr 17))), (b20, .inl (g.2.1.2.2, 5, .inl (wchr 18))), (b21, .inl (g.2.1.2.2, 4, .inl (wchr 19))), (b22, .inl (g.2.1.2.2, 5, .inl (wchr 20))), (b23, .inl (g.2.1.2.2, 2, .inl (wchr 21))), (b24, .inl (g.2.1.2.2, 3, .inl (wchr 22))), (b25, .inl (g.2.1.2.2, 3, .inl (wchr 23))), (b26, .inl (g.2.1.2.2, 3, .inl (wchr 24))), (b27, .inl (g.2.1.2.2, 3, .inl (wchr 25))), (b28, .inl (g.2.1.2.2, 3, .inl (wchr 26))), (b29, .inl (g.2.1.1, 6, .inl (fun _ => 0))), (b30, .inl (g.2.1.2.1, 32, .inr (.inl (fun _ => 0)))), (b31, .inl (g.2.1.1, 12, .inl (fun _ => 0))), (b32, .inl (g.2.1.1, 96, .inl (fun _ => 0))), (b33, .inl (g.2.1.1, 18, .inl (upd (upd (upd (upd (upd (upd (upd (upd (upd (upd (upd (upd (upd (upd (upd (upd (upd (upd (fun _ => 0) (0 : Int32).toNatClampNeg 50) (1 : Int32).toNatClampNeg 1) (2 : Int32).toNatClampNeg 3) (3 : Int32).toNatClampNeg 20) (4 : Int32).toNatClampNeg 0) (5 : Int32).toNatClampNeg 3) (6 : Int32).toNatClampNeg 3) (7 : Int32).toNatClampNeg 1) (8 : Int32).toNatClampNeg 0) (9 : Int32).toNatClampNeg 50) (10 : Int32).toNatClampNeg 1) (11 : Int32).toNatClampNeg 3) (12 : Int32).toNatClampNeg 20) (13 : Int32).toNatClampNeg 0) (14 : Int32).toNatClampNeg 3) (15 : Int32).toNatClampNeg 3) (16 : Int32).toNatClampNeg 1) (17 : Int32).toNatClampNeg 0))), (b34, .inl (g.2.1.1, 3200, .inl (fun _ => 0))), (b35, .inl (g.2.1.1, 1700, .inl (fun _ => 0))), (b36, .inl (g.2.1.1, 12, .inl (fun _ => 0))), (b37, .inl (g.2.1.1, 12, .inl (fun _ => 0)))] A s H locs := h1
  clear h1
  refine sgm_39 C hin hl rfl h (Nat.le_of_ble_eq_true rfl) (Nat.le_of_ble_eq_true rfl) (fun b38 H locs h1 => ?_)
  clear h
  have h : Wl g [(h0, .inr (9, [.ref b0, .int 0, .int 0, .int 0, .int 0, .int 0, .int 0, .int 0, .int (-1), .ref b1, .ref b2, .ref b3, .ref b4, .ref b5, .ref b6, .ref b7, .ref b8, .ref b9, .ref b10, .ref b11, .ref b12, .ref b13, .ref b14, .ref b15, .ref b16, .ref b17, .ref b18, .ref b19, .ref b20, .ref b21, .ref b22, .ref b23, .ref b24, .ref b25, .ref b26, .ref b27, .ref b28, .int 0, .ref b29, .ref b30, .ref b31, .ref b32, .ref b33, .int 0, .ref b34, .int 0, .ref b35, .int 0, .int 0, .ref b36, .ref b37, .int 0, .ref b38, .int 0, .null, .null, .null, .int 0, .int 0, .int 0, .int 0, .int 0, .int 0, .int 0, .int 0, .int 0, .long 0, .long 0, .long 0, .long 0, .long 0, .int 0, .int 0, .null, .int 0, .int 0, .long 0, .int 0, .int 0, .null, .null, .int 0])), (b0, .inl (g.2.1.1, 1600, .inl (fun _ => 0))), (b1, .inl (g.2.1.1, 6, .inl (fun _ => 0))), (b2, .inl (g.2.1.2.2, 4, .inl (wchr 0))), (b3, .inl (g.2.1.2.2, 2, .inl (wchr 1))), (b4, .inl (g.2.1.2.2, 5, .inl (wchr 2))), (b5, .inl (g.2.1.2.2, 5, .inl (wchr 3))), (b6, .inl (g.2.1.2.2, 3, .inl (wchr 4))), (b7, .inl (g.2.1.2.2, 5, .inl (wchr 5))), (b8, .inl (g.2.1.2.2, 5, .inl (wchr 6))), (b9, .inl (g.2.1.2.2, 5, .inl (wchr 7))), (b10, .inl (g.2.1.2.2, 4, .inl (wchr 8))), (b11, .inl (g.2.1.2.2, 4, .inl (wchr 9))), (b12, .inl (g.2.1.2.2, 4, .inl (wchr 10))), (b13, .inl (g.2.1.2.2, 4, .inl (wchr 11))), (b14, .inl (g.2.1.2.2, 5, .inl (wchr 12))), (b15, .inl (g.2.1.2.2, 5, .inl (wchr 13))), (b16, .inl (g.2.1.2.2, 5, .inl (wchr 14))), (b17, .inl (g.2.1.2.2, 5, .inl (wchr 15))), (b18, .inl (g.2.1.2.2, 4, .inl (wchr 16))), (b19, .inl (g.2.1.2.2, 5, .inl (wchr 17))), (b20, .inl (g.2.1.2.2, 5, .inl (wchr 18))), (b21, .inl (g.2.1.2.2, 4, .inl (wchr 19))), (b22, .inl (g.2.1.2.2, 5, .inl (wchr 20))), (b23, .inl (g.2.1.2.2, 2, .inl (wchr 21))), (b24, .inl (g.2.1.2.2, 3, .inl (wchr 22))), (b25, .inl (g.2.1.2.2, 3, .inl (wchr 23))), (b26, .inl (g.2.1.2.2, 3, .inl (wchr 24))), (b27, .inl (g.2.1.2.2, 3, .inl (wchr 25))), (b28, .inl (g.2.1.2.2, 3, .inl (wchr 26))), (b29, .inl (g.2.1.1, 6, .inl (fun _ => 0))), (b30, .inl (g.2.1.2.1, 32, .inr (.inl (fun _ => 0)))), (b31, .inl (g.2.1.1, 12, .inl (fun _ => 0))), (b32, .inl (g.2.1.1, 96, .inl (fun _ => 0))), (b33, .inl (g.2.1.1, 18, .inl (upd (upd (upd (upd (upd (upd (upd (upd (upd (upd (upd (upd (upd (upd (upd (upd (upd (upd (fun _ => 0) (0 : Int32).toNatClampNeg 50) (1 : Int32).toNatClampNeg 1) (2 : Int32).toNatClampNeg 3) (3 : Int32).toNatClampNeg 20) (4 : Int32).toNatClampNeg 0) (5 : Int32).toNatClampNeg 3) (6 : Int32).toNatClampNeg 3) (7 : Int32).toNatClampNeg 1) (8 : Int32).toNatClampNeg 0) (9 : Int32).toNatClampNeg 50) (10 : Int32).toNatClampNeg 1) (11 : Int32).toNatClampNeg 3) (12 : Int32).toNatClampNeg 20) (13 : Int32).toNatClampNeg 0) (14 : Int32).toNatClampNeg 3) (15 : Int32).toNatClampNeg 3) (16 : Int32).toNatClampNeg 1) (17 : Int32).toNatClampNeg 0))), (b34, .inl (g.2.1.1, 3200, .inl (fun _ => 0))), (b35, .inl (g.2.1.1, 1700, .inl (fun _ => 0))), (b36, .inl (g.2.1.1, 12, .inl (fun _ => 0))), (b37, .inl (g.2.1.1, 12, .inl (fun _ => 0))), (b38, .inl (g.2.1.2.1, 1700, .inr (.inl (fun _ => 0))))] A s H locs := h1
  clear h1
  refine sgm_40 C hin hl rfl h (Nat.le_of_ble_eq_true rfl) (Nat.le_of_ble_eq_true rfl) (fun b39 H locs h1 => ?_)
  clear h
  have h : Wl g [(h0, .inr (9, [.ref b0, .int 0, .int 0, .int 0, .int 0, .int 0, .int 0, .int 0, .int (-1), .ref b1, .ref b2, .ref b3, .ref b4, .ref b5, .ref b6, .ref b7, .ref b8, .ref b9, .ref b10, .ref b11, .ref b12, .ref b13, .ref b14, .ref b15, .ref b16, .ref b17, .ref b18, .ref b19, .ref b20, .ref b21, .ref b22, .ref b23, .ref b24, .ref b25, .ref b26, .ref b27, .ref b28, .int 0, .ref b29, .ref b30, .ref b31, .ref b32, .ref b33, .int 0, .ref b34, .int 0, .ref b35, .int 0, .int 0, .ref b36, .ref b37, .int 0, .ref b38, .int 0, .ref b39, .null, .null, .int 0, .int 0, .int 0, .int 0, .int 0, .int 0, .int 0, .int 0, .int 0, .long 0, .long 0, .long 0, .long 0, .long 0, .int 0, .int 0, .null, .int 0, .int 0, .long 0, .int 0, .int 0, .null, .null, .int 0])), (b0, .inl (g.2.1.1, 1600, .inl (fun _ => 0))), (b1, .inl (g.2.1.1, 6, .inl (fun _ => 0))), (b2, .inl (g.2.1.2.2, 4, .inl (wchr 0))), (b3, .inl (g.2.1.2.2, 2, .inl (wchr 1))), (b4, .inl (g.2.1.2.2, 5, .inl (wchr 2))), (b5, .inl (g.2.1.2.2, 5, .inl (wchr 3))), (b6, .inl (g.2.1.2.2, 3, .inl (wchr 4))), (b7, .inl (g.2.1.2.2, 5, .inl (wchr 5))), (b8, .inl (g.2.1.2.2, 5, .inl (wchr 6))), (b9, .inl (g.2.1.2.2, 5, .inl (wchr 7))), (b10, .inl (g.2.1.2.2, 4, .inl (wchr 8))), (b11, .inl (g.2.1.2.2, 4, .inl (wchr 9))), (b12, .inl (g.2.1.2.2, 4, .inl (wchr 10))), (b13, .inl (g.2.1.2.2, 4, .inl (wchr 11))), (b14, .inl (g.2.1.2.2, 5, .inl (wchr 12))), (b15, .inl (g.2.1.2.2, 5, .inl (wchr 13))), (b16, .inl (g.2.1.2.2, 5, .inl (wchr 14))), (b17, .inl (g.2.1.2.2, 5, .inl (wchr 15))), (b18, .inl (g.2.1.2.2, 4, .inl (wchr 16))), (b19, .inl (g.2.1.2.2, 5, .inl (wchr 17))), (b20, .inl (g.2.1.2.2, 5, .inl (wchr 18))), (b21, .inl (g.2.1.2.2, 4, .inl (wchr 19))), (b22, .inl (g.2.1.2.2, 5, .inl (wchr 20))), (b23, .inl (g.2.1.2.2, 2, .inl (wchr 21))), (b24, .inl (g.2.1.2.2, 3, .inl (wchr 22))), (b25, .inl (g.2.1.2.2, 3, .inl (wchr 23))), (b26, .inl (g.2.1.2.2, 3, .inl (wchr 24))), (b27, .inl (g.2.1.2.2, 3, .inl (wchr 25))), (b28, .inl (g.2.1.2.2, 3, .inl (wchr 26))), (b29, .inl (g.2.1.1, 6, .inl (fun _ => 0))), (b30, .inl (g.2.1.2.1, 32, .inr (.inl (fun _ => 0)))), (b31, .inl (g.2.1.1, 12, .inl (fun _ => 0))), (b32, .inl (g.2.1.1, 96, .inl (fun _ => 0))), (b33, .inl (g.2.1.1, 18, .inl (upd (upd (upd (upd (upd (upd (upd (upd (upd (upd (upd (upd (upd (upd (upd (upd (upd (upd (fun _ => 0) (0 : Int32).toNatClampNeg 50) (1 : Int32).toNatClampNeg 1) (2 : Int32).toNatClampNeg 3) (3 : Int32).toNatClampNeg 20) (4 : Int32).toNatClampNeg 0) (5 : Int32).toNatClampNeg 3) (6 : Int32).toNatClampNeg 3) (7 : Int32).toNatClampNeg 1) (8 : Int32).toNatClampNeg 0) (9 : Int32).toNatClampNeg 50) (10 : Int32).toNatClampNeg 1) (11 : Int32).toNatClampNeg 3) (12 : Int32).toNatClampNeg 20) (13 : Int32).toNatClampNeg 0) (14 : Int32).toNatClampNeg 3) (15 : Int32).toNatClampNeg 3) (16 : Int32).toNatClampNeg 1) (17 : Int32).toNatClampNeg 0))), (b34, .inl (g.2.1.1, 3200, .inl (fun _ => 0))), (b35, .inl (g.2.1.1, 1700, .inl (fun _ => 0))), (b36, .inl (g.2.1.1, 12, .inl (fun _ => 0))), (b37, .inl (g.2.1.1, 12, .inl (fun _ => 0))), (b38, .inl (g.2.1.2.1, 1700, .inr (.inl (fun _ => 0)))), (b39, .inl (g.2.1.1, 6, .inl (fun _ => 0)))] A s H locs := h1
  clear h1
  refine sgm_41 C hin hl rfl h (Nat.le_of_ble_eq_true rfl) (Nat.le_of_ble_eq_true rfl) (fun b40 H locs h1 => ?_)
  clear h
  have h : Wl g [(h0, .inr (9, [.ref b0, .int 0, .int 0, .int 0, .int 0, .int 0, .int 0, .int 0, .int (-1), .ref b1, .ref b2, .ref b3, .ref b4, .ref b5, .ref b6, .ref b7, .ref b8, .ref b9, .ref b10, .ref b11, .ref b12, .ref b13, .ref b14, .ref b15, .ref b16, .ref b17, .ref b18, .ref b19, .ref b20, .ref b21, .ref b22, .ref b23, .ref b24, .ref b25, .ref b26, .ref b27, .ref b28, .int 0, .ref b29, .ref b30, .ref b31, .ref b32, .ref b33, .int 0, .ref b34, .int 0, .ref b35, .int 0, .int 0, .ref b36, .ref b37, .int 0, .ref b38, .int 0, .ref b39, .ref b40, .null, .int 0, .int 0, .int 0, .int 0, .int 0, .int 0, .int 0, .int 0, .int 0, .long 0, .long 0, .long 0, .long 0, .long 0, .int 0, .int 0, .null, .int 0, .int 0, .long 0, .int 0, .int 0, .null, .null, .int 0])), (b0, .inl (g.2.1.1, 1600, .inl (fun _ => 0))), (b1, .inl (g.2.1.1, 6, .inl (fun _ => 0))), (b2, .inl (g.2.1.2.2, 4, .inl (wchr 0))), (b3, .inl (g.2.1.2.2, 2, .inl (wchr 1))), (b4, .inl (g.2.1.2.2, 5, .inl (wchr 2))), (b5, .inl (g.2.1.2.2, 5, .inl (wchr 3))), (b6, .inl (g.2.1.2.2, 3, .inl (wchr 4))), (b7, .inl (g.2.1.2.2, 5, .inl (wchr 5))), (b8, .inl (g.2.1.2.2, 5, .inl (wchr 6))), (b9, .inl (g.2.1.2.2, 5, .inl (wchr 7))), (b10, .inl (g.2.1.2.2, 4, .inl (wchr 8))), (b11, .inl (g.2.1.2.2, 4, .inl (wchr 9))), (b12, .inl (g.2.1.2.2, 4, .inl (wchr 10))), (b13, .inl (g.2.1.2.2, 4, .inl (wchr 11))), (b14, .inl (g.2.1.2.2, 5, .inl (wchr 12))), (b15, .inl (g.2.1.2.2, 5, .inl (wchr 13))), (b16, .inl (g.2.1.2.2, 5, .inl (wchr 14))), (b17, .inl (g.2.1.2.2, 5, .inl (wchr 15))), (b18, .inl (g.2.1.2.2, 4, .inl (wchr 16))), (b19, .inl (g.2.1.2.2, 5, .inl (wchr 17))), (b20, .inl (g.2.1.2.2, 5, .inl (wchr 18))), (b21, .inl (g.2.1.2.2, 4, .inl (wchr 19))), (b22, .inl (g.2.1.2.2, 5, .inl (wchr 20))), (b23, .inl (g.2.1.2.2, 2, .inl (wchr 21))), (b24, .inl (g.2.1.2.2, 3, .inl (wchr 22))), (b25, .inl (g.2.1.2.2, 3, .inl (wchr 23))), (b26, .inl (g.2.1.2.2, 3, .inl (wchr 24))), (b27, .inl (g.2.1.2.2, 3, .inl (wchr 25))), (b28, .inl (g.2.1.2.2, 3, .inl (wchr 26))), (b29, .inl (g.2.1.1, 6, .inl (fun _ => 0))), (b30, .inl (g.2.1.2.1, 32, .inr (.inl (fun _ => 0)))), (b31, .inl (g.2.1.1, 12, .inl (fun _ => 0))), (b32, .inl (g.2.1.1, 96, .inl (fun _ => 0))), (b33, .inl (g.2.1.1, 18, .inl (upd (upd (upd (upd (upd (upd (upd (upd (upd (upd (upd (upd (upd (upd (upd (upd (upd (upd (fun _ => 0) (0 : Int32).toNatClampNeg 50) (1 : Int32).toNatClampNeg 1) (2 : Int32).toNatClampNeg 3) (3 : Int32).toNatClampNeg 20) (4 : Int32).toNatClampNeg 0) (5 : Int32).toNatClampNeg 3) (6 : Int32).toNatClampNeg 3) (7 : Int32).toNatClampNeg 1) (8 : Int32).toNatClampNeg 0) (9 : Int32).toNatClampNeg 50) (10 : Int32).toNatClampNeg 1) (11 : Int32).toNatClampNeg 3) (12 : Int32).toNatClampNeg 20) (13 : Int32).toNatClampNeg 0) (14 : Int32).toNatClampNeg 3) (15 : Int32).toNatClampNeg 3) (16 : Int32).toNatClampNeg 1) (17 : Int32).toNatClampNeg 0))), (b34, .inl (g.2.1.1, 3200, .inl (fun _ => 0))), (b35, .inl (g.2.1.1, 1700, .inl (fun _ => 0))), (b36, .inl (g.2.1.1, 12, .inl (fun _ => 0))), (b37, .inl (g.2.1.1, 12, .inl (fun _ => 0))), (b38, .inl (g.2.1.2.1, 1700, .inr (.inl (fun _ => 0)))), (b39, .inl (g.2.1.1, 6, .inl (fun _ => 0))), (b40, .inl (g.2.1.1, 10, .inl (upd (upd (upd (upd (upd (upd (upd (upd (upd (upd (fun _ => 0) (0 : Int32).toNatClampNeg 0) (1 : Int32).toNatClampNeg 0) (2 : Int32).toNatClampNeg 0) (3 : Int32).toNatClampNeg 50) (4 : Int32).toNatClampNeg 20) (5 : Int32).toNatClampNeg 1) (6 : Int32).toNatClampNeg 0) (7 : Int32).toNatClampNeg 0) (8 : Int32).toNatClampNeg 0) (9 : Int32).toNatClampNeg 0)))] A s H locs := h1
  clear h1
  refine sgm_42 C hin hl rfl h (Nat.le_of_ble_eq_true rfl) (Nat.le_of_ble_eq_true rfl) (fun b41 H locs h1 => ?_)
  clear h
  have h : Wl g [(h0, .inr (9, [.ref b0, .int 0, .int 0, .int 0, .int 0, .int 0, .int 0, .int 0, .int (-1), .ref b1, .ref b2, .ref b3, .ref b4, .ref b5, .ref b6, .ref b7, .ref b8, .ref b9, .ref b10, .ref b11, .ref b12, .ref b13, .ref b14, .ref b15, .ref b16, .ref b17, .ref b18, .ref b19, .ref b20, .ref b21, .ref b22, .ref b23, .ref b24, .ref b25, .ref b26, .ref b27, .ref b28, .int 0, .ref b29, .ref b30, .ref b31, .ref b32, .ref b33, .int 0, .ref b34, .int 0, .ref b35, .int 0, .int 0, .ref b36, .ref b37, .int 0, .ref b38, .int 0, .ref b39, .ref b40, .ref b41, .int 0, .int 0, .int 0, .int 0, .int 0, .int 0, .int 0, .int 0, .int 0, .long 0, .long 0, .long 0, .long 0, .long 0, .int 0, .int 0, .null, .int 0, .int 0, .long 0, .int 0, .int 0, .null, .null, .int 0])), (b0, .inl (g.2.1.1, 1600, .inl (fun _ => 0))), (b1, .inl (g.2.1.1, 6, .inl (fun _ => 0))), (b2, .inl (g.2.1.2.2, 4, .inl (wchr 0))), (b3, .inl (g.2.1.2.2, 2, .inl (wchr 1))), (b4, .inl (g.2.1.2.2, 5, .inl (wchr 2))), (b5, .inl (g.2.1.2.2, 5, .inl (wchr 3))), (b6, .inl (g.2.1.2.2, 3, .inl (wchr 4))), (b7, .inl (g.2.1.2.2, 5, .inl (wchr 5))), (b8, .inl (g.2.1.2.2, 5, .inl (wchr 6))), (b9, .inl (g.2.1.2.2, 5, .inl (wchr 7))), (b10, .inl (g.2.1.2.2, 4, .inl (wchr 8))), (b11, .inl (g.2.1.2.2, 4, .inl (wchr 9))), (b12, .inl (g.2.1.2.2, 4, .inl (wchr 10))), (b13, .inl (g.2.1.2.2, 4, .inl (wchr 11))), (b14, .inl (g.2.1.2.2, 5, .inl (wchr 12))), (b15, .inl (g.2.1.2.2, 5, .inl (wchr 13))), (b16, .inl (g.2.1.2.2, 5, .inl (wchr 14))), (b17, .inl (g.2.1.2.2, 5, .inl (wchr 15))), (b18, .inl (g.2.1.2.2, 4, .inl (wchr 16))), (b19, .inl (g.2.1.2.2, 5, .inl (wchr 17))), (b20, .inl (g.2.1.2.2, 5, .inl (wchr 18))), (b21, .inl (g.2.1.2.2, 4, .inl (wchr 19))), (b22, .inl (g.2.1.2.2, 5, .inl (wchr 20))), (b23, .inl (g.2.1.2.2, 2, .inl (wchr 21))), (b24, .inl (g.2.1.2.2, 3, .inl (wchr 22))), (b25, .inl (g.2.1.2.2, 3, .inl (wchr 23))), (b26, .inl (g.2.1.2.2, 3, .inl (wchr 24))), (b27, .inl (g.2.1.2.2, 3, .inl (wchr 25))), (b28, .inl (g.2.1.2.2, 3, .inl (wchr 26))), (b29, .inl (g.2.1.1, 6, .inl (fun _ => 0))), (b30, .inl (g.2.1.2.1, 32, .inr (.inl (fun _ => 0)))), (b31, .inl (g.2.1.1, 12, .inl (fun _ => 0))), (b32, .inl (g.2.1.1, 96, .inl (fun _ => 0))), (b33, .inl (g.2.1.1, 18, .inl (upd (upd (upd (upd (upd (upd (upd (upd (upd (upd (upd (upd (upd (upd (upd (upd (upd (upd (fun _ => 0) (0 : Int32).toNatClampNeg 50) (1 : Int32).toNatClampNeg 1) (2 : Int32).toNatClampNeg 3) (3 : Int32).toNatClampNeg 20) (4 : Int32).toNatClampNeg 0) (5 : Int32).toNatClampNeg 3) (6 : Int32).toNatClampNeg 3) (7 : Int32).toNatClampNeg 1) (8 : Int32).toNatClampNeg 0) (9 : Int32).toNatClampNeg 50) (10 : Int32).toNatClampNeg 1) (11 : Int32).toNatClampNeg 3) (12 : Int32).toNatClampNeg 20) (13 : Int32).toNatClampNeg 0) (14 : Int32).toNatClampNeg 3) (15 : Int32).toNatClampNeg 3) (16 : Int32).toNatClampNeg 1) (17 : Int32).toNatClampNeg 0))), (b34, .inl (g.2.1.1, 3200, .inl (fun _ => 0))), (b35, .inl (g.2.1.1, 1700, .inl (fun _ => 0))), (b36, .inl (g.2.1.1, 12, .inl (fun _ => 0))), (b37, .inl (g.2.1.1, 12, .inl (fun _ => 0))), (b38, .inl (g.2.1.2.1, 1700, .inr (.inl (fun _ => 0)))), (b39, .inl (g.2.1.1, 6, .inl (fun _ => 0))), (b40, .inl (g.2.1.1, 10, .inl (upd (upd (upd (upd (upd (upd (upd (upd (upd (upd (fun _ => 0) (0 : Int32).toNatClampNeg 0) (1 : Int32).toNatClampNeg 0) (2 : Int32).toNatClampNeg 0) (3 : Int32).toNatClampNeg 50) (4 : Int32).toNatClampNeg 20) (5 : Int32).toNatClampNeg 1) (6 : Int32).toNatClampNeg 0) (7 : Int32).toNatClampNeg 0) (8 : Int32).toNatClampNeg 0) (9 : Int32).toNatClampNeg 0))), (b41, .inl (g.2.1.1, 300, .inl (fun _ => 0)))] A s H locs := h1
  clear h1
  refine sgm_43 C hin hl rfl h (Nat.le_of_ble_eq_true rfl) (Nat.le_of_ble_eq_true rfl) (fun b42 H locs h1 => ?_)
  clear h
  have h : Wl g [(h0, .inr (9, [.ref b0, .int 0, .int 0, .int 0, .int 0, .int 0, .int 0, .int 0, .int (-1), .ref b1, .ref b2, .ref b3, .ref b4, .ref b5, .ref b6, .ref b7, .ref b8, .ref b9, .ref b10, .ref b11, .ref b12, .ref b13, .ref b14, .ref b15, .ref b16, .ref b17, .ref b18, .ref b19, .ref b20, .ref b21, .ref b22, .ref b23, .ref b24, .ref b25, .ref b26, .ref b27, .ref b28, .int 0, .ref b29, .ref b30, .ref b31, .ref b32, .ref b33, .int 0, .ref b34, .int 0, .ref b35, .int 0, .int 0, .ref b36, .ref b37, .int 0, .ref b38, .int 0, .ref b39, .ref b40, .ref b41, .int 0, .int 0, .int 0, .int 0, .int 0, .int 0, .int 0, .int 0, .int 0, .long 0, .long 0, .long 0, .long 0, .long 0, .int 0, .int 0, .ref b42, .int 0, .int 0, .long 0, .int 0, .int 0, .null, .null, .int 0])), (b0, .inl (g.2.1.1, 1600, .inl (fun _ => 0))), (b1, .inl (g.2.1.1, 6, .inl (fun _ => 0))), (b2, .inl (g.2.1.2.2, 4, .inl (wchr 0))), (b3, .inl (g.2.1.2.2, 2, .inl (wchr 1))), (b4, .inl (g.2.1.2.2, 5, .inl (wchr 2))), (b5, .inl (g.2.1.2.2, 5, .inl (wchr 3))), (b6, .inl (g.2.1.2.2, 3, .inl (wchr 4))), (b7, .inl (g.2.1.2.2, 5, .inl (wchr 5))), (b8, .inl (g.2.1.2.2, 5, .inl (wchr 6))), (b9, .inl (g.2.1.2.2, 5, .inl (wchr 7))), (b10, .inl (g.2.1.2.2, 4, .inl (wchr 8))), (b11, .inl (g.2.1.2.2, 4, .inl (wchr 9))), (b12, .inl (g.2.1.2.2, 4, .inl (wchr 10))), (b13, .inl (g.2.1.2.2, 4, .inl (wchr 11))), (b14, .inl (g.2.1.2.2, 5, .inl (wchr 12))), (b15, .inl (g.2.1.2.2, 5, .inl (wchr 13))), (b16, .inl (g.2.1.2.2, 5, .inl (wchr 14))), (b17, .inl (g.2.1.2.2, 5, .inl (wchr 15))), (b18, .inl (g.2.1.2.2, 4, .inl (wchr 16))), (b19, .inl (g.2.1.2.2, 5, .inl (wchr 17))), (b20, .inl (g.2.1.2.2, 5, .inl (wchr 18))), (b21, .inl (g.2.1.2.2, 4, .inl (wchr 19))), (b22, .inl (g.2.1.2.2, 5, .inl (wchr 20))), (b23, .inl (g.2.1.2.2, 2, .inl (wchr 21))), (b24, .inl (g.2.1.2.2, 3, .inl (wchr 22))), (b25, .inl (g.2.1.2.2, 3, .inl (wchr 23))), (b26, .inl (g.2.1.2.2, 3, .inl (wchr 24))), (b27, .inl (g.2.1.2.2, 3, .inl (wchr 25))), (b28, .inl (g.2.1.2.2, 3, .inl (wchr 26))), (b29, .inl (g.2.1.1, 6, .inl (fun _ => 0))), (b30, .inl (g.2.1.2.1, 32, .inr (.inl (fun _ => 0)))), (b31, .inl (g.2.1.1, 12, .inl (fun _ => 0))), (b32, .inl (g.2.1.1, 96, .inl (fun _ => 0))), (b33, .inl (g.2.1.1, 18, .inl (upd (upd (upd (upd (upd (upd (upd (upd (upd (upd (upd (upd (upd (upd (upd (upd (upd (upd (fun _ => 0) (0 : Int32).toNatClampNeg 50) (1 : Int32).toNatClampNeg 1) (2 : Int32).toNatClampNeg 3) (3 : Int32).toNatClampNeg 20) (4 : Int32).toNatClampNeg 0) (5 : Int32).toNatClampNeg 3) (6 : Int32).toNatClampNeg 3) (7 : Int32).toNatClampNeg 1) (8 : Int32).toNatClampNeg 0) (9 : Int32).toNatClampNeg 50) (10 : Int32).toNatClampNeg 1) (11 : Int32).toNatClampNeg 3) (12 : Int32).toNatClampNeg 20) (13 : Int32).toNatClampNeg 0) (14 : Int32).toNatClampNeg 3) (15 : Int32).toNatClampNeg 3) (16 : Int32).toNatClampNeg 1) (17 : Int32).toNatClampNeg 0))), (b34, .inl (g.2.1.1, 3200, .inl (fun _ => 0))), (b35, .inl (g.2.1.1, 1700, .inl (fun _ => 0))), (b36, .inl (g.2.1.1, 12, .inl (fun _ => 0))), (b37, .inl (g.2.1.1, 12, .inl (fun _ => 0))), (b38, .inl (g.2.1.2.1, 1700, .inr (.inl (fun _ => 0)))), (b39, .inl (g.2.1.1, 6, .inl (fun _ => 0))), (b40, .inl (g.2.1.1, 10, .inl (upd (upd (upd (upd (upd (upd (upd (upd (upd (upd (fun _ => 0) (0 : Int32).toNatClampNeg 0) (1 : Int32).toNatClampNeg 0) (2 : Int32).toNatClampNeg 0) (3 : Int32).toNatClampNeg 50) (4 : Int32).toNatClampNeg 20) (5 : Int32).toNatClampNeg 1) (6 : Int32).toNatClampNeg 0) (7 : Int32).toNatClampNeg 0) (8 : Int32).toNatClampNeg 0) (9 : Int32).toNatClampNeg 0))), (b41, .inl (g.2.1.1, 300, .inl (fun _ => 0))), (b42, .inl (g.2.1.1, 6140, .inl (fun _ => 0)))] A s H locs := h1
  clear h1
  refine sgm_44 C hin hl rfl h (fun H locs h1 => ?_)
  clear h
  have h : Wl g [(h0, .inr (9, [.ref b0, .int 0, .int 0, .int 0, .int 0, .int 0, .int 0, .int 0, .int (-1), .ref b1, .ref b2, .ref b3, .ref b4, .ref b5, .ref b6, .ref b7, .ref b8, .ref b9, .ref b10, .ref b11, .ref b12, .ref b13, .ref b14, .ref b15, .ref b16, .ref b17, .ref b18, .ref b19, .ref b20, .ref b21, .ref b22, .ref b23, .ref b24, .ref b25, .ref b26, .ref b27, .ref b28, .int 0, .ref b29, .ref b30, .ref b31, .ref b32, .ref b33, .int 0, .ref b34, .int 0, .ref b35, .int 0, .int 0, .ref b36, .ref b37, .int 0, .ref b38, .int 0, .ref b39, .ref b40, .ref b41, .int 0, .int 0, .int 0, .int 0, .int 0, .int 0, .int 0, .int 0, .int 0, .long 0, .long 0, .long 0, .long 0, .long 0, .int 0, .int 0, .ref b42, .int 0, .int 0, .long 1, .int 0, .int 0, .null, .null, .int 0])), (b0, .inl (g.2.1.1, 1600, .inl (fun _ => 0))), (b1, .inl (g.2.1.1, 6, .inl (fun _ => 0))), (b2, .inl (g.2.1.2.2, 4, .inl (wchr 0))), (b3, .inl (g.2.1.2.2, 2, .inl (wchr 1))), (b4, .inl (g.2.1.2.2, 5, .inl (wchr 2))), (b5, .inl (g.2.1.2.2, 5, .inl (wchr 3))), (b6, .inl (g.2.1.2.2, 3, .inl (wchr 4))), (b7, .inl (g.2.1.2.2, 5, .inl (wchr 5))), (b8, .inl (g.2.1.2.2, 5, .inl (wchr 6))), (b9, .inl (g.2.1.2.2, 5, .inl (wchr 7))), (b10, .inl (g.2.1.2.2, 4, .inl (wchr 8))), (b11, .inl (g.2.1.2.2, 4, .inl (wchr 9))), (b12, .inl (g.2.1.2.2, 4, .inl (wchr 10))), (b13, .inl (g.2.1.2.2, 4, .inl (wchr 11))), (b14, .inl (g.2.1.2.2, 5, .inl (wchr 12))), (b15, .inl (g.2.1.2.2, 5, .inl (wchr 13))), (b16, .inl (g.2.1.2.2, 5, .inl (wchr 14))), (b17, .inl (g.2.1.2.2, 5, .inl (wchr 15))), (b18, .inl (g.2.1.2.2, 4, .inl (wchr 16))), (b19, .inl (g.2.1.2.2, 5, .inl (wchr 17))), (b20, .inl (g.2.1.2.2, 5, .inl (wchr 18))), (b21, .inl (g.2.1.2.2, 4, .inl (wchr 19))), (b22, .inl (g.2.1.2.2, 5, .inl (wchr 20))), (b23, .inl (g.2.1.2.2, 2, .inl (wchr 21))), (b24, .inl (g.2.1.2.2, 3, .inl (wchr 22))), (b25, .inl (g.2.1.2.2, 3, .inl (wchr 23))), (b26, .inl (g.2.1.2.2, 3, .inl (wchr 24))), (b27, .inl (g.2.1.2.2, 3, .inl (wchr 25))), (b28, .inl (g.2.1.2.2, 3, .inl (wchr 26))), (b29, .inl (g.2.1.1, 6, .inl (fun _ => 0))), (b30, .inl (g.2.1.2.1, 32, .inr (.inl (fun _ => 0)))), (b31, .inl (g.2.1.1, 12, .inl (fun _ => 0))), (b32, .inl (g.2.1.1, 96, .inl (fun _ => 0))), (b33, .inl (g.2.1.1, 18, .inl (upd (upd (upd (upd (upd (upd (upd (upd (upd (upd (upd (upd (upd (upd (upd (upd (upd (upd (fun _ => 0) (0 : Int32).toNatClampNeg 50) (1 : Int32).toNatClampNeg 1) (2 : Int32).toNatClampNeg 3) (3 : Int32).toNatClampNeg 20) (4 : Int32).toNatClampNeg 0) (5 : Int32).toNatClampNeg 3) (6 : Int32).toNatClampNeg 3) (7 : Int32).toNatClampNeg 1) (8 : Int32).toNatClampNeg 0) (9 : Int32).toNatClampNeg 50) (10 : Int32).toNatClampNeg 1) (11 : Int32).toNatClampNeg 3) (12 : Int32).toNatClampNeg 20) (13 : Int32).toNatClampNeg 0) (14 : Int32).toNatClampNeg 3) (15 : Int32).toNatClampNeg 3) (16 : Int32).toNatClampNeg 1) (17 : Int32).toNatClampNeg 0))), (b34, .inl (g.2.1.1, 3200, .inl (fun _ => 0))), (b35, .inl (g.2.1.1, 1700, .inl (fun _ => 0))), (b36, .inl (g.2.1.1, 12, .inl (fun _ => 0))), (b37, .inl (g.2.1.1, 12, .inl (fun _ => 0))), (b38, .inl (g.2.1.2.1, 1700, .inr (.inl (fun _ => 0)))), (b39, .inl (g.2.1.1, 6, .inl (fun _ => 0))), (b40, .inl (g.2.1.1, 10, .inl (upd (upd (upd (upd (upd (upd (upd (upd (upd (upd (fun _ => 0) (0 : Int32).toNatClampNeg 0) (1 : Int32).toNatClampNeg 0) (2 : Int32).toNatClampNeg 0) (3 : Int32).toNatClampNeg 50) (4 : Int32).toNatClampNeg 20) (5 : Int32).toNatClampNeg 1) (6 : Int32).toNatClampNeg 0) (7 : Int32).toNatClampNeg 0) (8 : Int32).toNatClampNeg 0) (9 : Int32).toNatClampNeg 0))), (b41, .inl (g.2.1.1, 300, .inl (fun _ => 0))), (b42, .inl (g.2.1.1, 6140, .inl (fun _ => 0)))] A s H locs := h1
  clear h1
  refine sgm_45 C hin hl rfl h (Nat.le_of_ble_eq_true rfl) (Nat.le_of_ble_eq_true rfl) (fun b43 H locs h1 => ?_)
  clear h
  have h : Wl g [(h0, .inr (9, [.ref b0, .int 0, .int 0, .int 0, .int 0, .int 0, .int 0, .int 0, .int (-1), .ref b1, .ref b2, .ref b3, .ref b4, .ref b5, .ref b6, .ref b7, .ref b8, .ref b9, .ref b10, .ref b11, .ref b12, .ref b13, .ref b14, .ref b15, .ref b16, .ref b17, .ref b18, .ref b19, .ref b20, .ref b21, .ref b22, .ref b23, .ref b24, .ref b25, .ref b26, .ref b27, .ref b28, .int 0, .ref b29, .ref b30, .ref b31, .ref b32, .ref b33, .int 0, .ref b34, .int 0, .ref b35, .int 0, .int 0, .ref b36, .ref b37, .int 0, .ref b38, .int 0, .ref b39, .ref b40, .ref b41, .int 0, .int 0, .int 0, .int 0, .int 0, .int 0, .int 0, .int 0, .int 0, .long 0, .long 0, .long 0, .long 0, .long 0, .int 0, .int 0, .ref b42, .int 0, .int 0, .long 1, .int 0, .int 0, .ref b43, .null, .int 0])), (b0, .inl (g.2.1.1, 1600, .inl (fun _ => 0))), (b1, .inl (g.2.1.1, 6, .inl (fun _ => 0))), (b2, .inl (g.2.1.2.2, 4, .inl (wchr 0))), (b3, .inl (g.2.1.2.2, 2, .inl (wchr 1))), (b4, .inl (g.2.1.2.2, 5, .inl (wchr 2))), (b5, .inl (g.2.1.2.2, 5, .inl (wchr 3))), (b6, .inl (g.2.1.2.2, 3, .inl (wchr 4))), (b7, .inl (g.2.1.2.2, 5, .inl (wchr 5))), (b8, .inl (g.2.1.2.2, 5, .inl (wchr 6))), (b9, .inl (g.2.1.2.2, 5, .inl (wchr 7))), (b10, .inl (g.2.1.2.2, 4, .inl (wchr 8))), (b11, .inl (g.2.1.2.2, 4, .inl (wchr 9))), (b12, .inl (g.2.1.2.2, 4, .inl (wchr 10))), (b13, .inl (g.2.1.2.2, 4, .inl (wchr 11))), (b14, .inl (g.2.1.2.2, 5, .inl (wchr 12))), (b15, .inl (g.2.1.2.2, 5, .inl (wchr 13))), (b16, .inl (g.2.1.2.2, 5, .inl (wchr 14))), (b17, .inl (g.2.1.2.2, 5, .inl (wchr 15))), (b18, .inl (g.2.1.2.2, 4, .inl (wchr 16))), (b19, .inl (g.2.1.2.2, 5, .inl (wchr 17))), (b20, .inl (g.2.1.2.2, 5, .inl (wchr 18))), (b21, .inl (g.2.1.2.2, 4, .inl (wchr 19))), (b22, .inl (g.2.1.2.2, 5, .inl (wchr 20))), (b23, .inl (g.2.1.2.2, 2, .inl (wchr 21))), (b24, .inl (g.2.1.2.2, 3, .inl (wchr 22))), (b25, .inl (g.2.1.2.2, 3, .inl (wchr 23))), (b26, .inl (g.2.1.2.2, 3, .inl (wchr 24))), (b27, .inl (g.2.1.2.2, 3, .inl (wchr 25))), (b28, .inl (g.2.1.2.2, 3, .inl (wchr 26))), (b29, .inl (g.2.1.1, 6, .inl (fun _ => 0))), (b30, .inl (g.2.1.2.1, 32, .inr (.inl (fun _ => 0)))), (b31, .inl (g.2.1.1, 12, .inl (fun _ => 0))), (b32, .inl (g.2.1.1, 96, .inl (fun _ => 0))), (b33, .inl (g.2.1.1, 18, .inl (upd (upd (upd (upd (upd (upd (upd (upd (upd (upd (upd (upd (upd (upd (upd (upd (upd (upd (fun _ => 0) (0 : Int32).toNatClampNeg 50) (1 : Int32).toNatClampNeg 1) (2 : Int32).toNatClampNeg 3) (3 : Int32).toNatClampNeg 20) (4 : Int32).toNatClampNeg 0) (5 : Int32).toNatClampNeg 3) (6 : Int32).toNatClampNeg 3) (7 : Int32).toNatClampNeg 1) (8 : Int32).toNatClampNeg 0) (9 : Int32).toNatClampNeg 50) (10 : Int32).toNatClampNeg 1) (11 : Int32).toNatClampNeg 3) (12 : Int32).toNatClampNeg 20) (13 : Int32).toNatClampNeg 0) (14 : Int32).toNatClampNeg 3) (15 : Int32).toNatClampNeg 3) (16 : Int32).toNatClampNeg 1) (17 : Int32).toNatClampNeg 0))), (b34, .inl (g.2.1.1, 3200, .inl (fun _ => 0))), (b35, .inl (g.2.1.1, 1700, .inl (fun _ => 0))), (b36, .inl (g.2.1.1, 12, .inl (fun _ => 0))), (b37, .inl (g.2.1.1, 12, .inl (fun _ => 0))), (b38, .inl (g.2.1.2.1, 1700, .inr (.inl (fun _ => 0)))), (b39, .inl (g.2.1.1, 6, .inl (fun _ => 0))), (b40, .inl (g.2.1.1, 10, .inl (upd (upd (upd (upd (upd (upd (upd (upd (upd (upd (fun _ => 0) (0 : Int32).toNatClampNeg 0) (1 : Int32).toNatClampNeg 0) (2 : Int32).toNatClampNeg 0) (3 : Int32).toNatClampNeg 50) (4 : Int32).toNatClampNeg 20) (5 : Int32).toNatClampNeg 1) (6 : Int32).toNatClampNeg 0) (7 : Int32).toNatClampNeg 0) (8 : Int32).toNatClampNeg 0) (9 : Int32).toNatClampNeg 0))), (b41, .inl (g.2.1.1, 300, .inl (fun _ => 0))), (b42, .inl (g.2.1.1, 6140, .inl (fun _ => 0))), (b43, .inl (g.2.1.1, 4, .inl (fun _ => 0)))] A s H locs := h1
  clear h1
  refine sgm_46 C hin hl rfl h (Nat.le_of_ble_eq_true rfl) (Nat.le_of_ble_eq_true rfl) (fun b44 H locs h1 => ?_)
  clear h
  have h : Wl g [(h0, .inr (9, [.ref b0, .int 0, .int 0, .int 0, .int 0, .int 0, .int 0, .int 0, .int (-1), .ref b1, .ref b2, .ref b3, .ref b4, .ref b5, .ref b6, .ref b7, .ref b8, .ref b9, .ref b10, .ref b11, .ref b12, .ref b13, .ref b14, .ref b15, .ref b16, .ref b17, .ref b18, .ref b19, .ref b20, .ref b21, .ref b22, .ref b23, .ref b24, .ref b25, .ref b26, .ref b27, .ref b28, .int 0, .ref b29, .ref b30, .ref b31, .ref b32, .ref b33, .int 0, .ref b34, .int 0, .ref b35, .int 0, .int 0, .ref b36, .ref b37, .int 0, .ref b38, .int 0, .ref b39, .ref b40, .ref b41, .int 0, .int 0, .int 0, .int 0, .int 0, .int 0, .int 0, .int 0, .int 0, .long 0, .long 0, .long 0, .long 0, .long 0, .int 0, .int 0, .ref b42, .int 0, .int 0, .long 1, .int 0, .int 0, .ref b43, .ref b44, .int 0])), (b0, .inl (g.2.1.1, 1600, .inl (fun _ => 0))), (b1, .inl (g.2.1.1, 6, .inl (fun _ => 0))), (b2, .inl (g.2.1.2.2, 4, .inl (wchr 0))), (b3, .inl (g.2.1.2.2, 2, .inl (wchr 1))), (b4, .inl (g.2.1.2.2, 5, .inl (wchr 2))), (b5, .inl (g.2.1.2.2, 5, .inl (wchr 3))), (b6, .inl (g.2.1.2.2, 3, .inl (wchr 4))), (b7, .inl (g.2.1.2.2, 5, .inl (wchr 5))), (b8, .inl (g.2.1.2.2, 5, .inl (wchr 6))), (b9, .inl (g.2.1.2.2, 5, .inl (wchr 7))), (b10, .inl (g.2.1.2.2, 4, .inl (wchr 8))), (b11, .inl (g.2.1.2.2, 4, .inl (wchr 9))), (b12, .inl (g.2.1.2.2, 4, .inl (wchr 10))), (b13, .inl (g.2.1.2.2, 4, .inl (wchr 11))), (b14, .inl (g.2.1.2.2, 5, .inl (wchr 12))), (b15, .inl (g.2.1.2.2, 5, .inl (wchr 13))), (b16, .inl (g.2.1.2.2, 5, .inl (wchr 14))), (b17, .inl (g.2.1.2.2, 5, .inl (wchr 15))), (b18, .inl (g.2.1.2.2, 4, .inl (wchr 16))), (b19, .inl (g.2.1.2.2, 5, .inl (wchr 17))), (b20, .inl (g.2.1.2.2, 5, .inl (wchr 18))), (b21, .inl (g.2.1.2.2, 4, .inl (wchr 19))), (b22, .inl (g.2.1.2.2, 5, .inl (wchr 20))), (b23, .inl (g.2.1.2.2, 2, .inl (wchr 21))), (b24, .inl (g.2.1.2.2, 3, .inl (wchr 22))), (b25, .inl (g.2.1.2.2, 3, .inl (wchr 23))), (b26, .inl (g.2.1.2.2, 3, .inl (wchr 24))), (b27, .inl (g.2.1.2.2, 3, .inl (wchr 25))), (b28, .inl (g.2.1.2.2, 3, .inl (wchr 26))), (b29, .inl (g.2.1.1, 6, .inl (fun _ => 0))), (b30, .inl (g.2.1.2.1, 32, .inr (.inl (fun _ => 0)))), (b31, .inl (g.2.1.1, 12, .inl (fun _ => 0))), (b32, .inl (g.2.1.1, 96, .inl (fun _ => 0))), (b33, .inl (g.2.1.1, 18, .inl (upd (upd (upd (upd (upd (upd (upd (upd (upd (upd (upd (upd (upd (upd (upd (upd (upd (upd (fun _ => 0) (0 : Int32).toNatClampNeg 50) (1 : Int32).toNatClampNeg 1) (2 : Int32).toNatClampNeg 3) (3 : Int32).toNatClampNeg 20) (4 : Int32).toNatClampNeg 0) (5 : Int32).toNatClampNeg 3) (6 : Int32).toNatClampNeg 3) (7 : Int32).toNatClampNeg 1) (8 : Int32).toNatClampNeg 0) (9 : Int32).toNatClampNeg 50) (10 : Int32).toNatClampNeg 1) (11 : Int32).toNatClampNeg 3) (12 : Int32).toNatClampNeg 20) (13 : Int32).toNatClampNeg 0) (14 : Int32).toNatClampNeg 3) (15 : Int32).toNatClampNeg 3) (16 : Int32).toNatClampNeg 1) (17 : Int32).toNatClampNeg 0))), (b34, .inl (g.2.1.1, 3200, .inl (fun _ => 0))), (b35, .inl (g.2.1.1, 1700, .inl (fun _ => 0))), (b36, .inl (g.2.1.1, 12, .inl (fun _ => 0))), (b37, .inl (g.2.1.1, 12, .inl (fun _ => 0))), (b38, .inl (g.2.1.2.1, 1700, .inr (.inl (fun _ => 0)))), (b39, .inl (g.2.1.1, 6, .inl (fun _ => 0))), (b40, .inl (g.2.1.1, 10, .inl (upd (upd (upd (upd (upd (upd (upd (upd (upd (upd (fun _ => 0) (0 : Int32).toNatClampNeg 0) (1 : Int32).toNatClampNeg 0) (2 : Int32).toNatClampNeg 0) (3 : Int32).toNatClampNeg 50) (4 : Int32).toNatClampNeg 20) (5 : Int32).toNatClampNeg 1) (6 : Int32).toNatClampNeg 0) (7 : Int32).toNatClampNeg 0) (8 : Int32).toNatClampNeg 0) (9 : Int32).toNatClampNeg 0))), (b41, .inl (g.2.1.1, 300, .inl (fun _ => 0))), (b42, .inl (g.2.1.1, 6140, .inl (fun _ => 0))), (b43, .inl (g.2.1.1, 4, .inl (fun _ => 0))), (b44, .inl (g.2.1.1, 10, .inl (fun _ => 0)))] A s H locs := h1
  clear h1
  refine W.widen (k := 45) (n := 14974) (Nat.le_of_ble_eq_true rfl) (Nat.le_of_ble_eq_true rfl) ?_
  exact k_vretA C h ⟨fun k => [h0, b0, b1, b2, b3, b4, b5, b6, b7, b8, b9, b10, b11, b12, b13, b14, b15, b16, b17, b18, b19, b20, b21, b22, b23, b24, b25, b26, b27, b28, b29, b30, b31, b32, b33, b34, b35, b36, b37, b38, b39, b40, b41, b42, b43, b44].getD k 0, rfl, rfl⟩ d_AModel_1036
