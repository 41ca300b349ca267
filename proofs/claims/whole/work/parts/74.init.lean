-- ===== the beginning =====
def d0 : FD := (0, 0, 0, fun _ => 0, fun _ _ => 0, fun k => if k = 0 then 3 else if k = 1 then 0 else if k = 2 then 3 else if k = 3 then 3 else if k = 4 then 1 else 0, fun _ => 0, fun _ => 0, fun _ _ => 0, fun _ _ => 0)
def h0 (i : Nat) : Nat := if i = 3 then 50 else if i = 4 then 20 else if i = 5 then 1 else 0
set_option maxRecDepth 20000 in
theorem rel_init_f (r : St) (hr : sA r 0 = sA rd0 0) : Rel (σX0f r) σM0 := by
  refine ⟨⟨⟨0, by omega, rfl, rfl, fun k hk => by omega⟩, ⟨rfl, rfl⟩, fun k _ => rfl, ⟨rfl, .inl rfl, fun k _ => rfl⟩, ⟨1, by omega, rfl, rfl⟩, hr⟩, d0, ?_, ?_, ?_, ⟨0, by omega, rfl, rfl, fun h => by omega⟩, 0, 0, fun _ => h0, fun _ _ => 0, ?_, ?_, ?_⟩
  · refine ⟨by decide, by decide, by decide, fun k hk => absurd hk (Nat.not_lt_zero _), fun k hk => absurd hk (Nat.not_lt_zero _), ⟨by decide, by decide, by decide, by decide, by decide, by decide, by decide⟩, fun k hk => absurd hk (Nat.not_lt_zero _), fun k hk => absurd hk (Nat.not_lt_zero _), fun k hk => absurd hk (Nat.not_lt_zero _)⟩
  · refine ⟨rfl, rfl, rfl, fun k hk => absurd hk (Nat.not_lt_zero _), fun k j hk => absurd hk (Nat.not_lt_zero _), fun k hk => ?_, fun k i hk => absurd hk (Nat.not_lt_zero _), fun k hk => absurd hk (Nat.not_lt_zero _), fun k hk => absurd hk (Nat.not_lt_zero _), fun k hk => absurd hk (Nat.not_lt_zero _)⟩
    match k, hk with
    | 0, _ => rfl
    | 1, _ => rfl
    | 2, _ => rfl
    | 3, _ => rfl
    | 4, _ => rfl
    | 5, _ => rfl
  · refine ⟨rfl, rfl, rfl, fun k hk => absurd hk (Nat.not_lt_zero _), fun k j hk => absurd hk (Nat.not_lt_zero _), fun k hk => ?_, fun k i hk => absurd hk (Nat.not_lt_zero _), fun k hk => absurd hk (Nat.not_lt_zero _), fun k hk => absurd hk (Nat.not_lt_zero _), fun k hk => absurd hk (Nat.not_lt_zero _)⟩
    match k, hk with
    | 0, _ => rfl
    | 1, _ => rfl
    | 2, _ => rfl
    | 3, _ => rfl
    | 4, _ => rfl
    | 5, _ => rfl
  · exact ⟨by omega, fun j _ => (show wfC d0 h0 from ⟨by decide, by decide, by decide, by decide, by decide, by decide, by decide, by decide, by decide⟩), fun i hi => absurd hi (Nat.not_lt_zero _)⟩
  · exact ⟨rfl, ⟨rfl, rfl, rfl, rfl, rfl, rfl, rfl⟩, fun j hj => absurd hj (Nat.not_lt_zero _), fun i hi => absurd hi (Nat.not_lt_zero _)⟩
  · refine ⟨rfl, rfl, by omega, ⟨fun k hk => ?_, rfl, fun i j hi => absurd hi (Nat.not_lt_zero _)⟩, fun j hj => absurd hj (Nat.not_lt_zero _)⟩
    match k, hk with
    | 0, _ => rfl
    | 1, _ => rfl
    | 2, _ => rfl
    | 3, _ => rfl
    | 4, _ => rfl
    | 5, _ => rfl
theorem rel_init : Rel σX0 σM0 := rel_init_f rd0 rfl
