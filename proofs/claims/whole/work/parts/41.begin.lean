/-! THE BEGINNING -/
def pu_K0 : pu_K := fun f j => if f = 8 then (if j = 0 then 6 else if j = 1 then 3 else if j = 2 then 8 else if j = 3 then 11 else 0) else 0
theorem pu_K0_ok : pu_ok pu_K0 := by
  refine ⟨by decide, fun j _ => ⟨Nat.zero_le _, Nat.zero_le _, Nat.zero_le _, Nat.zero_le _, Nat.zero_le _, Nat.zero_le _⟩, fun j hj => absurd hj (Nat.not_lt_zero _), fun i j hi _ _ => absurd hi (Nat.not_lt_zero _), fun j _ => Nat.zero_le _, by decide, by decide, by decide, by decide, by decide, by decide⟩
theorem pu_K0_ord : pu_ord pu_K0 (pu_K0 6) := ⟨fun j hj => absurd hj (Nat.not_lt_zero _), fun x hx => absurd hx (Nat.not_lt_zero _)⟩
theorem pu_K0_X : pu_X 1 ob_x0 pu_K0 := by
  refine ⟨rfl, fun f h1 h2 j hj => ?_⟩
  obtain rfl | rfl | rfl | rfl | rfl | rfl | rfl | rfl : f = 1 ∨ f = 2 ∨ f = 3 ∨ f = 4 ∨ f = 5 ∨ f = 6 ∨ f = 7 ∨ f = 8 := by omega
  · rfl
  · rfl
  · rfl
  · rfl
  · rfl
  · rfl
  · rfl
  · have hj6 : j < 6 := hj
    obtain rfl | rfl | rfl | rfl | rfl | rfl : j = 0 ∨ j = 1 ∨ j = 2 ∨ j = 3 ∨ j = 4 ∨ j = 5 := by omega
    · rfl
    · rfl
    · rfl
    · rfl
    · rfl
    · rfl
theorem pu_K0_M : pu_M ob_y0 pu_K0 := by
  refine ⟨rfl, fun f h1 h2 j hj => ?_, fun j hj => ?_, fun j hj => rfl⟩
  · obtain rfl | rfl | rfl | rfl | rfl | rfl : f = 1 ∨ f = 2 ∨ f = 3 ∨ f = 4 ∨ f = 5 ∨ f = 6 := by omega
    · rfl
    · rfl
    · rfl
    · rfl
    · rfl
    · rfl
  · obtain rfl | rfl | rfl | rfl | rfl | rfl : j = 0 ∨ j = 1 ∨ j = 2 ∨ j = 3 ∨ j = 4 ∨ j = 5 := by omega
    · rfl
    · rfl
    · rfl
    · rfl
    · rfl
    · rfl
theorem ob_RR_0 : ob_RR ob_x0 ob_y0 :=
  ⟨pu_K0, pu_K0, 0, [], [], fun _ => 0, ⟨pu_K0_ok, pu_K0_ord, by decide, fun e => absurd e (by decide), by decide, fun x hx => absurd hx (List.not_mem_nil), by decide, fun x hx => absurd hx (List.not_mem_nil)⟩, ⟨pu_K0_X, rfl, fun e => absurd e (by decide), rfl, fun j hj => absurd hj (Nat.not_lt_zero _), rfl, fun j hj => absurd hj (Nat.not_lt_zero _), fun j _ => rfl⟩, ⟨pu_K0_M, rfl, fun e => absurd e (by decide), rfl, fun j hj => absurd hj (Nat.not_lt_zero _), rfl, fun j hj => absurd hj (Nat.not_lt_zero _), fun j _ => rfl⟩⟩
