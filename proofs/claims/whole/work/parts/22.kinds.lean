/-! KINDS -/
theorem pu_cooled {k n : Nat} (hk : k ≤ 5) (hn : n < 2 ^ 30) (σ : ob_St) : f_disp_cooled (32 + k) σ (nI n) = some (nI (pu_cool k n), σ) := by
  have h10 : nI n / 10 = nI (n / 10) := pk_div (d := 10) (by omega) (by omega) (by omega)
  have h2 : nI (n / 10) / 2 = nI (n / 10 / 2) := pk_div (d := 2) (by omega) (by omega) (by omega)
  have h1 : nI (n / 10) + 1 = nI (n / 10 + 1) := nI_1 _
  rcases (show k = 0 ∨ k = 1 ∨ k = 2 ∨ k = 3 ∨ k = 4 ∨ k = 5 by omega) with rfl | rfl | rfl | rfl | rfl | rfl <;>
    simp [f_disp_cooled, f_X6_cooled, f_X4_cooled, f_X0_cooled, f_X2_cooled, f_X7_cooled, f_X4_underLid, ob_bd, h10, h2, h1, pu_cool, pu_lit0]
theorem pu_slopped {k h : Nat} {K : pu_K} (hk : k ≤ 5) (hh : K 8 4 = h) (σ : ob_St) : f_disp_slopped (32 + k) σ (nI h) = some (nI (pu_slop K k), σ) := by
  have h4 : nI h * 4 = nI (4 * h) := by rw [show (4 : Int32) = nI 4 from rfl, pk_mul, Nat.mul_comm]
  have h1 : nI (4 * h) + 1 = nI (4 * h + 1) := nI_1 _
  subst hh
  rcases (show k = 0 ∨ k = 1 ∨ k = 2 ∨ k = 3 ∨ k = 4 ∨ k = 5 by omega) with rfl | rfl | rfl | rfl | rfl | rfl <;>
    simp [f_disp_slopped, f_X6_slopped, f_X8_slopped, f_X2_slopped, ob_bd, h4, h1, pu_slop, pu_lit0]
theorem pu_isAlone {k : Nat} (hk : k ≤ 5) (σ : ob_St) : f_disp_isAlone (32 + k) σ = some (if k = 5 then 1 else 0, σ) := by
  rcases (show k = 0 ∨ k = 1 ∨ k = 2 ∨ k = 3 ∨ k = 4 ∨ k = 5 by omega) with rfl | rfl | rfl | rfl | rfl | rfl <;>
    simp [f_disp_isAlone, f_X6_isAlone, f_X7_isAlone, ob_rb]
theorem pu_kindOf {b x : Nat} {σ : ob_St} {K : pu_K} (h : pu_X b σ K) (hK : pu_ok K) (hx : x < 6) : f_X1_kindOf b σ (nI x) = some (32 + K 1 x, σ) := by
  have e := pu_Xf h 1 x (by omega) (by omega) hx
  have hk : K 1 x ≤ 5 := (hK.2.1 x hx).1
  unfold f_X1_kindOf
  rw [pu_ld hx (by omega), e, if_neg (nI_pos (by omega)), if_neg (show ¬ (6 : Int32) ≤ nI (K 1 x) from nI_ge (b := 6) (by omega) (by omega))]
  generalize K 1 x = k at hk ⊢
  rcases (show k = 0 ∨ k = 1 ∨ k = 2 ∨ k = 3 ∨ k = 4 ∨ k = 5 by omega) with rfl | rfl | rfl | rfl | rfl | rfl <;> rfl
