theorem pu_lit0 : (0 : Int32) = nI 0 := rfl
theorem pu_lit1 : (1 : Int32) = nI 1 := rfl
/-! the class's Kitchen -/
theorem pu_X0 {b : Nat} {σ : ob_St} {K : pu_K} (h : pu_X b σ K) : σ b 0 = nI (K 0 0) := h.1
theorem pu_Xf {b : Nat} {σ : ob_St} {K : pu_K} (h : pu_X b σ K) (f j : Nat) (h1 : 1 ≤ f) (h2 : f ≤ 8) (h3 : j < pu_kn f) : σ (b + f) j = nI (K f j) := h.2 f h1 h2 j h3
theorem pu_hasDish {b : Nat} {σ : ob_St} {K : pu_K} (h : pu_X b σ K) (hK : pu_ok K) (x : Int32) : f_X3_hasDish b σ x = some (if 0 ≤ x ∧ x < nI (K 0 0) then 1 else 0, σ) := by
  unfold f_X3_hasDish
  by_cases h1 : x < 0
  · have h2 : ¬ (0 ≤ x ∧ x < nI (K 0 0)) := fun q => Int32.lt_irrefl (Int32.lt_of_lt_of_le h1 q.1)
    rw [if_pos h1, if_neg h2]
    rfl
  · rw [if_neg h1, h.1]
    have h0 : 0 ≤ x := Int32.not_lt.mp h1
    by_cases h3 : nI (K 0 0) ≤ x
    · have h2 : ¬ (0 ≤ x ∧ x < nI (K 0 0)) := fun q => Int32.lt_irrefl (Int32.lt_of_le_of_lt h3 q.2)
      rw [if_pos h3, if_neg h2]
      rfl
    · rw [if_neg h3, if_pos ⟨h0, Int32.not_le.mp h3⟩]
      rfl
theorem pu_secX {b : Nat} {σ : ob_St} {K : pu_K} (h : pu_X b σ K) (hK : pu_ok K) {load : Nat} (hl : load ≤ 99) : f_X3_secondsWith b σ (nI load) = some (nI (pu_secs K load), σ) := by
  obtain ⟨-, -, -, -, -, -, -, hB, hP, hH, -⟩ := hK
  unfold f_X3_secondsWith
  have e2 := pu_Xf h 8 2 (by omega) (by omega) (by decide)
  have e3 := pu_Xf h 8 3 (by omega) (by omega) (by decide)
  have e4 := pu_Xf h 8 4 (by omega) (by omega) (by decide)
  rw [pu_L6_2, e2, pu_abs (by omega) (by omega), pu_nm, pu_L6_3, e3, pu_L6_4, e4]
  rw [show (4 : Int32) = nI 4 from rfl, pk_div (by omega) (by omega) (by omega), pu_lit1, nI_add, ← pu_lit1, pu_max1 (by omega) (by omega), pk_mul]
  rfl
theorem pu_beginX {b : Nat} {σ : ob_St} {K : pu_K} (h : pu_X b σ K) (hK : pu_ok K) {c : Nat} (hc : c < 5) : f_X3_beginOf b σ (nI c) = some (nI (pu_begin K c), σ) := by
  unfold f_X3_beginOf
  have e2 := pu_Xf h 7 c (by omega) (by omega) hc
  rw [pu_ld (by omega) (by omega), e2, show (100 : Int32) = nI 100 from rfl, pk_mul, nI_add]
  rfl
/-- a sum over the DISHES -/
def pu_sum (f : Nat → Nat) : Nat → Nat
  | 0 => 0
  | n + 1 => pu_sum f n + f n
theorem pu_sumOf {b a : Nat} {σ : ob_St} {d : Nat} {f : Nat → Nat} (h : σ b 0 = nI d) (hd : d ≤ 6) (hf : ∀ j, j < d → σ a j = nI (f j)) : f_X3_sumOf b a σ = some (nI (pu_sum f d), σ) := by
  have key : ∀ (k i n : Nat), i + k = d → k < n → L_X3_sumOf_4 b a n σ (nI (pu_sum f i)) (nI i) = some (nI (pu_sum f d), σ) := by
    intro k
    induction k with
    | zero =>
      intro i n hi hn
      obtain ⟨n, rfl⟩ : ∃ z, n = z + 1 := ⟨n - 1, by omega⟩
      rw [L_X3_sumOf_4, h, if_pos (nI_le (by omega) (by omega)), show i = d by omega]
    | succ k ih =>
      intro i n hi hn
      obtain ⟨n, rfl⟩ : ∃ z, n = z + 1 := ⟨n - 1, by omega⟩
      rw [L_X3_sumOf_4, h, if_neg (nI_ge (by omega) (by omega)), pu_ld (by omega) (by omega), hf i (by omega), pu_nm, nI_add, nI_1]
      exact ih (i + 1) n (by omega) (by omega)
  exact key d 0 1000 (by omega) (by omega)
