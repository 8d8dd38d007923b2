/-! PURE LEVEL: what the functions compute -/
theorem pu_in {i n : Nat} (h : i < n) (hn : n < 2 ^ 31) : ob_in (nI i) n = true := by
  have h1 : ¬ nI i < 0 := nI_pos (by omega)
  simp only [ob_in, h1, decide_false, Bool.not_false, Bool.true_and, decide_eq_true_eq]
  rw [nI_clamp (by omega)]
  exact h
theorem pu_ld {α : Type} {σ : ob_St} {k n i : Nat} {K : Int32 → Option α} (h : i < n) (hn : n < 2 ^ 31) : ob_ld σ k n (nI i) K = K (σ k i) := by
  simp only [ob_ld, pu_in h hn, if_true]
  rw [nI_clamp (by omega)]
theorem pu_sd {α : Type} {σ : ob_St} {k n i : Nat} {x : Int32} {K : ob_St → Option α} (h : i < n) (hn : n < 2 ^ 31) : ob_sd σ k n (nI i) x K = K (ob_up σ k i x) := by
  simp only [ob_sd, pu_in h hn, if_true]
  rw [nI_clamp (by omega)]
theorem pu_lt {α : Type} {f : Nat → Int32} {n i : Nat} {K : Int32 → Option α} (h : i < n) (hn : n < 2 ^ 31) : ob_lt f n (nI i) K = K (f i) := by
  simp only [ob_lt, pu_in h hn, if_true]
  rw [nI_clamp (by omega)]
theorem pu_bd {β α : Type} (r : β) (σ : ob_St) (K : β → ob_St → Option α) : ob_bd (some (r, σ)) K = K r σ := rfl
theorem pu_nm {α : Type} (x : Int32) (K : Int32 → Option α) : ob_nm x K = K x := rfl
theorem pu_pf {α : Type} (σ : ob_St) (k j : Nat) (x : Int32) (K : ob_St → Option α) : ob_pf σ k j x K = K (ob_up σ k j x) := rfl
theorem pu_cp {α : Type} (σ : ob_St) (k0 k1 n : Nat) (K : ob_St → Option α) : ob_cp σ k0 k1 n K = K (ob_upA σ k1 (va_cpy (σ k0) (σ k1) 0 0 n)) := rfl
theorem pu_us (σ : ob_St) (k j : Nat) (v : Int32) : ob_up σ k j v k = upd (σ k) j v := ob_upA_self _ _ _
theorem pu_un (σ : ob_St) (k j : Nat) (v : Int32) {q : Nat} (h : q ≠ k) : ob_up σ k j v q = σ q := ob_upA_ne _ _ _ h
theorem pu_uss (σ : ob_St) (k j : Nat) (v : Int32) : ob_up σ k j v k j = v := by rw [pu_us]; exact pk_us
theorem pu_usn (σ : ob_St) (k j : Nat) (v : Int32) {i : Nat} (h : i ≠ j) : ob_up σ k j v k i = σ k i := by rw [pu_us]; exact pk_un h
theorem pu_unn (σ : ob_St) (k j : Nat) (v : Int32) {q i : Nat} (h : q ≠ k ∨ i ≠ j) : ob_up σ k j v q i = σ q i := by
  by_cases hq : q = k
  · subst hq
    exact pu_usn σ q j v (h.resolve_left (fun z => z rfl))
  · rw [pu_un σ k j v hq]
theorem pu_le {a b : Nat} (ha : a < 2 ^ 31) (hb : b < 2 ^ 31) : (nI a ≤ nI b) = (a ≤ b) := propext (nI_leI ha hb)
theorem pu_ltI {a b : Nat} (ha : a < 2 ^ 31) (hb : b < 2 ^ 31) : (nI a < nI b) = (a < b) := propext (nI_ltI ha hb)
theorem pu_eq {a b : Nat} (ha : a < 2 ^ 31) (hb : b < 2 ^ 31) : (nI a = nI b) = (a = b) := propext (nI_eq ha hb)
theorem pu_max {a b : Nat} (ha : a < 2 ^ 31) (hb : b < 2 ^ 31) : ob_max (nI a) (nI b) = nI (max a b) := by
  simp only [ob_max, pu_ltI ha hb]
  split
  · rw [Nat.max_eq_right (by omega)]
  · rw [Nat.max_eq_left (by omega)]
/-- max(0, a - b) -/
theorem pu_max0 {a b : Nat} (ha : a < 2 ^ 30) (hb : b < 2 ^ 30) : ob_max 0 (nI a - nI b) = nI (a - b) := by
  simp only [ob_max]
  by_cases h : b < a
  · rw [pk_sub (by omega)]
    exact if_pos (show nI 0 < nI (a - b) from (nI_ltI (by omega) (by omega)).mpr (by omega))
  · have h2 : ¬ (0 : Int32) < nI a - nI b := by
      intro q
      have q2 := Int32.lt_iff_toInt_lt.mp q
      rw [pk_sub_toInt ha hb] at q2
      have : (0 : Int32).toInt = 0 := rfl
      omega
    rw [if_neg h2, show a - b = 0 from by omega]
    rfl
theorem pu_abs {a b : Nat} (ha : a < 2 ^ 30) (hb : b < 2 ^ 30) : ob_abs (nI a - nI b) = nI ((a - b) + (b - a)) := by
  simp only [ob_abs]
  by_cases h : b ≤ a
  · rw [pk_sub h, if_pos (show (0 : Int32) ≤ nI (a - b) from (nI_leI (a := 0) (by omega) (by omega)).mpr (by omega)), show b - a = 0 from by omega, Nat.add_zero]
  · have h2 : ¬ (0 : Int32) ≤ nI a - nI b := by
      intro q
      have q2 := Int32.le_iff_toInt_le.mp q
      rw [pk_sub_toInt ha hb] at q2
      have : (0 : Int32).toInt = 0 := rfl
      omega
    rw [if_neg h2, show a - b = 0 from by omega, Nat.zero_add, ← pk_sub (show a ≤ b by omega)]
    apply Int32.toBitVec_inj.mp
    simp
theorem pu_max1 {a b : Nat} (ha : a < 2 ^ 30) (hb : b < 2 ^ 30) : ob_max 1 (nI a - nI b) = nI (max 1 (a - b)) := by
  simp only [ob_max]
  by_cases h : 1 + b < a
  · rw [pk_sub (by omega), if_pos (show (1 : Int32) < nI (a - b) from (nI_ltI (a := 1) (by omega) (by omega)).mpr (by omega)), Nat.max_eq_right (by omega)]
  · have h2 : ¬ (1 : Int32) < nI a - nI b := by
      intro q
      have q2 := Int32.lt_iff_toInt_lt.mp q
      rw [pk_sub_toInt ha hb] at q2
      have : (1 : Int32).toInt = 1 := rfl
      omega
    rw [if_neg h2, Nat.max_eq_left (by omega)]
    rfl
theorem pu_ld' {α : Type} {σ : ob_St} {k n : Nat} {x : Int32} {K : Int32 → Option α} (i : Nat) (hx : x = nI i) (h : i < n) (hn : n < 2 ^ 31) : ob_ld σ k n x K = K (σ k i) := by rw [hx]; exact pu_ld h hn
theorem pu_sd' {α : Type} {σ : ob_St} {k n : Nat} {y x : Int32} {K : ob_St → Option α} (i : Nat) (hx : y = nI i) (h : i < n) (hn : n < 2 ^ 31) : ob_sd σ k n y x K = K (ob_up σ k i x) := by rw [hx]; exact pu_sd h hn
theorem pu_bd' {β α : Type} {x : Option (β × ob_St)} {r : β} {σ : ob_St} (K : β → ob_St → Option α) (h : x = some (r, σ)) : ob_bd x K = K r σ := by rw [h]; rfl
theorem pu_L6_0 {α : Type} {σ : ob_St} {k : Nat} {K : Int32 → Option α} : ob_ld σ k 6 0 K = K (σ k 0) := pu_ld (i := 0) (by decide) (by decide)
theorem pu_S6_0 {α : Type} {σ : ob_St} {k : Nat} {x : Int32} {K : ob_St → Option α} : ob_sd σ k 6 0 x K = K (ob_up σ k 0 x) := pu_sd (i := 0) (by decide) (by decide)
theorem pu_L6_1 {α : Type} {σ : ob_St} {k : Nat} {K : Int32 → Option α} : ob_ld σ k 6 1 K = K (σ k 1) := pu_ld (i := 1) (by decide) (by decide)
theorem pu_S6_1 {α : Type} {σ : ob_St} {k : Nat} {x : Int32} {K : ob_St → Option α} : ob_sd σ k 6 1 x K = K (ob_up σ k 1 x) := pu_sd (i := 1) (by decide) (by decide)
theorem pu_L6_2 {α : Type} {σ : ob_St} {k : Nat} {K : Int32 → Option α} : ob_ld σ k 6 2 K = K (σ k 2) := pu_ld (i := 2) (by decide) (by decide)
theorem pu_S6_2 {α : Type} {σ : ob_St} {k : Nat} {x : Int32} {K : ob_St → Option α} : ob_sd σ k 6 2 x K = K (ob_up σ k 2 x) := pu_sd (i := 2) (by decide) (by decide)
theorem pu_L6_3 {α : Type} {σ : ob_St} {k : Nat} {K : Int32 → Option α} : ob_ld σ k 6 3 K = K (σ k 3) := pu_ld (i := 3) (by decide) (by decide)
theorem pu_S6_3 {α : Type} {σ : ob_St} {k : Nat} {x : Int32} {K : ob_St → Option α} : ob_sd σ k 6 3 x K = K (ob_up σ k 3 x) := pu_sd (i := 3) (by decide) (by decide)
theorem pu_L6_4 {α : Type} {σ : ob_St} {k : Nat} {K : Int32 → Option α} : ob_ld σ k 6 4 K = K (σ k 4) := pu_ld (i := 4) (by decide) (by decide)
theorem pu_S6_4 {α : Type} {σ : ob_St} {k : Nat} {x : Int32} {K : ob_St → Option α} : ob_sd σ k 6 4 x K = K (ob_up σ k 4 x) := pu_sd (i := 4) (by decide) (by decide)
theorem pu_L6_5 {α : Type} {σ : ob_St} {k : Nat} {K : Int32 → Option α} : ob_ld σ k 6 5 K = K (σ k 5) := pu_ld (i := 5) (by decide) (by decide)
theorem pu_S6_5 {α : Type} {σ : ob_St} {k : Nat} {x : Int32} {K : ob_St → Option α} : ob_sd σ k 6 5 x K = K (ob_up σ k 5 x) := pu_sd (i := 5) (by decide) (by decide)
theorem pu_L7_0 {α : Type} {σ : ob_St} {k : Nat} {K : Int32 → Option α} : ob_ld σ k 7 0 K = K (σ k 0) := pu_ld (i := 0) (by decide) (by decide)
theorem pu_S7_0 {α : Type} {σ : ob_St} {k : Nat} {x : Int32} {K : ob_St → Option α} : ob_sd σ k 7 0 x K = K (ob_up σ k 0 x) := pu_sd (i := 0) (by decide) (by decide)
theorem pu_L7_1 {α : Type} {σ : ob_St} {k : Nat} {K : Int32 → Option α} : ob_ld σ k 7 1 K = K (σ k 1) := pu_ld (i := 1) (by decide) (by decide)
theorem pu_S7_1 {α : Type} {σ : ob_St} {k : Nat} {x : Int32} {K : ob_St → Option α} : ob_sd σ k 7 1 x K = K (ob_up σ k 1 x) := pu_sd (i := 1) (by decide) (by decide)
theorem pu_L7_2 {α : Type} {σ : ob_St} {k : Nat} {K : Int32 → Option α} : ob_ld σ k 7 2 K = K (σ k 2) := pu_ld (i := 2) (by decide) (by decide)
theorem pu_S7_2 {α : Type} {σ : ob_St} {k : Nat} {x : Int32} {K : ob_St → Option α} : ob_sd σ k 7 2 x K = K (ob_up σ k 2 x) := pu_sd (i := 2) (by decide) (by decide)
theorem pu_L7_3 {α : Type} {σ : ob_St} {k : Nat} {K : Int32 → Option α} : ob_ld σ k 7 3 K = K (σ k 3) := pu_ld (i := 3) (by decide) (by decide)
theorem pu_S7_3 {α : Type} {σ : ob_St} {k : Nat} {x : Int32} {K : ob_St → Option α} : ob_sd σ k 7 3 x K = K (ob_up σ k 3 x) := pu_sd (i := 3) (by decide) (by decide)
theorem pu_L7_4 {α : Type} {σ : ob_St} {k : Nat} {K : Int32 → Option α} : ob_ld σ k 7 4 K = K (σ k 4) := pu_ld (i := 4) (by decide) (by decide)
theorem pu_S7_4 {α : Type} {σ : ob_St} {k : Nat} {x : Int32} {K : ob_St → Option α} : ob_sd σ k 7 4 x K = K (ob_up σ k 4 x) := pu_sd (i := 4) (by decide) (by decide)
theorem pu_L7_5 {α : Type} {σ : ob_St} {k : Nat} {K : Int32 → Option α} : ob_ld σ k 7 5 K = K (σ k 5) := pu_ld (i := 5) (by decide) (by decide)
theorem pu_S7_5 {α : Type} {σ : ob_St} {k : Nat} {x : Int32} {K : ob_St → Option α} : ob_sd σ k 7 5 x K = K (ob_up σ k 5 x) := pu_sd (i := 5) (by decide) (by decide)
theorem pu_L7_6 {α : Type} {σ : ob_St} {k : Nat} {K : Int32 → Option α} : ob_ld σ k 7 6 K = K (σ k 6) := pu_ld (i := 6) (by decide) (by decide)
theorem pu_S7_6 {α : Type} {σ : ob_St} {k : Nat} {x : Int32} {K : ob_St → Option α} : ob_sd σ k 7 6 x K = K (ob_up σ k 6 x) := pu_sd (i := 6) (by decide) (by decide)
theorem pu_L8_0 {α : Type} {σ : ob_St} {k : Nat} {K : Int32 → Option α} : ob_ld σ k 8 0 K = K (σ k 0) := pu_ld (i := 0) (by decide) (by decide)
theorem pu_S8_0 {α : Type} {σ : ob_St} {k : Nat} {x : Int32} {K : ob_St → Option α} : ob_sd σ k 8 0 x K = K (ob_up σ k 0 x) := pu_sd (i := 0) (by decide) (by decide)
theorem pu_L8_1 {α : Type} {σ : ob_St} {k : Nat} {K : Int32 → Option α} : ob_ld σ k 8 1 K = K (σ k 1) := pu_ld (i := 1) (by decide) (by decide)
theorem pu_S8_1 {α : Type} {σ : ob_St} {k : Nat} {x : Int32} {K : ob_St → Option α} : ob_sd σ k 8 1 x K = K (ob_up σ k 1 x) := pu_sd (i := 1) (by decide) (by decide)
theorem pu_L8_2 {α : Type} {σ : ob_St} {k : Nat} {K : Int32 → Option α} : ob_ld σ k 8 2 K = K (σ k 2) := pu_ld (i := 2) (by decide) (by decide)
theorem pu_S8_2 {α : Type} {σ : ob_St} {k : Nat} {x : Int32} {K : ob_St → Option α} : ob_sd σ k 8 2 x K = K (ob_up σ k 2 x) := pu_sd (i := 2) (by decide) (by decide)
theorem pu_L8_3 {α : Type} {σ : ob_St} {k : Nat} {K : Int32 → Option α} : ob_ld σ k 8 3 K = K (σ k 3) := pu_ld (i := 3) (by decide) (by decide)
theorem pu_S8_3 {α : Type} {σ : ob_St} {k : Nat} {x : Int32} {K : ob_St → Option α} : ob_sd σ k 8 3 x K = K (ob_up σ k 3 x) := pu_sd (i := 3) (by decide) (by decide)
theorem pu_L8_4 {α : Type} {σ : ob_St} {k : Nat} {K : Int32 → Option α} : ob_ld σ k 8 4 K = K (σ k 4) := pu_ld (i := 4) (by decide) (by decide)
theorem pu_S8_4 {α : Type} {σ : ob_St} {k : Nat} {x : Int32} {K : ob_St → Option α} : ob_sd σ k 8 4 x K = K (ob_up σ k 4 x) := pu_sd (i := 4) (by decide) (by decide)
theorem pu_L8_5 {α : Type} {σ : ob_St} {k : Nat} {K : Int32 → Option α} : ob_ld σ k 8 5 K = K (σ k 5) := pu_ld (i := 5) (by decide) (by decide)
theorem pu_S8_5 {α : Type} {σ : ob_St} {k : Nat} {x : Int32} {K : ob_St → Option α} : ob_sd σ k 8 5 x K = K (ob_up σ k 5 x) := pu_sd (i := 5) (by decide) (by decide)
theorem pu_L8_6 {α : Type} {σ : ob_St} {k : Nat} {K : Int32 → Option α} : ob_ld σ k 8 6 K = K (σ k 6) := pu_ld (i := 6) (by decide) (by decide)
theorem pu_S8_6 {α : Type} {σ : ob_St} {k : Nat} {x : Int32} {K : ob_St → Option α} : ob_sd σ k 8 6 x K = K (ob_up σ k 6 x) := pu_sd (i := 6) (by decide) (by decide)
theorem pu_L8_7 {α : Type} {σ : ob_St} {k : Nat} {K : Int32 → Option α} : ob_ld σ k 8 7 K = K (σ k 7) := pu_ld (i := 7) (by decide) (by decide)
theorem pu_S8_7 {α : Type} {σ : ob_St} {k : Nat} {x : Int32} {K : ob_St → Option α} : ob_sd σ k 8 7 x K = K (ob_up σ k 7 x) := pu_sd (i := 7) (by decide) (by decide)
/-! the kitchen in natural numbers: K 0 0 dishes; 1 kind 2 weight 3 heat 4 plates 5 course 6 order 7 told 8 box -/
abbrev pu_K : Type := Nat → Nat → Nat
def pu_kn (f : Nat) : Nat := if f = 7 then 5 else 6
def pu_X (b : Nat) (σ : ob_St) (K : pu_K) : Prop := σ b 0 = nI (K 0 0) ∧ ∀ f, 1 ≤ f → f ≤ 8 → ∀ j, j < pu_kn f → σ (b + f) j = nI (K f j)
def pu_ok (K : pu_K) : Prop := K 0 0 ≤ 6 ∧ (∀ j, j < 6 → K 1 j ≤ 5 ∧ K 2 j ≤ 9 ∧ K 3 j ≤ 99 ∧ K 4 j ≤ 6 ∧ K 5 j ≤ 4 ∧ K 6 j ≤ 5) ∧ (∀ j, j < K 0 0 → 1 ≤ K 4 j ∧ K 6 j < K 0 0) ∧ (∀ i j, i < K 0 0 → j < K 0 0 → K 6 i = K 6 j → i = j) ∧ (∀ j, j < 5 → K 7 j ≤ 99) ∧ (1 ≤ K 8 0 ∧ K 8 0 ≤ 11) ∧ K 8 1 ≤ 9 ∧ K 8 2 ≤ 40 ∧ (1 ≤ K 8 3 ∧ K 8 3 ≤ 20) ∧ K 8 4 ≤ 2 ∧ K 8 5 ≤ 400
def pu_M (σ : ob_St) (K : pu_K) : Prop := σ 0 0 = nI (K 0 0) ∧ (∀ f, 1 ≤ f → f ≤ 6 → ∀ j, j < 6 → σ f j = nI (K f j)) ∧ (∀ j, j < 6 → σ 7 j = nI (K 8 j)) ∧ (∀ j, j < 5 → σ 8 j = nI (K 7 j))
/-- the reference's rows of 48 -/
def pu_off (f : Nat) : Nat := match f with
  | 0 => 47
  | 7 => 42
  | 8 => 36
  | f => 6 * (f - 1)
def pu_O (c : Nat) (σ : ob_St) (K : pu_K) : Prop := σ c 47 = nI (K 0 0) ∧ ∀ f, 1 ≤ f → f ≤ 8 → ∀ j, j < pu_kn f → σ c (pu_off f + j) = nI (K f j)
/-! the evening in natural numbers -/
def pu_secs (K : pu_K) (load : Nat) : Nat := K 8 3 * max 1 (1 + ((load - K 8 2) + (K 8 2 - load)) / 4 - K 8 4)
def pu_begin (K : pu_K) (c : Nat) : Nat := 100 * c + K 7 c
def pu_cool (k n : Nat) : Nat := match k with
  | 2 => n / 10 / 2
  | 3 => 0
  | 4 => n / 10 / 2
  | 5 => n / 10 + 1
  | _ => n / 10
def pu_slop (K : pu_K) (k : Nat) : Nat := match k with
  | 1 => 4 * K 8 4
  | 4 => 4 * K 8 4 + 1
  | _ => 0
def pu_join (K : pu_K) : Nat → List Nat → Nat
  | _, [] => 0
  | p, x :: xs => if K 8 0 < p + K 4 x ∨ K 1 x = 5 then 0 else 1 + pu_join K (p + K 4 x) xs
def pu_grp (K : pu_K) (x : Nat) (xs : List Nat) : Nat := if K 1 x = 5 then 0 else pu_join K (K 4 x) xs
def pu_load (K : pu_K) (l : List Nat) : Nat := (l.map (K 2)).sum
/-- from SECOND t on, with n GOES gone: the last SECOND, the GOES, who is UP when, who goes with which -/
def pu_ev (K : pu_K) : Nat → List Nat → Nat → Nat → (Nat → Int32) → (Nat → Int32) → Nat × Nat × (Nat → Int32) × (Nat → Int32)
  | 0, _, t, n, U, G => (t, n, U, G)
  | _ + 1, [], t, n, U, G => (t, n, U, G)
  | f + 1, x :: xs, t, n, U, G =>
    pu_ev K f (xs.drop (pu_grp K x xs)) (t + pu_secs K (K 8 1 + pu_load K (x :: xs.take (pu_grp K x xs))) + pu_secs K (K 8 1)) (n + 1)
      (fun d => if d ∈ x :: xs.take (pu_grp K x xs) then nI (t + pu_secs K (K 8 1 + pu_load K (x :: xs.take (pu_grp K x xs)))) else U d)
      (fun d => if d ∈ x :: xs.take (pu_grp K x xs) then nI n else G d)
theorem pu_secs_le {K : pu_K} (hK : pu_ok K) {load : Nat} (h : load ≤ 99) : pu_secs K load ≤ 500 := by
  obtain ⟨-, -, -, -, -, -, -, h2, h3, -, -⟩ := hK
  unfold pu_secs
  have h4 : max 1 (1 + ((load - K 8 2) + (K 8 2 - load)) / 4 - K 8 4) ≤ 25 := by omega
  calc K 8 3 * _ ≤ 20 * 25 := Nat.mul_le_mul h3.2 h4
    _ = 500 := rfl
