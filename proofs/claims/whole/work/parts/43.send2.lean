/-! SEND: the best second to set out -/
noncomputable def pu_X7 (K : pu_K) (d : Nat) : Nat := pu_u K (pu_line K (K 6) 7) 7 d
def pu_cnt (K : pu_K) (c : Nat) : Nat → Nat
  | 0 => 0
  | i + 1 => pu_cnt K c i + (if K 5 i = c then 1 else 0)
noncomputable def pu_mxc (K : pu_K) (c : Nat) : Nat → Nat
  | 0 => 0
  | i + 1 => if K 5 i = c then max (pu_mxc K c i) (pu_X7 K i) else pu_mxc K c i
noncomputable def pu_cc (K : pu_K) (c : Nat) : Nat → Nat
  | 0 => 0
  | i + 1 => pu_cc K c i + (if K 5 i = c then pu_begin K c + K 8 5 - pu_X7 K i else 0)
theorem pu_cnt_s (K : pu_K) (c i : Nat) : pu_cnt K c (i + 1) = pu_cnt K c i + (if K 5 i = c then 1 else 0) := rfl
theorem pu_mxc_s (K : pu_K) (c i : Nat) : pu_mxc K c (i + 1) = if K 5 i = c then max (pu_mxc K c i) (pu_X7 K i) else pu_mxc K c i := rfl
theorem pu_cc_s (K : pu_K) (c i : Nat) : pu_cc K c (i + 1) = pu_cc K c i + (if K 5 i = c then pu_begin K c + K 8 5 - pu_X7 K i else 0) := rfl
theorem pu_mxc_0 {K : pu_K} {c : Nat} : ∀ j, pu_cnt K c j = 0 → pu_mxc K c j = 0 := by
  intro j
  induction j with
  | zero => intro _; rfl
  | succ j ihj =>
    intro h
    rw [pu_cnt_s] at h
    rw [pu_mxc_s]
    by_cases e3 : K 5 j = c
    · rw [if_pos e3] at h; omega
    · rw [if_neg e3] at h ⊢
      exact ihj (by omega)
def pu_okS (K : pu_K) (c i S : Nat) : Prop := ∀ d, d < i → K 5 d = c → pu_X7 K d + S ≤ pu_begin K c + K 8 5
theorem pu_okS_succ {K : pu_K} {c i S : Nat} : pu_okS K c (i + 1) S ↔ pu_okS K c i S ∧ (K 5 i = c → pu_X7 K i + S ≤ pu_begin K c + K 8 5) := by
  constructor
  · intro h
    exact ⟨fun d hd => h d (by omega), fun e => h i (by omega) e⟩
  · intro h d hd e
    by_cases q : d = i
    · rw [q] at e ⊢; exact h.2 e
    · exact h.1 d (by omega) e
theorem pu_okS_iff {K : pu_K} {c S : Nat} : ∀ i, pu_okS K c i S ↔ (pu_cnt K c i = 0 ∨ pu_mxc K c i + S ≤ pu_begin K c + K 8 5) := by
  intro i
  induction i with
  | zero => exact ⟨fun _ => Or.inl rfl, fun _ d hd => absurd hd (Nat.not_lt_zero _)⟩
  | succ i ih =>
    rw [pu_okS_succ, ih]
    rw [pu_cnt_s, pu_mxc_s]
    by_cases e : K 5 i = c
    · rw [if_pos e, if_pos e]
      have z := pu_mxc_0 (K := K) (c := c) i
      constructor
      · intro h
        have := h.2 e
        rcases h.1 with q | q
        · have := z q; right; omega
        · right; omega
      · intro h
        refine ⟨Or.inr (by omega), fun _ => by omega⟩
    · rw [if_neg e, if_neg e]
      constructor
      · intro h
        rcases h.1 with q | q
        · left; omega
        · right; exact q
      · intro h
        refine ⟨?_, fun q => absurd q e⟩
        rcases h with q | q
        · left; omega
        · right; exact q
theorem pu_cc_le {K : pu_K} {c S : Nat} : ∀ i, pu_okS K c i S → S * pu_cnt K c i ≤ pu_cc K c i := by
  intro i
  induction i with
  | zero => intro _; exact Nat.le_refl _
  | succ i ih =>
    intro h
    obtain ⟨h1, h2⟩ := pu_okS_succ.mp h
    have := ih h1
    rw [pu_cnt_s, pu_cc_s]
    by_cases e : K 5 i = c
    · have := h2 e
      rw [if_pos e, if_pos e, Nat.mul_add, Nat.mul_one]
      omega
    · rw [if_neg e, if_neg e]
      exact this
theorem pu_cc_up {K : pu_K} (hK : pu_ok K) {c : Nat} (hc : c < 5) : ∀ i, pu_cc K c i ≤ 1000 * i := by
  have := hK.2.2.2.2.1 c hc
  have h85 := hK.2.2.2.2.2.2.2.2.2.2
  intro i
  induction i with
  | zero => exact Nat.le_refl _
  | succ i ih =>
    rw [pu_cc_s]
    unfold pu_begin
    split <;> omega
theorem pu_standsL {σ : ob_St} {K : pu_K} {c S : Nat} (hK : pu_ok K) (ho : pu_ord K (K 6)) (hc : c < 5) (hS : S ≤ 400) (hM : pu_M σ (pu_upK K 8 5 S)) (hu : ∀ d, d < K 0 0 → σ 15 d = nI (pu_X7 (pu_upK K 8 5 S) d)) : ∀ (k i n : Nat), i + k = K 0 0 → k < n → pu_okS K c i S → ∃ r, L_X11_stands_10 n σ (nI c) (nI (pu_cc K c i - S * pu_cnt K c i)) (nI i) = some (r, σ) ∧ (pu_okS K c (K 0 0) S → r = nI (pu_cc K c (K 0 0) - S * pu_cnt K c (K 0 0))) ∧ (¬ pu_okS K c (K 0 0) S → r = -9) := by
  have hd6 := hK.1
  have hKS : pu_ok (pu_upK K 8 5 S) := pu_ok_box hK _ _ (by omega) (by omega) (by omega) (by omega) (by omega) (by omega)
  intro k
  induction k with
  | zero =>
    intro i n h1 h2 h3
    obtain ⟨n, rfl⟩ : ∃ z, n = z + 1 := ⟨n - 1, by omega⟩
    have hi : i = K 0 0 := by omega
    subst hi
    exact ⟨_, by rw [L_X11_stands_10, hM.1, show pu_upK K 8 5 S 0 0 = K 0 0 from rfl, if_pos (show nI (K 0 0) ≤ nI (K 0 0) from nI_le (Nat.le_refl _) (by omega))], fun _ => rfl, fun q => absurd h3 q⟩
  | succ k ih =>
    intro i n h1 h2 h3
    obtain ⟨n, rfl⟩ : ∃ z, n = z + 1 := ⟨n - 1, by omega⟩
    have hid : i < K 0 0 := by omega
    have hi : ¬ nI (K 0 0) ≤ nI i := nI_ge hid (by omega)
    have e5 : σ 5 i = nI (K 5 i) := hM.2.1 5 (by omega) (by omega) i (by omega)
    have k5 := (hK.2.1 i (by omega)).2.2.2.2.1
    have xs : pu_X7 (pu_upK K 8 5 S) i + K 8 5 = pu_X7 K i + S := pu_u_S hK hS ho hid
    have xb : pu_X7 (pu_upK K 8 5 S) i ≤ 6400 := pu_u_le (K := pu_upK K 8 5 S) (s := 7) hKS (show pu_ord (pu_upK K 8 5 S) (pu_upK K 8 5 S 6) from ho) hid
    have lt := pu_lateM (u := pu_X7 (pu_upK K 8 5 S)) (pu_M_M0 hM) hKS (show i < 6 by omega) xb (hu i hid)
    have sd := pu_stdM (u := pu_X7 (pu_upK K 8 5 S)) (pu_M_M0 hM) hKS (show i < 6 by omega) xb (hu i hid)
    have cl := pu_cc_le i h3
    rw [L_X11_stands_10, hM.1, show pu_upK K 8 5 S 0 0 = K 0 0 from rfl, if_neg hi, pu_ld (by omega) (by omega), e5]
    by_cases e : K 5 i = c
    · have ltv : pu_late (pu_upK K 8 5 S) (pu_X7 (pu_upK K 8 5 S)) i = pu_X7 (pu_upK K 8 5 S) i - pu_begin K c := by rw [← e]; rfl
      have sdv : pu_std (pu_upK K 8 5 S) (pu_X7 (pu_upK K 8 5 S)) i = max (pu_X7 (pu_upK K 8 5 S) i) (pu_begin K c) - pu_X7 (pu_upK K 8 5 S) i := by rw [← e]; rfl
      rw [e, if_pos rfl, pu_bd' _ lt, ltv]
      by_cases q : pu_X7 K i + S ≤ pu_begin K c + K 8 5
      · have h3' : pu_okS K c (i + 1) S := pu_okS_succ.mpr ⟨h3, fun _ => q⟩
        obtain ⟨r, r1, r2⟩ := ih (i + 1) n (by omega) (by omega) h3'
        refine ⟨r, ?_, r2⟩
        have ev : pu_cc K c i - S * pu_cnt K c i + pu_std (pu_upK K 8 5 S) (pu_X7 (pu_upK K 8 5 S)) i = pu_cc K c (i + 1) - S * pu_cnt K c (i + 1) := by
          rw [sdv]
          rw [pu_cc_s, pu_cnt_s]
          rw [if_pos e, if_pos e, Nat.mul_add, Nat.mul_one]
          omega
        rw [if_pos (show nI (pu_X7 (pu_upK K 8 5 S) i - pu_begin K c) ≤ 0 from nI_le (b := 0) (by omega) (by omega)), pu_bd' _ sd, pu_nm, nI_add, ev, nI_1]
        exact r1
      · refine ⟨-9, ?_, fun h => absurd (h i hid e) q, fun _ => rfl⟩
        rw [if_neg (show ¬ nI (pu_X7 (pu_upK K 8 5 S) i - pu_begin K c) ≤ 0 from nI_ge (a := 0) (by omega) (by omega))]
    · have h3' : pu_okS K c (i + 1) S := pu_okS_succ.mpr ⟨h3, fun q => absurd q e⟩
      obtain ⟨r, r1, r2⟩ := ih (i + 1) n (by omega) (by omega) h3'
      refine ⟨r, ?_, r2⟩
      rw [if_neg (fun q => e ((nI_eq (by omega) (by omega)).mp q)), nI_1]
      have ev : pu_cc K c i - S * pu_cnt K c i = pu_cc K c (i + 1) - S * pu_cnt K c (i + 1) := by
        rw [pu_cc_s, pu_cnt_s]
        rw [if_neg e, if_neg e, Nat.add_zero, Nat.add_zero]
      rw [ev]
      exact r1
