/-! KITCHEN: the reference's first reading -/
def pu_W (t : Nat → Nat) (L : Nat) (σ0 : ob_St) (i : Nat) (σ : ob_St) : Prop := i ≤ L ∧ σ 0 9 = nI L ∧ (∀ j, j < L → σ 9 j = nI (t j)) ∧ σ 0 11 = nI i ∧ (∀ q, q ≠ 0 → q ≠ 10 → σ q = σ0 q) ∧ ∀ j, j ≠ 11 → σ 0 j = σ0 0 j
def pu_by (q : Nat) : List Nat := match q with
  | 0 => 1 :: List.replicate 5 0
  | 1 => List.replicate 7 0
  | 2 => List.replicate 3 0
  | 3 => List.replicate 1 0
  | 4 => List.replicate 2 0
  | _ => []
theorem pu_fm_by {q : Nat} (h : q < 5) : pu_fm q = pu_by q ++ [2] := by
  obtain rfl | rfl | rfl | rfl | rfl : q = 0 ∨ q = 1 ∨ q = 2 ∨ q = 3 ∨ q = 4 := by omega
  · rfl
  · rfl
  · rfl
  · rfl
  · rfl
theorem pu_ms_app (t : Nat → Nat) (L : Nat) (b : List Nat) : ∀ (a : List Nat) (i : Nat), pu_ms t L (a ++ b) i = if pu_ms t L a i = i + a.length then pu_ms t L b (i + a.length) else pu_ms t L a i := by
  intro a
  induction a with
  | nil => intro i; exact (if_pos rfl).symm
  | cons k a ih =>
    intro i
    rw [List.cons_append, pu_ms, pu_ms, List.length_cons, ih]
    by_cases c : i < L ∧ pu_su k (t i) = true
    · rw [if_pos c, if_pos c]
      by_cases z : pu_ms t L a (i + 1) = i + 1 + a.length
      · rw [if_pos z, if_pos (by omega), show i + 1 + a.length = i + (a.length + 1) by omega]
      · rw [if_neg z, if_neg (by omega)]
    · rw [if_neg c, if_neg c, if_neg (by omega)]
theorem pu_su0 (x : Nat) : pu_su 0 x = true ↔ (48 ≤ x ∧ x ≤ 57) := decide_eq_true_iff
theorem pu_su1 (x : Nat) : pu_su 1 x = true ↔ pu_ki x ≤ 5 := decide_eq_true_iff
theorem pu_su2 (x : Nat) : pu_su 2 x = true ↔ x = 59 := decide_eq_true_iff
/-- what the reading of a statement answers: b, at the place p -/
def pu_sr (t : Nat → Nat) (L i : Nat) (b : Int32) (p : Nat) : Prop :=
  (i < L ∧ pu_fot (t i) ≠ 5 ∧ pu_ms t L (pu_by (pu_fot (t i))) (i + 1) = i + 1 + (pu_by (pu_fot (t i))).length ∧ b = 1 ∧ p = i + 1 + (pu_by (pu_fot (t i))).length) ∨
  (i < L ∧ pu_fot (t i) ≠ 5 ∧ pu_ms t L (pu_by (pu_fot (t i))) (i + 1) ≠ i + 1 + (pu_by (pu_fot (t i))).length ∧ b = -1 ∧ p = pu_ms t L (pu_by (pu_fot (t i))) (i + 1)) ∨
  (¬ (i < L ∧ pu_fot (t i) ≠ 5) ∧ b = -1 ∧ p = i)
theorem pu_sr_mk {t : Nat → Nat} {L i : Nat} (hi : i < L) (h5 : pu_fot (t i) ≠ 5) : pu_sr t L i (if pu_ms t L (pu_by (pu_fot (t i))) (i + 1) = i + 1 + (pu_by (pu_fot (t i))).length then 1 else -1) (pu_ms t L (pu_by (pu_fot (t i))) (i + 1)) := by
  by_cases z : pu_ms t L (pu_by (pu_fot (t i))) (i + 1) = i + 1 + (pu_by (pu_fot (t i))).length
  · rw [if_pos z]
    exact Or.inl ⟨hi, h5, z, rfl, z⟩
  · rw [if_neg z]
    exact Or.inr (Or.inl ⟨hi, h5, z, rfl, rfl⟩)
section PUW
variable {t : Nat → Nat} {L i : Nat} {σ0 σ : ob_St}
theorem pu_W_at {p : Nat} (h : pu_W t L σ0 i σ) (hp : p ≤ L) : pu_W t L σ0 p (ob_up σ 0 11 (nI p)) := by
  obtain ⟨h1, h2, h3, h4, h5, h6⟩ := h
  exact ⟨hp, by rw [pu_usn _ _ _ _ (by omega)]; exact h2, fun j hj => by rw [pu_un _ _ _ _ (by omega)]; exact h3 j hj, pu_uss _ _ _ _, fun q q0 q1 => by rw [pu_un _ _ _ _ q0]; exact h5 q q0 q1, fun j hj => by rw [pu_usn _ _ _ _ hj]; exact h6 j hj⟩
theorem pu_isY (hL : L ≤ 96) (h : pu_W t L σ0 i σ) {s : Nat} {y : Int32} (hy : y = nI s) (hi : i < L) (e : t i = s) : f_X11_is σ y = some (1, ob_up σ 0 11 (nI (i + 1))) := by
  obtain ⟨h1, h2, h3, h4, h5, h6⟩ := h
  unfold f_X11_is
  rw [h4, h2, if_neg (fun w => by have := (nI_eq (by omega) (by omega)).mp w; omega), pu_ld (by omega) (by omega), h3 i hi, if_pos (by rw [hy, e]), pu_pf, nI_1]
  rfl
theorem pu_isN (hL : L ≤ 96) (hb : ∀ j, t j ≤ 255) (h : pu_W t L σ0 i σ) (s : Nat) {y : Int32} (hy : y = nI s) (hs : s ≤ 255) (e : ¬ (i < L ∧ t i = s)) : f_X11_is σ y = some (0, σ) := by
  obtain ⟨h1, h2, h3, h4, h5, h6⟩ := h
  have := hb i
  unfold f_X11_is
  rw [h4, h2]
  by_cases c : i < L
  · rw [if_neg (fun w => by have := (nI_eq (by omega) (by omega)).mp w; omega), pu_ld (by omega) (by omega), h3 i c, hy, if_neg (fun w => e ⟨c, (nI_eq (by omega) (by omega)).mp w⟩)]
    rfl
  · rw [if_pos (show nI i = nI L by rw [show i = L by omega])]
    rfl
theorem pu_digL (hL : L ≤ 96) (hb : ∀ j, t j ≤ 255) {k : Nat} (hk : k ≤ 7) : ∀ (r j n : Nat) (σ : ob_St), j + r = k → r < n → pu_W t L σ0 (i + j) σ → (∀ z, z < j → σ 10 z = nI (t (i + z) - 48)) → ∃ σ', L_X11_digits_2 n σ (nI k) (nI j) = some (if pu_ms t L (List.replicate r 0) (i + j) = i + k then 1 else 0, σ') ∧ pu_W t L σ0 (pu_ms t L (List.replicate r 0) (i + j)) σ' ∧ (pu_ms t L (List.replicate r 0) (i + j) = i + k → ∀ z, z < k → σ' 10 z = nI (t (i + z) - 48)) := by
  intro r
  induction r with
  | zero =>
    intro j n σ h1 h2 h3 h4
    obtain ⟨n, rfl⟩ : ∃ z, n = z + 1 := ⟨n - 1, by omega⟩
    have e : j = k := by omega
    subst e
    refine ⟨σ, ?_, h3, fun _ => h4⟩
    rw [L_X11_digits_2, if_pos (nI_le (Nat.le_refl _) (by omega))]
    show ob_rb 1 σ = some (if i + j = i + j then 1 else 0, σ)
    rw [if_pos rfl]
    rfl
  | succ r ih =>
    intro j n σ h1 h2 h3 h4
    obtain ⟨n, rfl⟩ : ∃ z, n = z + 1 := ⟨n - 1, by omega⟩
    obtain ⟨w1, w2, w3, w4, w5, w6⟩ := id h3
    have hbj := hb (i + j)
    rw [L_X11_digits_2, if_neg (nI_ge (by omega) (by omega)), w4, w2, List.replicate_succ, pu_ms]
    by_cases c : i + j < L
    · rw [if_neg (fun w => by have := (nI_eq (by omega) (by omega)).mp w; omega), pu_ld (by omega) (by omega), w3 _ c]
      by_cases c1 : t (i + j) < 48
      · have s : ¬ (i + j < L ∧ pu_su 0 (t (i + j)) = true) := fun w => by have := (pu_su0 _).mp w.2; omega
        rw [if_pos (show nI (t (i + j)) < 48 from (nI_ltI (b := 48) (by omega) (by omega)).mpr c1), if_neg s, if_neg (by omega)]
        exact ⟨σ, rfl, h3, fun w => by omega⟩
      · rw [if_neg (show ¬ nI (t (i + j)) < 48 from fun w => c1 ((nI_ltI (b := 48) (by omega) (by omega)).mp w)), pu_ld (by omega) (by omega), w3 _ c]
        by_cases c2 : t (i + j) ≤ 57
        · have s : i + j < L ∧ pu_su 0 (t (i + j)) = true := ⟨c, (pu_su0 _).mpr (by omega)⟩
          have hW := pu_W_at h3 (p := i + j + 1) (by omega)
          obtain ⟨σ', g1, g2, g3⟩ := ih (j + 1) n (ob_up (ob_up σ 0 11 (nI (i + j + 1))) 10 j (nI (t (i + j) - 48))) (by omega) (by omega) (by
            obtain ⟨v1, v2, v3, v4, v5, v6⟩ := hW
            exact ⟨by omega, by rw [pu_un _ _ _ _ (by omega)]; exact v2, fun z hz => by rw [pu_un _ _ _ _ (by omega)]; exact v3 z hz, by rw [pu_un _ _ _ _ (by omega)]; exact v4, fun q q0 q1 => by rw [pu_un _ _ _ _ q1]; exact v5 q q0 q1, fun z hz => by rw [pu_un _ _ _ _ (by omega)]; exact v6 z hz⟩) (fun z hz => by
            by_cases q : z = j
            · rw [q, pu_uss]
            · rw [pu_usn _ _ _ _ q, pu_un _ _ _ _ (by omega)]; exact h4 z (by omega))
          rw [if_pos (show nI (t (i + j)) ≤ 57 from nI_le (b := 57) c2 (by omega)), if_pos s, pu_pf, nI_1, pu_ld (by omega) (by omega), pu_un _ _ _ _ (by omega), w3 _ c, show nI (t (i + j)) - 48 = nI (t (i + j) - 48) from pk_sub (b := 48) (by omega), pu_sd (by omega) (by omega), nI_1]
          exact ⟨σ', g1, g2, g3⟩
        · have s : ¬ (i + j < L ∧ pu_su 0 (t (i + j)) = true) := fun w => by have := (pu_su0 _).mp w.2; omega
          rw [if_neg (show ¬ nI (t (i + j)) ≤ 57 from nI_ge (a := 57) (by omega) (by omega)), if_neg s, if_neg (by omega)]
          exact ⟨σ, rfl, h3, fun w => by omega⟩
    · rw [if_pos (show nI (i + j) = nI L by rw [show i + j = L by omega]), if_neg (show ¬ (i + j < L ∧ pu_su 0 (t (i + j)) = true) from fun w => c w.1), if_neg (by omega)]
      exact ⟨σ, rfl, h3, fun w => by omega⟩
theorem pu_dig (hL : L ≤ 96) (hb : ∀ j, t j ≤ 255) {k : Nat} (hk : k ≤ 7) (h : pu_W t L σ0 i σ) : ∃ σ', f_X11_digits σ (nI k) = some (if pu_ms t L (List.replicate k 0) i = i + k then 1 else 0, σ') ∧ pu_W t L σ0 (pu_ms t L (List.replicate k 0) i) σ' ∧ (pu_ms t L (List.replicate k 0) i = i + k → ∀ z, z < k → σ' 10 z = nI (t (i + z) - 48)) :=
  pu_digL hL hb hk k 0 1000 σ (by omega) (by omega) h (fun z hz => absurd hz (Nat.not_lt_zero _))
theorem pu_st0 (hL : L ≤ 96) (hb : ∀ j, t j ≤ 255) (h : pu_W t L σ0 i σ) : ∃ b p σ', f_X11_statement σ 0 = some (b, σ') ∧ pu_W t L σ0 p σ' ∧ pu_sr t L i b p := by
  by_cases hi : i < L
  · have W1 := pu_W_at h (p := i + 1) (by omega)
    by_cases c100 : t i = 100
    · have h5 : pu_fot (t i) ≠ 5 := by rw [c100]; decide
      have mk := pu_sr_mk hi h5
      have eb : pu_by (pu_fot (t i)) = 1 :: List.replicate 5 0 := by rw [c100]; rfl
      rw [eb, List.length_cons, List.length_replicate, pu_ms] at mk
      have st : f_X11_statement σ 0 = if (ob_up σ 0 11 (nI (i + 1)) 0 9) ≤ (ob_up σ 0 11 (nI (i + 1)) 0 11) then J_X11_statement_49 (ob_up σ 0 11 (nI (i + 1))) 0 else ob_ld (ob_up σ 0 11 (nI (i + 1))) 9 96 (ob_up σ 0 11 (nI (i + 1)) 0 11) fun v_93 => if v_93 ≤ 0 then J_X11_statement_49 (ob_up σ 0 11 (nI (i + 1))) 0 else ob_ld (ob_up σ 0 11 (nI (i + 1))) 9 96 (ob_up σ 0 11 (nI (i + 1)) 0 11) fun v_94 => ob_bd (ob_tg 6 (f_J0_indexOf_0f7a4 6 (ob_up σ 0 11 (nI (i + 1))) v_94)) fun r95 σ96 => J_X11_statement_50 σ96 0 r95 := by
        unfold f_X11_statement
        rw [pu_bd' _ (pu_isY hL h (s := 100) (y := 100) rfl hi c100), if_neg (by decide)]
      have jn : J_X11_statement_50 (ob_up σ 0 11 (nI (i + 1))) 0 (-1) = some (-1, ob_up σ 0 11 (nI (i + 1))) := by
        unfold J_X11_statement_50
        rw [if_neg (by decide)]
      have fail : ¬ (i + 1 < L ∧ pu_su 1 (t (i + 1)) = true) → f_X11_statement σ 0 = some (-1, ob_up σ 0 11 (nI (i + 1))) → ∃ b p σ', f_X11_statement σ 0 = some (b, σ') ∧ pu_W t L σ0 p σ' ∧ pu_sr t L i b p := by
        intro n e
        rw [if_neg n, if_neg (by omega)] at mk
        exact ⟨_, _, _, e, W1, mk⟩
      obtain ⟨w1, w2, w3, w4, w5, w6⟩ := id W1
      rw [w2, w4] at st
      by_cases c : i + 1 < L
      · have hbj := hb (i + 1)
        rw [if_neg (nI_ge c (by omega)), pu_ld (by omega) (by omega), w3 _ c, pu_ld (by omega) (by omega), w3 _ c, pu_bd' _ (pu_idxS hbj _)] at st
        by_cases z0 : t (i + 1) = 0
        · rw [if_pos (show nI (t (i + 1)) ≤ 0 by rw [z0]; decide)] at st
          exact fail (fun w => by have := (pu_su1 _).mp w.2; rw [z0] at this; exact absurd this (by decide)) (st.trans jn)
        · rw [if_neg (show ¬ nI (t (i + 1)) ≤ 0 from nI_nle (by omega) (by omega))] at st
          by_cases ks : pu_ki (t (i + 1)) ≤ 5
          · rw [pu_kv_in ks] at st
            rw [if_pos (show i + 1 < L ∧ pu_su 1 (t (i + 1)) = true from ⟨c, (pu_su1 _).mpr ks⟩)] at mk
            obtain ⟨σ', d1, d2, d3⟩ := pu_dig hL hb (k := 5) (by omega) (pu_W_at W1 (p := i + 1 + 1) (by omega))
            have d1' : f_X11_digits (ob_up (ob_up σ 0 11 (nI (i + 1))) 0 11 (nI (i + 1 + 1))) 5 = _ := d1
            refine ⟨_, _, σ', ?_, d2, mk⟩
            rw [st]
            unfold J_X11_statement_50
            rw [if_pos (nI_pos' (by omega)), pu_pf, w4, nI_1, pu_bd' _ d1']
            by_cases z : pu_ms t L (List.replicate 5 0) (i + 1 + 1) = i + 1 + 1 + 5
            · rw [if_pos z, if_neg (by decide), if_pos rfl, if_pos (by omega)]
            · rw [if_neg z, if_pos rfl, if_neg (by omega)]
          · rw [pu_kv_out ks] at st
            exact fail (fun w => ks ((pu_su1 _).mp w.2)) (st.trans jn)
      · rw [if_pos (nI_le (by omega) (by omega))] at st
        exact fail (fun w => c w.1) (st.trans jn)
    by_cases c98 : t i = 98
    · have h5 : pu_fot (t i) ≠ 5 := by rw [c98]; decide
      have mk := pu_sr_mk hi h5
      have eb : pu_by (pu_fot (t i)) = List.replicate 7 0 := by rw [c98]; rfl
      rw [eb, List.length_replicate] at mk
      obtain ⟨σ', d1, d2, d3⟩ := pu_dig hL hb (k := 7) (by omega) W1
      have d1' : f_X11_digits (ob_up σ 0 11 (nI (i + 1))) 7 = _ := d1
      refine ⟨_, _, σ', ?_, d2, mk⟩
      unfold f_X11_statement
      rw [pu_bd' _ (pu_isN hL hb h 100 (y := 100) rfl (by omega) (fun w => c100 w.2)), if_pos rfl, pu_bd' _ (pu_isY hL h (s := 98) (y := 98) rfl hi c98), if_neg (by decide), pu_bd' _ d1']
      by_cases z : pu_ms t L (List.replicate 7 0) (i + 1) = i + 1 + 7
      · rw [if_pos z, if_neg (by decide), if_pos rfl, if_pos z]
      · rw [if_neg z, if_pos rfl, if_neg z]
    by_cases c99 : t i = 99
    · have h5 : pu_fot (t i) ≠ 5 := by rw [c99]; decide
      have mk := pu_sr_mk hi h5
      have eb : pu_by (pu_fot (t i)) = List.replicate 3 0 := by rw [c99]; rfl
      rw [eb, List.length_replicate] at mk
      obtain ⟨σ', d1, d2, d3⟩ := pu_dig hL hb (k := 3) (by omega) W1
      have d1' : f_X11_digits (ob_up σ 0 11 (nI (i + 1))) 3 = _ := d1
      refine ⟨_, _, σ', ?_, d2, mk⟩
      unfold f_X11_statement
      rw [pu_bd' _ (pu_isN hL hb h 100 (y := 100) rfl (by omega) (fun w => c100 w.2)), if_pos rfl, pu_bd' _ (pu_isN hL hb h 98 (y := 98) rfl (by omega) (fun w => c98 w.2)), if_pos rfl, pu_bd' _ (pu_isY hL h (s := 99) (y := 99) rfl hi c99), if_neg (by decide), pu_bd' _ d1']
      by_cases z : pu_ms t L (List.replicate 3 0) (i + 1) = i + 1 + 3
      · rw [if_pos z, if_neg (by decide), if_pos rfl, if_pos z]
      · rw [if_neg z, if_pos rfl, if_neg z]
    by_cases c104 : t i = 104
    · have h5 : pu_fot (t i) ≠ 5 := by rw [c104]; decide
      have mk := pu_sr_mk hi h5
      have eb : pu_by (pu_fot (t i)) = List.replicate 1 0 := by rw [c104]; rfl
      rw [eb, List.length_replicate] at mk
      obtain ⟨σ', d1, d2, d3⟩ := pu_dig hL hb (k := 1) (by omega) W1
      have d1' : f_X11_digits (ob_up σ 0 11 (nI (i + 1))) 1 = _ := d1
      refine ⟨_, _, σ', ?_, d2, mk⟩
      unfold f_X11_statement
      rw [pu_bd' _ (pu_isN hL hb h 100 (y := 100) rfl (by omega) (fun w => c100 w.2)), if_pos rfl, pu_bd' _ (pu_isN hL hb h 98 (y := 98) rfl (by omega) (fun w => c98 w.2)), if_pos rfl, pu_bd' _ (pu_isN hL hb h 99 (y := 99) rfl (by omega) (fun w => c99 w.2)), if_pos rfl, pu_bd' _ (pu_isY hL h (s := 104) (y := 104) rfl hi c104), if_neg (by decide), pu_bd' _ d1']
      by_cases z : pu_ms t L (List.replicate 1 0) (i + 1) = i + 1 + 1
      · rw [if_pos z, if_neg (by decide), if_pos rfl, if_pos z]
      · rw [if_neg z, if_pos rfl, if_neg z]
    by_cases c111 : t i = 111
    · have h5 : pu_fot (t i) ≠ 5 := by rw [c111]; decide
      have mk := pu_sr_mk hi h5
      have eb : pu_by (pu_fot (t i)) = List.replicate 3 0 := by rw [c111]; rfl
      rw [eb, List.length_replicate] at mk
      obtain ⟨σ', d1, d2, d3⟩ := pu_dig hL hb (k := 3) (by omega) W1
      have d1' : f_X11_digits (ob_up σ 0 11 (nI (i + 1))) 3 = _ := d1
      refine ⟨_, _, σ', ?_, d2, mk⟩
      unfold f_X11_statement
      rw [pu_bd' _ (pu_isN hL hb h 100 (y := 100) rfl (by omega) (fun w => c100 w.2)), if_pos rfl, pu_bd' _ (pu_isN hL hb h 98 (y := 98) rfl (by omega) (fun w => c98 w.2)), if_pos rfl, pu_bd' _ (pu_isN hL hb h 99 (y := 99) rfl (by omega) (fun w => c99 w.2)), if_pos rfl, pu_bd' _ (pu_isN hL hb h 104 (y := 104) rfl (by omega) (fun w => c104 w.2)), if_pos rfl, pu_bd' _ (pu_isY hL h (s := 111) (y := 111) rfl hi c111), if_neg (by decide), pu_bd' _ d1']
      by_cases z : pu_ms t L (List.replicate 3 0) (i + 1) = i + 1 + 3
      · rw [if_pos z, if_neg (by decide), if_pos rfl, if_pos z]
      · rw [if_neg z, if_pos rfl, if_neg z]
    by_cases c120 : t i = 120
    · have h5 : pu_fot (t i) ≠ 5 := by rw [c120]; decide
      have mk := pu_sr_mk hi h5
      have eb : pu_by (pu_fot (t i)) = List.replicate 2 0 := by rw [c120]; rfl
      rw [eb, List.length_replicate] at mk
      obtain ⟨σ', d1, d2, d3⟩ := pu_dig hL hb (k := 2) (by omega) W1
      have d1' : f_X11_digits (ob_up σ 0 11 (nI (i + 1))) 2 = _ := d1
      refine ⟨_, _, σ', ?_, d2, mk⟩
      unfold f_X11_statement
      rw [pu_bd' _ (pu_isN hL hb h 100 (y := 100) rfl (by omega) (fun w => c100 w.2)), if_pos rfl, pu_bd' _ (pu_isN hL hb h 98 (y := 98) rfl (by omega) (fun w => c98 w.2)), if_pos rfl, pu_bd' _ (pu_isN hL hb h 99 (y := 99) rfl (by omega) (fun w => c99 w.2)), if_pos rfl, pu_bd' _ (pu_isN hL hb h 104 (y := 104) rfl (by omega) (fun w => c104 w.2)), if_pos rfl, pu_bd' _ (pu_isN hL hb h 111 (y := 111) rfl (by omega) (fun w => c111 w.2)), if_pos rfl, pu_bd' _ (pu_isY hL h (s := 120) (y := 120) rfl hi c120), if_neg (by decide), pu_bd' _ d1']
      by_cases z : pu_ms t L (List.replicate 2 0) (i + 1) = i + 1 + 2
      · rw [if_pos z, if_neg (by decide), if_pos rfl, if_pos z]
      · rw [if_neg z, if_pos rfl, if_neg z]
    refine ⟨-1, i, σ, ?_, h, Or.inr (Or.inr ⟨fun w => w.2 ?_, rfl, rfl⟩)⟩
    · unfold f_X11_statement
      rw [pu_bd' _ (pu_isN hL hb h 100 (y := 100) rfl (by omega) (fun w => c100 w.2)), if_pos rfl, pu_bd' _ (pu_isN hL hb h 98 (y := 98) rfl (by omega) (fun w => c98 w.2)), if_pos rfl, pu_bd' _ (pu_isN hL hb h 99 (y := 99) rfl (by omega) (fun w => c99 w.2)), if_pos rfl, pu_bd' _ (pu_isN hL hb h 104 (y := 104) rfl (by omega) (fun w => c104 w.2)), if_pos rfl, pu_bd' _ (pu_isN hL hb h 111 (y := 111) rfl (by omega) (fun w => c111 w.2)), if_pos rfl, pu_bd' _ (pu_isN hL hb h 120 (y := 120) rfl (by omega) (fun w => c120 w.2)), if_pos rfl]
    · unfold pu_fot
      rw [if_neg c98, if_neg c99, if_neg c100, if_neg c104, if_neg c111, if_neg c120]
  · refine ⟨-1, i, σ, ?_, h, Or.inr (Or.inr ⟨fun w => hi w.1, rfl, rfl⟩)⟩
    unfold f_X11_statement
    rw [pu_bd' _ (pu_isN hL hb h 100 (y := 100) rfl (by omega) (fun w => hi w.1)), if_pos rfl, pu_bd' _ (pu_isN hL hb h 98 (y := 98) rfl (by omega) (fun w => hi w.1)), if_pos rfl, pu_bd' _ (pu_isN hL hb h 99 (y := 99) rfl (by omega) (fun w => hi w.1)), if_pos rfl, pu_bd' _ (pu_isN hL hb h 104 (y := 104) rfl (by omega) (fun w => hi w.1)), if_pos rfl, pu_bd' _ (pu_isN hL hb h 111 (y := 111) rfl (by omega) (fun w => hi w.1)), if_pos rfl, pu_bd' _ (pu_isN hL hb h 120 (y := 120) rfl (by omega) (fun w => hi w.1)), if_pos rfl]
theorem pu_is59 (hL : L ≤ 96) (hb : ∀ j, t j ≤ 255) (h : pu_W t L σ0 i σ) : ∃ σ', f_X11_is σ 59 = some (if i < L ∧ pu_su 2 (t i) = true then 1 else 0, σ') ∧ pu_W t L σ0 (pu_ms t L [2] i) σ' := by
  by_cases c : i < L ∧ t i = 59
  · have s : i < L ∧ pu_su 2 (t i) = true := ⟨c.1, (pu_su2 _).mpr c.2⟩
    refine ⟨_, by rw [pu_isY hL h (s := 59) (y := 59) rfl c.1 c.2, if_pos s], ?_⟩
    rw [pu_ms, if_pos s]
    exact pu_W_at h (p := i + 1) (by omega)
  · have s : ¬ (i < L ∧ pu_su 2 (t i) = true) := fun w => c ⟨w.1, (pu_su2 _).mp w.2⟩
    refine ⟨_, by rw [pu_isN hL hb h 59 (y := 59) rfl (by omega) c, if_neg s], ?_⟩
    rw [pu_ms, if_neg s]
    exact h
/-- the reference's way on behind its first reading -/
noncomputable def pu_J53 (σ : ob_St) (v1 : Int32) : Option (Int32 × ob_St) :=
  if v1 = 0 then
    ob_pf σ 0 9 0 fun σ14 =>
    some (((-1000) - (σ14 0 11)), σ14)
  else
    ob_bd (f_X11_keep 14 σ) fun _ σ3 =>
    ob_pf σ3 0 11 0 fun σ4 =>
    L_X11_kitchen_86 1000 σ4 0
theorem pu_kitL (hL : L ≤ 96) (hb : ∀ j, t j ≤ 255) : ∀ (f i n : Nat) (σ : ob_St), L ≤ i + f → L + 1 ≤ i + n → (i < L ∨ L = 0) → pu_W t L σ0 i σ → ∃ σ', (L = 0 → L_X11_kitchen_7 (n + 1) σ 1 = pu_J53 σ' 0 ∧ pu_W t L σ0 0 σ') ∧ (0 < L → ∀ p, pu_p1 t L f i = some p → L_X11_kitchen_7 (n + 1) σ 1 = pu_J53 σ' 0 ∧ pu_W t L σ0 p σ') ∧ (0 < L → pu_p1 t L f i = none → L_X11_kitchen_7 (n + 1) σ 1 = pu_J53 σ' 1 ∧ pu_W t L σ0 L σ') := by
  have stop : ∀ (n : Nat) (σ : ob_St), L_X11_kitchen_7 (n + 1) σ 0 = pu_J53 σ 0 := by
    intro n σ
    rw [L_X11_kitchen_7, if_pos rfl]
    rfl
  have stop33 : ∀ (n : Nat) (σ : ob_St), J_X11_kitchen_33_7 (fun σ v1 => L_X11_kitchen_7 (n + 1) σ v1) σ = pu_J53 σ 0 := by
    intro n σ
    unfold J_X11_kitchen_33_7 J_X11_kitchen_34_7
    rw [if_pos rfl]
    exact stop n σ
  intro f
  induction f with
  | zero =>
    intro i n σ h1 h2 h3 h4
    have hi := h4.1
    obtain ⟨n, rfl⟩ : ∃ z, n = z + 1 := ⟨n - 1, by omega⟩
    have l0 : L = 0 := by omega
    obtain ⟨b, p, σ1, s1, s2, s3⟩ := pu_st0 hL hb h4
    rcases s3 with s | s | s
    · omega
    · omega
    · refine ⟨σ1, fun _ => ⟨?_, by rw [show (0 : Nat) = p by omega]; exact s2⟩, fun w => by omega, fun w => by omega⟩
      rw [L_X11_kitchen_7, if_neg (by decide), pu_bd' _ s1, s.2.1, if_neg (by decide)]
      exact stop33 n σ1
  | succ f ih =>
    intro i n σ h1 h2 h3 h4
    obtain ⟨n, rfl⟩ : ∃ z, n = z + 1 := ⟨n - 1, by have := h4.1; omega⟩
    have hi := h4.1
    obtain ⟨b, p, σ1, s1, s2, s3⟩ := pu_st0 hL hb h4
    rw [L_X11_kitchen_7, if_neg (by decide), pu_bd' _ s1]
    have bad : ∀ (x : Nat), b = -1 → pu_p1 t L (f + 1) i = some x → p = x → ∃ σ', (L = 0 → (if b = 1 then ob_bd (f_X11_is σ1 59) fun r17 σ18 => if r17 = 0 then J_X11_kitchen_33_7 (fun σ v1 => L_X11_kitchen_7 (n + 1) σ v1) σ18 else J_X11_kitchen_34_7 (fun σ v1 => L_X11_kitchen_7 (n + 1) σ v1) σ18 1 else J_X11_kitchen_33_7 (fun σ v1 => L_X11_kitchen_7 (n + 1) σ v1) σ1) = pu_J53 σ' 0 ∧ pu_W t L σ0 0 σ') ∧ (0 < L → ∀ p, pu_p1 t L (f + 1) i = some p → (if b = 1 then ob_bd (f_X11_is σ1 59) fun r17 σ18 => if r17 = 0 then J_X11_kitchen_33_7 (fun σ v1 => L_X11_kitchen_7 (n + 1) σ v1) σ18 else J_X11_kitchen_34_7 (fun σ v1 => L_X11_kitchen_7 (n + 1) σ v1) σ18 1 else J_X11_kitchen_33_7 (fun σ v1 => L_X11_kitchen_7 (n + 1) σ v1) σ1) = pu_J53 σ' 0 ∧ pu_W t L σ0 p σ') ∧ (0 < L → pu_p1 t L (f + 1) i = none → (if b = 1 then ob_bd (f_X11_is σ1 59) fun r17 σ18 => if r17 = 0 then J_X11_kitchen_33_7 (fun σ v1 => L_X11_kitchen_7 (n + 1) σ v1) σ18 else J_X11_kitchen_34_7 (fun σ v1 => L_X11_kitchen_7 (n + 1) σ v1) σ18 1 else J_X11_kitchen_33_7 (fun σ v1 => L_X11_kitchen_7 (n + 1) σ v1) σ1) = pu_J53 σ' 1 ∧ pu_W t L σ0 L σ') := by
      intro x hb1 hx hpx
      refine ⟨σ1, fun w => ?_, fun _ y hy => ?_, fun _ hy => ?_⟩
      · have e : p = 0 := by have := s2.1; omega
        rw [hb1, if_neg (by decide)]
        exact ⟨stop33 n σ1, by rw [← e]; exact s2⟩
      · rw [hx] at hy
        obtain rfl : x = y := Option.some.inj hy
        rw [hb1, if_neg (by decide)]
        exact ⟨stop33 n σ1, by rw [← hpx]; exact s2⟩
      · rw [hx] at hy
        cases hy
    rcases s3 with s | s | s
    · obtain ⟨a1, a2, a3, a4, a5⟩ := s
      have q5 : pu_fot (t i) < 5 := by have := pu_fot_lt (t i); omega
      have fb := pu_fm_by q5
      have fl : (pu_fm (pu_fot (t i))).length = (pu_by (pu_fot (t i))).length + 1 := by rw [fb, List.length_append]; rfl
      have ma : pu_ms t L (pu_fm (pu_fot (t i))) (i + 1) = pu_ms t L [2] p := by rw [fb, pu_ms_app, if_pos a3, a5]
      obtain ⟨σ2, u1, u2⟩ := pu_is59 hL hb s2
      have mu : pu_ms t L [2] p = if p < L ∧ pu_su 2 (t p) = true then p + 1 else p := rfl
      rw [a4, if_pos rfl, pu_bd' _ u1]
      by_cases c : p < L ∧ pu_su 2 (t p) = true
      · rw [if_pos c] at mu
        rw [mu] at u2
        rw [if_pos c, if_neg (by decide)]
        unfold J_X11_kitchen_34_7
        rw [if_neg (by decide), u2.2.2.2.1, u2.2.1]
        have e1 : pu_p1 t L (f + 1) i = pu_p1 t L f (p + 1) := by
          rw [pu_p1, if_neg (by omega), if_neg a2, ma, mu, if_pos (by omega), fl, show i + 1 + ((pu_by (pu_fot (t i))).length + 1) = p + 1 by omega]
        rw [e1]
        by_cases e : p + 1 = L
        · rw [if_pos (show nI (p + 1) = nI L by rw [e])]
          have e2 : pu_p1 t L f (p + 1) = none := by
            cases f with
            | zero => rfl
            | succ f => rw [pu_p1, if_pos (by omega)]
          rw [e2]
          exact ⟨σ2, fun w => by omega, fun _ y hy => (by cases hy), fun _ _ => ⟨rfl, by have z := u2; rw [e] at z; exact z⟩⟩
        · rw [if_neg (fun w => e ((nI_eq (by have := u2.1; omega) (by omega)).mp w))]
          exact ih (p + 1) n σ2 (by omega) (by omega) (Or.inl (by have := u2.1; omega)) u2
      · rw [if_neg c] at mu
        rw [mu] at u2
        rw [if_neg c, if_pos rfl]
        have e1 : pu_p1 t L (f + 1) i = some p := by
          rw [pu_p1, if_neg (by omega), if_neg a2, ma, mu, if_neg (by omega)]
        refine ⟨σ2, fun w => by omega, fun _ y hy => ?_, fun _ hy => by rw [e1] at hy; cases hy⟩
        rw [e1] at hy
        obtain rfl : p = y := Option.some.inj hy
        exact ⟨stop33 n σ2, u2⟩
    · obtain ⟨a1, a2, a3, a4, a5⟩ := s
      have q5 : pu_fot (t i) < 5 := by have := pu_fot_lt (t i); omega
      have fb := pu_fm_by q5
      have ma : pu_ms t L (pu_fm (pu_fot (t i))) (i + 1) = pu_ms t L (pu_by (pu_fot (t i))) (i + 1) := by rw [fb, pu_ms_app, if_neg a3]
      have up := pu_ms_up t L (pu_by (pu_fot (t i))) (i + 1)
      refine bad p a4 ?_ rfl
      rw [pu_p1, if_neg (by omega), if_neg a2, ma, if_neg, a5]
      rw [fb, List.length_append, List.length_singleton]
      omega
    · by_cases l0 : L = 0
      · refine ⟨σ1, fun w => ?_, fun w => by omega, fun w => by omega⟩
        rw [s.2.1, if_neg (by decide)]
        exact ⟨stop33 n σ1, by rw [show (0 : Nat) = p by omega]; exact s2⟩
      · refine bad i s.2.1 ?_ s.2.2
        rw [pu_p1, if_neg (by omega), if_pos]
        exact Classical.byContradiction (fun w => s.1 ⟨by omega, w⟩)
end PUW
