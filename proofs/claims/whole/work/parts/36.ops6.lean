/-! WORTH: now, with another box, halved -/
noncomputable def pu_ww (K : pu_K) (w : Nat) : Int32 := pu_tot K (pu_line K (K 6) 7) (pu_u K (pu_line K (K 6) 7) 7) w
theorem pu_runM {σ : ob_St} {K : pu_K} (hK : pu_ok K) (ho : pu_ord K (K 6)) (hM : pu_M σ K) : ∃ τ, f_X11_run σ (-9) = some ((), τ) ∧ pu_M τ K ∧ pu_EvM K (K 6) 7 τ ∧ (∀ q, q ≠ 0 → q ≠ 15 → q ≠ 16 → τ q = σ q) ∧ ∀ j, j ≠ 21 → j ≠ 22 → τ 0 j = σ 0 j := by
  have hd6 := hK.1
  obtain ⟨τ, t1, t2, t3, t4⟩ := pu_run (st := -9) hK (pu_M_M0 hM) ho (fun j hj => hM.2.1 6 (by omega) (by omega) j (by omega)) (pu_sM7 K)
  exact ⟨τ, t1, pu_M_keep hM (t3 0 (by decide) (by decide)) (fun q h1 h2 => t2 q (by omega) (by omega) (by omega)), t4, t2, t3⟩
theorem pu_runW {σ : ob_St} {K : pu_K} {w : Nat} (hw : w ≤ 7) (hK : pu_ok K) (ho : pu_ord K (K 6)) (hM : pu_M σ K) : ∃ τ, f_X11_run σ (-9) = some ((), τ) ∧ f_X11_totalOf τ (nI w) = some (pu_ww K w, τ) ∧ pu_M τ K ∧ (∀ q, q ≠ 0 → q ≠ 15 → q ≠ 16 → τ q = σ q) ∧ ∀ j, j ≠ 21 → j ≠ 22 → τ 0 j = σ 0 j := by
  obtain ⟨τ, t1, t2, t3, t4, t5⟩ := pu_runM hK ho hM
  exact ⟨τ, t1, pu_totM (pu_M_M0 t2) hK ho t3 hw, t2, t4, t5⟩
theorem pu_worM {σ : ob_St} {K : pu_K} (hK : pu_ok K) (ho : pu_ord K (K 6)) (hM : pu_M σ K) : ∃ τ, f_X11_worth σ = some (pu_ww K 7, τ) ∧ pu_M τ K ∧ (∀ q, q ≠ 0 → q ≠ 15 → q ≠ 16 → τ q = σ q) ∧ ∀ j, j ≠ 21 → j ≠ 22 → τ 0 j = σ 0 j := by
  obtain ⟨τ, t1, t2, t3, t4, t5⟩ := pu_runW (w := 7) (by omega) hK ho hM
  have t2' : f_X11_totalOf τ 7 = some (pu_ww K 7, τ) := t2
  exact ⟨τ, by unfold f_X11_worth; rw [pu_bd' _ t1, pu_bd' _ t2'], t3, t4, t5⟩
theorem pu_worX {σ : ob_St} {K Ko : pu_K} {h : Nat} {T R : List Nat} {ρ : Nat → Int32} (hK : pu_ok K) (ho : pu_ord K (K 6)) (hX : pu_RX σ K Ko h T R ρ) : ∃ τ, f_X10_worthNow σ = some (pu_ww K 7, τ) ∧ pu_RX τ K Ko h T R ρ := by
  obtain ⟨τ, t1, t2, t3⟩ := pu_lookX hK ho hX
  exact ⟨τ, by unfold f_X10_worthNow; rw [pu_bd' _ t1, show (7 : Int32) = nI 7 from rfl, pu_ld (by omega) (by omega), pu_totX hK.1 t3 (by omega)]; rfl, t2⟩
/-- the class looks at the evening of another kitchen -/
theorem pu_trialX {σ : ob_St} {K K' Ko : pu_K} {h : Nat} {T R : List Nat} {ρ : Nat → Int32} (hK : pu_ok K') (ho : pu_ord K' (K' 6)) (hX : pu_RX σ K Ko h T R ρ) (hX' : pu_X 10 σ K') : ∃ τ, f_X1_pass 10 16 σ (-1) = some ((), τ) ∧ pu_RX τ K Ko h T R ρ ∧ pu_X 10 τ K' ∧ (∀ w, w ≤ 7 → τ 46 w = pu_ww K' w) ∧ (∀ q, q ≠ 30 → (q < 38 ∨ 46 < q) → τ q = σ q) := by
  have hd6 := hK.1
  obtain ⟨τ, t1, t2, t3, t4⟩ := pu_pass (b := 10) (a := 16) (st := -1) (Or.inr (Or.inl rfl)) hK ⟨by decide, by decide⟩ hX' ho (fun j hj => pu_Xf hX' 6 j (by omega) (by omega) (show j < 6 by omega)) (pu_st7 K')
  refine ⟨τ, t1, pu_RX_keep hX (fun q hq => ?_), pu_X_keep hX' (fun f hf => t2 _ (by omega) (by omega)), fun w hw => pu_totX hd6 t4 hw, t2⟩
  unfold pu_vX at hq
  exact t2 q (by omega) (by omega)
theorem pu_withX {σ : ob_St} {K Ko : pu_K} {h : Nat} {T R : List Nat} {ρ : Nat → Int32} {n v : Nat} (hn : n < 6) (hK : pu_ok (pu_upK K 8 n v)) (ho : pu_ord K (K 6)) (hX : pu_RX σ K Ko h T R ρ) : ∃ τ, f_X10_worthWith σ (nI n) (nI v) = some (pu_ww (pu_upK K 8 n v) 7, τ) ∧ pu_RX τ K Ko h T R ρ := by
  obtain ⟨σ1, t1, t2, t3⟩ := pu_takeX (b := 10) (b2 := 1) (Or.inl (by omega)) hX.1
  have hX1 : pu_RX (ob_up σ1 18 n (nI v)) K Ko h T R ρ := pu_RX_keep hX (fun q hq => by
    unfold pu_vX at hq
    rw [pu_un _ _ _ _ (by omega), t3 q (by omega)])
  obtain ⟨τ, s1, s2, s3, s4, s5⟩ := pu_trialX (K' := pu_upK K 8 n v) hK ho hX1 (pu_X_up (b := 10) (f := 8) t2 (by omega))
  refine ⟨τ, ?_, s2⟩
  unfold f_X10_worthWith
  rw [pu_bd' _ t1, pu_sd hn (by omega), pu_bd' _ s1, show (7 : Int32) = nI 7 from rfl, pu_ld (by omega) (by omega), s4 7 (by omega)]
theorem pu_M_eq {σ : ob_St} {K K' : pu_K} (h : pu_M σ K) (e : ∀ f j, K f j = K' f j) : pu_M σ K' := by
  have : K = K' := funext fun f => funext fun j => e f j
  rw [← this]; exact h
/-- the reference's gain of another box -/
theorem pu_moreM {σ : ob_St} {K Ko : pu_K} {h : Nat} {T R : List Nat} {ρ : Nat → Int32} {n v : Nat} (hn : n < 6) (hK0 : pu_ok K) (hK : pu_ok (pu_upK K 8 n v)) (ho : pu_ord K (K 6)) (hM : pu_RM σ K Ko h T R ρ) : ∃ τ, f_X11_more σ (nI n) (nI v) = some (pu_ww (pu_upK K 8 n v) 7 - pu_ww K 7, τ) ∧ pu_RM τ K Ko h T R ρ := by
  obtain ⟨σ1, a1, a2, a3, a4⟩ := pu_worM hK0 ho hM.1
  obtain ⟨σ2, b1, b2, b3, b4⟩ := pu_worM (K := pu_upK K 8 n v) (σ := ob_up σ1 7 n (nI v)) hK ho (pu_M_upB a2)
  have hM2 : pu_M (ob_up σ2 7 n (nI (K 8 n))) K := pu_M_eq (pu_M_upB (v := K 8 n) b2) (fun f j => by
    unfold pu_upK
    by_cases c : f = 8 ∧ j = n
    · rw [if_pos c, c.1, c.2]
    · rw [if_neg c, if_neg c])
  refine ⟨ob_up σ2 7 n (nI (K 8 n)), ?_, ?_⟩
  · unfold f_X11_more
    rw [pu_bd' _ a1, pu_ld hn (by omega), a2.2.2.1 n hn, pu_sd hn (by omega), pu_bd' _ b1, pu_sd hn (by omega)]
  · have n0 : ∀ j, j ≠ 21 → j ≠ 22 → ob_up σ2 7 n (nI (K 8 n)) 0 j = σ 0 j := fun j h1 h2 => by rw [pu_un _ _ _ _ (by decide), b4 j h1 h2, pu_un _ _ _ _ (by decide), a4 j h1 h2]
    have nq : ∀ q, q ≠ 0 → q ≠ 7 → q ≠ 15 → q ≠ 16 → ob_up σ2 7 n (nI (K 8 n)) q = σ q := fun q h1 h2 h3 h4 => by rw [pu_un _ _ _ _ h2, b3 q h1 h3 h4, pu_un _ _ _ _ h2, a3 q h1 h3 h4]
    obtain ⟨z1, z2, z3, z4, z5, z6, z7, z8⟩ := hM
    exact ⟨hM2, by rw [n0 16 (by decide) (by decide)]; exact z2, fun e => pu_O_keep (z3 e) (nq 13 (by decide) (by decide) (by decide) (by decide)), by rw [n0 9 (by decide) (by decide)]; exact z4, by rw [nq 9 (by decide) (by decide) (by decide) (by decide)]; exact z5, by rw [n0 13 (by decide) (by decide)]; exact z6, by rw [nq 11 (by decide) (by decide) (by decide) (by decide)]; exact z7, fun j hj => by rw [nq 12 (by decide) (by decide) (by decide) (by decide)]; exact z8 j hj⟩
theorem pu_op_twoPull {σx σm : ob_St} (h : ob_RR σx σm) : ob_ok2 ob_RR (f_X10_twoPull σx) (f_X11_twoPull σm) := by
  obtain ⟨K, Ko, hh, T, R, ρ, hC, hX, hM⟩ := id h
  have hK := hC.1
  have k3 := hK.2.2.2.2.2.2.2.2.1
  have hK' : pu_ok (pu_upK K 8 3 ((K 8 3 + 1) / 2)) := pu_ok_box hK _ _ (by omega) (by omega) (by omega) (by omega) (by omega) (by omega)
  have e : (nI (K 8 3) + 1) / 2 = nI ((K 8 3 + 1) / 2) := by rw [nI_1]; exact pk_div (d := 2) (by omega) (by omega) (by omega)
  obtain ⟨σ1, a1, a2⟩ := pu_withX (n := 3) (by omega) hK' hC.2.1 hX
  obtain ⟨σ2, b1, b2⟩ := pu_worX hC.1 hC.2.1 a2
  obtain ⟨σ3, c1, c2⟩ := pu_moreM (n := 3) (by omega) hK hK' hC.2.1 hM
  refine ⟨pu_ww (pu_upK K 8 3 ((K 8 3 + 1) / 2)) 7 - pu_ww K 7, σ2, σ3, ?_, ?_, K, Ko, hh, T, R, ρ, hC, b2, c2⟩
  · unfold f_X10_twoPull
    rw [pu_L6_3, pu_Xf hX.1 8 3 (by omega) (by omega) (by decide), e, show (3 : Int32) = nI 3 from rfl, pu_bd' _ a1, pu_bd' _ b1]
  · unfold f_X11_twoPull
    rw [pu_L6_3, hM.1.2.2.1 3 (by omega), e, show (3 : Int32) = nI 3 from rfl, pu_bd' _ c1]
theorem pu_op_roomMore {σx σm : ob_St} (h : ob_RR σx σm) : ob_ok2 ob_RR (f_X10_roomMore σx) (f_X11_roomMore σm) := by
  obtain ⟨K, Ko, hh, T, R, ρ, hC, hX, hM⟩ := id h
  have hK := hC.1
  have k3 := hK.2.2.2.2.2.1
  have ex : σx 9 0 = nI (K 8 0) := pu_Xf hX.1 8 0 (by omega) (by omega) (by decide)
  have em : σm 7 0 = nI (K 8 0) := hM.1.2.2.1 0 (by omega)
  by_cases c : K 8 0 = 11
  · refine pu_ok_refA (v := -3) 2 (by omega) rfl rfl h ?_ ?_
    · unfold f_X10_roomMore
      rw [pu_lit0, pu_ld (by omega) (by omega), pu_lt (by omega) (by omega), ex, c, if_neg (show ¬ nI 11 < ob_great 0 from by decide)]
    · unfold f_X11_roomMore
      rw [pu_lit0, pu_ld (by omega) (by omega), em, c, if_pos (show nI 11 = (11 : Int32) from rfl)]
  · have hK' : pu_ok (pu_upK K 8 0 (K 8 0 + 1)) := pu_ok_box hK _ _ (by omega) (by omega) (by omega) (by omega) (by omega) (by omega)
    obtain ⟨σ1, a1, a2⟩ := pu_withX (n := 0) (by omega) hK' hC.2.1 hX
    obtain ⟨σ2, b1, b2⟩ := pu_worX hC.1 hC.2.1 a2
    obtain ⟨σ3, c1, c2⟩ := pu_moreM (n := 0) (by omega) hK hK' hC.2.1 hM
    refine ⟨pu_ww (pu_upK K 8 0 (K 8 0 + 1)) 7 - pu_ww K 7, σ2, σ3, ?_, ?_, K, Ko, hh, T, R, ρ, hC, b2, c2⟩
    · unfold f_X10_roomMore
      rw [pu_lit0, pu_ld (by omega) (by omega), pu_lt (by omega) (by omega), ex, if_pos (show nI (K 8 0) < ob_great 0 from (nI_ltI (b := 11) (by omega) (by omega)).mpr (by omega)), pu_ld (by omega) (by omega), ex, nI_1, pu_bd' _ a1, pu_bd' _ b1]
    · unfold f_X11_roomMore
      rw [pu_lit0, pu_ld (by omega) (by omega), em, if_neg (show ¬ nI (K 8 0) = (11 : Int32) from fun q => c ((nI_eq (b := 11) (by omega) (by omega)).mp q)), pu_ld (by omega) (by omega), em, nI_1, pu_bd' _ c1]
/-! HALVED -/
theorem pu_halvedL {σx σm : ob_St} {K : pu_K} {g : Nat → Nat} (hX : pu_X 1 σx K) (hK : pu_ok K) (hM : pu_M0 σm K) (hg : ∀ d, d < K 0 0 → σx 43 d = nI (g d) ∧ σm 16 d = nI (g d)) (v : Int32) : ∀ (k i n : Nat) (acc : Int32), i + k = K 0 0 → k < n → ∃ r, (r = 0 ∨ r = 1) ∧ L_X1_isHalved_6 1 n σx v acc (nI i) = some (r, σx) ∧ L_X11_isHalved_5 n σm v acc (nI i) = some (r, σm) := by
  have hd6 := hK.1
  intro k
  induction k with
  | zero =>
    intro i n acc h1 h2
    obtain ⟨n, rfl⟩ : ∃ z, n = z + 1 := ⟨n - 1, by omega⟩
    refine ⟨0, Or.inl rfl, ?_, ?_⟩
    · rw [L_X1_isHalved_6, hX.1, if_pos (nI_le (by omega) (by omega))]; rfl
    · rw [L_X11_isHalved_5, hM.1, if_pos (nI_le (by omega) (by omega))]; rfl
  | succ k ih =>
    intro i n acc h1 h2
    obtain ⟨n, rfl⟩ : ∃ z, n = z + 1 := ⟨n - 1, by omega⟩
    have hi : i < K 0 0 := by omega
    obtain ⟨u1, u2⟩ := hg i hi
    have e1 : σx 6 i = nI (K 5 i) := pu_Xf hX 5 i (by omega) (by omega) (show i < 6 by omega)
    have e2 : σm 5 i = nI (K 5 i) := hM.2.1 5 (by omega) (by omega) i (by omega)
    have sx : L_X1_isHalved_6 1 (n + 1) σx v acc (nI i) = if nI (K 5 i) = v then (if acc = -9 then L_X1_isHalved_6 1 n σx v (nI (g i)) (nI (i + 1)) else if acc = nI (g i) then L_X1_isHalved_6 1 n σx v (nI (g i)) (nI (i + 1)) else some (1, σx)) else L_X1_isHalved_6 1 n σx v acc (nI (i + 1)) := by
      rw [L_X1_isHalved_6, hX.1, if_neg (nI_ge (by omega) (by omega)), pu_ld (by omega) (by omega), pu_ld (by omega) (by omega), e1, u1]
      unfold J_X1_isHalved_45_6
      rw [pu_ld (by omega) (by omega), u1, nI_1]
      rfl
    have sm : L_X11_isHalved_5 (n + 1) σm v acc (nI i) = if nI (K 5 i) = v then (if acc = -9 then L_X11_isHalved_5 n σm v (nI (g i)) (nI (i + 1)) else if nI (g i) = acc then L_X11_isHalved_5 n σm v acc (nI (i + 1)) else some (1, σm)) else L_X11_isHalved_5 n σm v acc (nI (i + 1)) := by
      rw [L_X11_isHalved_5, hM.1, if_neg (nI_ge (by omega) (by omega)), pu_ld (by omega) (by omega), pu_ld (by omega) (by omega), e2, u2]
      unfold J_X11_isHalved_39_5
      rw [pu_ld (by omega) (by omega), pu_ld (by omega) (by omega), u2, nI_1, if_pos rfl]
      rfl
    rw [sx, sm]
    by_cases c1 : nI (K 5 i) = v
    · rw [if_pos c1, if_pos c1]
      by_cases c2 : acc = -9
      · rw [if_pos c2, if_pos c2]
        exact ih (i + 1) n _ (by omega) (by omega)
      · rw [if_neg c2, if_neg c2]
        by_cases c3 : acc = nI (g i)
        · rw [if_pos c3, if_pos c3.symm, c3]
          exact ih (i + 1) n _ (by omega) (by omega)
        · rw [if_neg c3, if_neg (fun q => c3 q.symm)]
          exact ⟨1, Or.inr rfl, rfl, rfl⟩
    · rw [if_neg c1, if_neg c1]
      exact ih (i + 1) n acc (by omega) (by omega)
theorem pu_halvedA {σx σm : ob_St} {f : Nat → Int32} {a : Int32} (ha : a < 0) (hf : ∀ c, c < 5 → f_X1_isHalved 1 σx (nI c) = some (f c, σx) ∧ f_X11_isHalved σm (nI c) = some (f c, σm)) : ∀ (k i n : Nat) (acc : Int32), i + k = 5 → k < n → ∃ r, L_X10_halved_56 n σx acc (nI i) = some (r, σx) ∧ L_X11_halved_33 n σm a acc (nI i) = some (r, σm) := by
  intro k
  induction k with
  | zero =>
    intro i n acc h1 h2
    obtain ⟨n, rfl⟩ : ∃ z, n = z + 1 := ⟨n - 1, by omega⟩
    have h5 : (5 : Int32) ≤ nI i := nI_le (a := 5) (by omega) (by omega)
    exact ⟨acc, by rw [L_X10_halved_56, if_pos h5], by rw [L_X11_halved_33, if_pos h5]⟩
  | succ k ih =>
    intro i n acc h1 h2
    obtain ⟨n, rfl⟩ : ∃ z, n = z + 1 := ⟨n - 1, by omega⟩
    have h5 : ¬ (5 : Int32) ≤ nI i := nI_ge (b := 5) (by omega) (by omega)
    obtain ⟨f1, f2⟩ := hf i (by omega)
    rw [L_X10_halved_56, if_neg h5, pu_bd' _ f1, L_X11_halved_33, if_neg h5, if_pos ha, J_X11_halved_47_33, pu_bd' _ f2, nI_1]
    by_cases c : f i = 0
    · rw [if_pos c, if_pos c]
      exact ih (i + 1) n acc (by omega) (by omega)
    · rw [if_neg c, if_neg c]
      exact ih (i + 1) n _ (by omega) (by omega)
theorem pu_halvedB {σm : ob_St} {f : Nat → Int32} {c : Nat} (hc : c < 5) (hf : ∀ c, c < 5 → f_X11_isHalved σm (nI c) = some (f c, σm)) : ∀ (k i n : Nat) (acc : Int32), i + k = 5 → k < n → L_X11_halved_33 n σm (nI c) acc (nI i) = some (if i ≤ c then (if f c = 0 then acc else acc + 1) else acc, σm) := by
  intro k
  induction k with
  | zero =>
    intro i n acc h1 h2
    obtain ⟨n, rfl⟩ : ∃ z, n = z + 1 := ⟨n - 1, by omega⟩
    have h5 : (5 : Int32) ≤ nI i := nI_le (a := 5) (by omega) (by omega)
    rw [L_X11_halved_33, if_pos h5, if_neg (by omega)]
  | succ k ih =>
    intro i n acc h1 h2
    obtain ⟨n, rfl⟩ : ∃ z, n = z + 1 := ⟨n - 1, by omega⟩
    have h5 : ¬ (5 : Int32) ≤ nI i := nI_ge (b := 5) (by omega) (by omega)
    rw [L_X11_halved_33, if_neg h5, if_neg (nI_pos (by omega))]
    by_cases e : i = c
    · subst e
      rw [if_pos rfl, J_X11_halved_47_33, pu_bd' _ (hf i hc), nI_1, if_pos (Nat.le_refl _)]
      by_cases z : f i = 0
      · rw [if_pos z, if_pos z, ih (i + 1) n acc (by omega) (by omega), if_neg (by omega)]
      · rw [if_neg z, if_neg z, ih (i + 1) n _ (by omega) (by omega), if_neg (by omega)]
    · rw [if_neg (fun q => e ((nI_eq (by omega) (by omega)).mp q)), nI_1, ih (i + 1) n acc (by omega) (by omega)]
      by_cases l : i ≤ c
      · rw [if_pos l, if_pos (by omega)]
      · rw [if_neg l, if_neg (by omega)]
theorem pu_op_halved {σx σm : ob_St} (a : Int32) (h : ob_RR σx σm) : ob_ok2 ob_RR (f_X10_halved σx a) (f_X11_halved σm a) := by
  obtain ⟨K, Ko, hh, T, R, ρ, hC, hX, hM⟩ := id h
  by_cases h1 : (-1) ≤ a
  · by_cases h2 : a < 5
    · have h3 : a ≤ 4 := by
        by_cases z : a < 0
        · exact Int32.le_trans (Int32.le_of_lt z) (by decide)
        · obtain ⟨j, hj, rfl⟩ := nI_of z
          have := (nI_ltI (b := 5) hj (by decide)).mp h2
          exact nI_le (b := 4) (by omega) (by omega)
      obtain ⟨τx, t1, t2, t3⟩ := pu_lookX hC.1 hC.2.1 hX
      obtain ⟨τm, s1, s2, s3⟩ := pu_lookM hC.1 hC.2.1 hM
      have hd6 := hC.1.1
      have hR : ob_RR τx τm := ⟨K, Ko, hh, T, R, ρ, hC, t2, s2⟩
      have hl := fun c : Nat => pu_halvedL t2.1 hC.1 (pu_M_M0 s2.1) (fun d hd => ⟨t3.2.1 d hd (by omega), s3.2.1 d hd (by omega)⟩) (nI c) (K 0 0) 0 1000 (-9) (by omega) (by omega)
      obtain ⟨f, hf⟩ := Classical.axiomOfChoice hl
      have hf2 : ∀ c, c < 5 → f_X1_isHalved 1 τx (nI c) = some (f c, τx) ∧ f_X11_isHalved τm (nI c) = some (f c, τm) := fun c _ => ⟨(hf c).2.1, (hf c).2.2⟩
      by_cases z : a < 0
      · obtain ⟨r, r1, r2⟩ := pu_halvedA z hf2 5 0 1000 0 (by omega) (by omega)
        refine ⟨r, τx, τm, ?_, ?_, hR⟩
        · unfold f_X10_halved
          rw [if_pos h1, if_pos h2, pu_bd' _ t1, if_pos z]
          exact r1
        · unfold f_X11_halved
          rw [if_pos h1, if_pos h3, pu_bd' _ s1]
          exact r2
      · obtain ⟨c, hc, rfl⟩ := nI_of z
        have c5 := (nI_ltI (b := 5) hc (by decide)).mp h2
        have b := pu_halvedB c5 (fun c hc => (hf2 c hc).2) 5 0 1000 0 (by omega) (by omega)
        rw [if_pos (Nat.zero_le _)] at b
        refine ⟨if f c = 0 then 0 else 0 + 1, τx, τm, ?_, ?_, hR⟩
        · unfold f_X10_halved
          rw [if_pos h1, if_pos h2, pu_bd' _ t1, if_neg z, pu_bd' _ (hf2 c c5).1]
          by_cases e : f c = 0
          · rw [if_pos e, if_pos e]
          · rw [if_neg e, if_neg e]; rfl
        · unfold f_X11_halved
          rw [if_pos h1, if_pos h3, pu_bd' _ s1]
          exact b
    · have h3 : ¬ a ≤ 4 := fun q => h2 (Int32.lt_of_le_of_lt q (by decide))
      exact pu_ok_ref 0 (by omega) rfl rfl h (by unfold f_X10_halved; rw [if_pos h1, if_neg h2]) (by unfold f_X11_halved; rw [if_pos h1, if_neg h3])
  · exact pu_ok_ref 3 (by omega) rfl rfl h (by unfold f_X10_halved; rw [if_neg h1]) (by unfold f_X11_halved; rw [if_neg h1])
