/-! FORGOTTEN: a dish taken out of the order and put behind it -/
theorem pu_worO {σ : ob_St} {K : pu_K} {o : Nat → Nat} (hK : pu_ok K) (ho : pu_ord K o) (hM : pu_M0 σ K) (h6 : ∀ j, j < K 0 0 → σ 6 j = nI (o j)) : ∃ τ, f_X11_worth σ = some (pu_tot K (pu_line K o 7) (pu_u K (pu_line K o 7) 7) 7, τ) ∧ (∀ q, q ≠ 0 → q ≠ 15 → q ≠ 16 → τ q = σ q) ∧ ∀ j, j ≠ 21 → j ≠ 22 → τ 0 j = σ 0 j := by
  obtain ⟨τ, t1, t2, t3, t4⟩ := pu_run (st := -9) hK hM ho h6 (pu_sM7 K)
  have hM2 : pu_M0 τ K := pu_M0_keep hM (t3 0 (by decide) (by decide)) (fun q h1 h2 => t2 q (by omega) (by omega) (by omega))
  have tt : f_X11_totalOf τ 7 = some (pu_tot K (pu_line K o 7) (pu_u K (pu_line K o 7) 7) 7, τ) := pu_totM (w := 7) hM2 hK ho t4 (by omega)
  exact ⟨τ, by unfold f_X11_worth; rw [pu_bd' _ t1, pu_bd' _ tt], t2, t3⟩
def pu_fo (K : pu_K) (p x : Nat) (j : Nat) : Nat := if j < p then K 6 j else if j + 1 < K 0 0 then K 6 (j + 1) else x
theorem pu_fo_ord {K : pu_K} {p x : Nat} (hK : pu_ok K) (ho : pu_ord K (K 6)) (hp : p < K 0 0) (hx : K 6 p = x) : pu_ord K (pu_fo K p x) := by
  refine ⟨fun j hj => ?_, fun y hy => ?_⟩
  · unfold pu_fo
    split
    · exact ho.1 j hj
    · split
      · exact ho.1 _ (by omega)
      · rw [← hx]; exact ho.1 p hp
  · obtain ⟨j, j1, j2⟩ := ho.2 y hy
    by_cases c : j < p
    · exact ⟨j, j1, by unfold pu_fo; rw [if_pos c]; exact j2⟩
    · by_cases c2 : j = p
      · refine ⟨K 0 0 - 1, by omega, ?_⟩
        unfold pu_fo
        rw [if_neg (by omega), if_neg (by omega), ← hx, ← j2, c2]
      · refine ⟨j - 1, by omega, ?_⟩
        unfold pu_fo
        rw [if_neg (by omega), if_pos (by omega), show j - 1 + 1 = j by omega]
        exact j2
theorem pu_forgX {K Ko : pu_K} {hh : Nat} {T R : List Nat} {ρ : Nat → Int32} {p x : Nat} {W : Int32} (hK : pu_ok K) (ho : pu_ord K (K 6)) (hp : p < K 0 0) (hx : K 6 p = x) : ∀ (k i j n : Nat) (σ : ob_St), i + k = K 0 0 → k < n → (j = if i ≤ p then i else i - 1) → pu_RX σ K Ko hh T R ρ → (∀ q, q < j → σ 49 q = nI (pu_fo K p x q)) →
    ∃ τ, L_X10_forgotten_27 n σ (nI x) W (nI j) (nI i) = some (W - pu_tot K (pu_line K (pu_fo K p x) 7) (pu_u K (pu_line K (pu_fo K p x) 7) 7) 7, τ) ∧ pu_RX τ K Ko hh T R ρ := by
  have hd6 := hK.1
  have hxd : x < K 0 0 := by rw [← hx]; exact ho.1 p hp
  intro k
  induction k with
  | zero =>
    intro i j n σ h1 h2 h3 hX hf
    obtain ⟨n, rfl⟩ : ∃ z, n = z + 1 := ⟨n - 1, by omega⟩
    have hi : nI (K 0 0) ≤ nI i := nI_le (by omega) (by omega)
    rw [if_neg (by omega)] at h3
    have hX1 : pu_RX (ob_up σ 49 j (nI x)) K Ko hh T R ρ := pu_RX_keep hX (fun q hq => pu_un _ _ _ _ (by unfold pu_vX at hq; omega))
    obtain ⟨τ, t1, t2, t3, t4⟩ := pu_pass (b := 1) (a := 49) (st := -1) (s := 7) (o := pu_fo K p x) (Or.inl rfl) hK ⟨by decide, by decide⟩ hX1.1 (pu_fo_ord hK ho hp hx) (fun q hq => by
      by_cases c : q = j
      · rw [c, pu_uss]
        unfold pu_fo
        rw [if_neg (by omega), if_neg (by omega)]
      · rw [pu_usn _ _ _ _ c]
        exact hf q (by omega)) (pu_st7 K)
    refine ⟨τ, ?_, pu_RX_keep hX1 (fun q hq => by unfold pu_vX at hq; exact t2 q (by omega) (by omega))⟩
    rw [L_X10_forgotten_27, hX.1.1, if_pos hi, pu_sd (by omega) (by omega), pu_bd' _ t1, show (7 : Int32) = nI 7 from rfl, pu_ld (by omega) (by omega), pu_totX hd6 t4 (by omega)]
  | succ k ih =>
    intro i j n σ h1 h2 h3 hX hf
    obtain ⟨n, rfl⟩ : ∃ z, n = z + 1 := ⟨n - 1, by omega⟩
    have hi : ¬ nI (K 0 0) ≤ nI i := nI_ge (by omega) (by omega)
    have hid : i < K 0 0 := by omega
    have e1 : σ 7 i = nI (K 6 i) := pu_Xf hX.1 6 i (by omega) (by omega) (show i < 6 by omega)
    have hoi := ho.1 i hid
    rw [L_X10_forgotten_27, hX.1.1, if_neg hi, pu_ld (show i < 6 by omega) (by omega), pu_ld (show i < 6 by omega) (by omega), e1]
    by_cases c : K 6 i = x
    · have hip : i = p := hK.2.2.2.1 i p hid hp (by rw [c, hx])
      rw [c, if_pos rfl, nI_1]
      rw [if_pos (by omega)] at h3
      exact ih (i + 1) j n σ (by omega) (by omega) (by rw [if_neg (by omega)]; omega) hX hf
    · have hip : i ≠ p := fun q => c (by rw [q]; exact hx)
      have hj : j < 6 := by split at h3 <;> omega
      have ev : pu_fo K p x j = K 6 i := by
        unfold pu_fo
        by_cases l : i ≤ p
        · rw [if_pos l] at h3
          rw [if_pos (by omega), h3]
        · rw [if_neg l] at h3
          rw [if_neg (by omega), if_pos (by omega), show j + 1 = i by omega]
      rw [if_neg (fun q => c ((nI_eq (by omega) (by omega)).mp q)), pu_sd hj (by omega), nI_1, nI_1]
      exact ih (i + 1) (j + 1) n _ (by omega) (by omega) (by
        by_cases l : i ≤ p
        · rw [if_pos l] at h3; rw [if_pos (by omega), h3]
        · rw [if_neg l] at h3; rw [if_neg (by omega), h3]; omega) (pu_RX_keep hX (fun q hq => pu_un _ _ _ _ (by unfold pu_vX at hq; omega))) (fun q hq => by
        by_cases cq : q = j
        · rw [cq, pu_uss, ev]
        · rw [pu_usn _ _ _ _ cq]
          exact hf q (by omega))
theorem pu_forgM {σ0 : ob_St} {K Ko : pu_K} {hh : Nat} {T R : List Nat} {ρ : Nat → Int32} {p x : Nat} {W : Int32} (hK : pu_ok K) (ho : pu_ord K (K 6)) (hp : p < K 0 0) (hx : K 6 p = x) (hM : pu_RM σ0 K Ko hh T R ρ) : ∀ (k v n : Nat) (σ : ob_St), v + k + 1 = K 0 0 → k < n → p ≤ v → pu_M0 σ K → (∀ j, j < K 0 0 → σ 6 j = nI (if j < p then K 6 j else if j < v then K 6 (j + 1) else if j = v then x else K 6 j)) → pu_O 14 σ K → (∀ q, q = 9 ∨ q = 11 ∨ q = 12 ∨ q = 13 → σ q = σ0 q) → (∀ j, j ≠ 0 → j ≠ 11 → j ≠ 21 → j ≠ 22 → σ 0 j = σ0 0 j) →
    ∃ τ, L_X11_forgotten_33 n σ W (nI v) = some (W - pu_tot K (pu_line K (pu_fo K p x) 7) (pu_u K (pu_line K (pu_fo K p x) 7) 7) 7, τ) ∧ pu_RM τ K Ko hh T R ρ := by
  have hd6 := hK.1
  intro k
  induction k with
  | zero =>
    intro v n σ h1 h2 hv hM0 h6 hO hq h0
    obtain ⟨n, rfl⟩ : ∃ z, n = z + 1 := ⟨n - 1, by omega⟩
    have hi : nI (K 0 0) - 1 ≤ nI v := by
      rw [show nI (K 0 0) - 1 = nI (K 0 0 - 1) from pk_sub (b := 1) (by omega)]
      exact nI_le (by omega) (by omega)
    obtain ⟨σ1, a1, a2, a3⟩ := pu_worO hK (pu_fo_ord hK ho hp hx) hM0 (fun j hj => by
      rw [h6 j hj]
      unfold pu_fo
      by_cases c : j < p
      · rw [if_pos c, if_pos c]
      · rw [if_neg c, if_neg c]
        by_cases c2 : j < v
        · rw [if_pos c2, if_pos (by omega)]
        · rw [if_neg c2, if_pos (by omega), if_neg (by omega)])
    obtain ⟨τ, s1, s2, s3, s4⟩ := pu_againM (a := 14) (by omega) (pu_O_keep hO (a2 14 (by decide) (by decide) (by decide)))
    refine ⟨τ, by rw [L_X11_forgotten_33, hM0.1, if_pos hi, pu_bd' _ a1, pu_bd' _ s1], ?_⟩
    have n0 : ∀ j, j ≠ 0 → j ≠ 11 → j ≠ 21 → j ≠ 22 → τ 0 j = σ0 0 j := fun j h1 h2 h3 h4 => by rw [s4 j h1, a3 j h3 h4, h0 j h1 h2 h3 h4]
    have nq : ∀ q, q = 9 ∨ q = 11 ∨ q = 12 ∨ q = 13 → τ q = σ0 q := fun q h => by rw [s3 q (by omega), a2 q (by omega) (by omega) (by omega), hq q h]
    obtain ⟨z1, z2, z3, z4, z5, z6, z7, z8⟩ := hM
    exact ⟨s2, by rw [n0 16 (by decide) (by decide) (by decide) (by decide)]; exact z2, fun e => pu_O_keep (z3 e) (nq 13 (by omega)), by rw [n0 9 (by decide) (by decide) (by decide) (by decide)]; exact z4, by rw [nq 9 (by omega)]; exact z5, by rw [n0 13 (by decide) (by decide) (by decide) (by decide)]; exact z6, by rw [nq 11 (by omega)]; exact z7, fun j hj => by rw [nq 12 (by omega)]; exact z8 j hj⟩
  | succ k ih =>
    intro v n σ h1 h2 hv hM0 h6 hO hq h0
    obtain ⟨n, rfl⟩ : ∃ z, n = z + 1 := ⟨n - 1, by omega⟩
    have hi : ¬ nI (K 0 0) - 1 ≤ nI v := by
      rw [show nI (K 0 0) - 1 = nI (K 0 0 - 1) from pk_sub (b := 1) (by omega)]
      exact nI_ge (by omega) (by omega)
    have e1 : σ 6 v = nI x := by rw [h6 v (by omega), if_neg (by omega), if_neg (by omega), if_pos rfl]
    have e2 : σ 6 (v + 1) = nI (K 6 (v + 1)) := by rw [h6 (v + 1) (by omega), if_neg (by omega), if_neg (by omega), if_neg (by omega)]
    have es : f_X11_swap σ (nI v) (nI (v + 1)) = some ((), ob_up (ob_up σ 6 v (nI (K 6 (v + 1)))) 6 (v + 1) (nI x)) := by
      unfold f_X11_swap
      rw [pu_ld (by omega) (by omega), pu_ld (by omega) (by omega), e1, e2, pu_sd (by omega) (by omega), pu_sd (by omega) (by omega)]
    have nu : ∀ q, q ≠ 6 → ob_up (ob_up σ 6 v (nI (K 6 (v + 1)))) 6 (v + 1) (nI x) q = σ q := fun q hq => by rw [pu_un _ _ _ _ hq, pu_un _ _ _ _ hq]
    obtain ⟨τ, t1, t2⟩ := ih (v + 1) n (ob_up (ob_up σ 6 v (nI (K 6 (v + 1)))) 6 (v + 1) (nI x)) (by omega) (by omega) (by omega) ⟨by rw [nu 0 (by decide)]; exact hM0.1, fun f f1 f2 j hj => by rw [nu f (by omega)]; exact hM0.2.1 f f1 f2 j hj, fun j hj => by rw [nu 7 (by decide)]; exact hM0.2.2.1 j hj, fun j hj => by rw [nu 8 (by decide)]; exact hM0.2.2.2 j hj⟩ (fun j hj => by
      by_cases c1 : j = v + 1
      · rw [c1, pu_uss, if_neg (by omega), if_neg (by omega), if_pos rfl]
      · rw [pu_usn _ _ _ _ c1]
        by_cases c2 : j = v
        · rw [c2, pu_uss, if_neg (by omega), if_pos (by omega)]
        · rw [pu_usn _ _ _ _ c2, h6 j hj]
          by_cases c3 : j < p
          · rw [if_pos c3, if_pos c3]
          · rw [if_neg c3, if_neg c3]
            by_cases c4 : j < v
            · rw [if_pos c4, if_pos (by omega)]
            · rw [if_neg c4, if_neg c2, if_neg (by omega), if_neg c1]) (pu_O_keep hO (nu 14 (by decide))) (fun q h => by rw [nu q (by omega), hq q h]) (fun j h1 h2 h3 h4 => by rw [nu 0 (by decide), h0 j h1 h2 h3 h4])
    exact ⟨τ, by rw [L_X11_forgotten_33, hM0.1, if_neg hi, nI_1, pu_bd' _ es]; exact t1, t2⟩
theorem pu_op_forgotten {σx σm : ob_St} (a : Int32) (h : ob_RR σx σm) : ob_ok2 ob_RR (f_X10_forgotten σx a) (f_X11_forgotten σm a) := by
  obtain ⟨K, Ko, hh, T, R, ρ, hC, hX, hM⟩ := id h
  have hK := hC.1
  have hd6 := hK.1
  have x1 := pu_hasDish hX.1 hK a
  have m1 := pu_isDish hd6 hM.1.1 a
  by_cases hd : 0 ≤ a ∧ a < nI (K 0 0)
  · rw [if_pos hd] at x1 m1
    obtain ⟨x, hx, rfl⟩ := pu_num (by omega) hd
    obtain ⟨p, p1, p2, p3⟩ := pu_place hK hC.2.1 hx
    obtain ⟨τx, t1, t2⟩ := pu_worX hK hC.2.1 hX
    obtain ⟨τm, s1, s2, s3, s4⟩ := pu_worM hK hC.2.1 hM.1
    obtain ⟨υ, u1, u2, u3⟩ := pu_keepM (a := 14) (by omega) s2
    have hMu : pu_M υ K := pu_M_keep s2 (by rw [u3 0 (by decide)]) (fun q _ _ => u3 q (by omega))
    have w2 := pu_whereM (σ := υ) (o := K 6) hd6 (fun i hi => hMu.2.1 6 (by omega) (by omega) i (by omega)) (fun i hi => by have := hC.2.1.1 i hi; omega) (show x < 6 by omega) p1 p2 (fun i hi e => by have := p3 i (by omega) e; omega)
    obtain ⟨α, a1, a2⟩ := pu_forgX (W := pu_ww K 7) hK hC.2.1 p1 p2 (K 0 0) 0 0 1000 τx (by omega) (by omega) (by rw [if_pos (by omega)]) t2 (fun q hq => absurd hq (Nat.not_lt_zero _))
    obtain ⟨β, b1, b2⟩ := pu_forgM (W := pu_ww K 7) hK hC.2.1 p1 p2 hM (K 0 0 - 1 - p) p 1000 υ (by omega) (by omega) (Nat.le_refl _) (pu_M_M0 hMu) (fun j hj => by
      rw [hMu.2.1 6 (by omega) (by omega) j (by omega)]
      by_cases c : j < p
      · rw [if_pos c]
      · rw [if_neg c, if_neg c]
        by_cases c2 : j = p
        · rw [if_pos c2, c2, p2]
        · rw [if_neg c2]) u2 (fun q hq => by rw [u3 q (by omega), s3 q (by omega) (by omega) (by omega)]) (fun j h1 h2 h3 h4 => by rw [u3 0 (by decide), s4 j h3 h4])
    refine ⟨pu_ww K 7 - pu_tot K (pu_line K (pu_fo K p x) 7) (pu_u K (pu_line K (pu_fo K p x) 7) 7) 7, α, β, ?_, ?_, K, Ko, hh, T, R, ρ, hC, a2, b2⟩
    · unfold f_X10_forgotten
      rw [pu_bd' _ x1, if_neg (by decide), pu_bd' _ t1]
      exact a1
    · unfold f_X11_forgotten
      rw [pu_bd' _ m1, if_neg (by decide), pu_bd' _ s1, pu_bd' _ u1, pu_bd' _ w2]
      exact b1
  · rw [if_neg hd] at x1 m1
    exact pu_ok_refA 0 (by omega) rfl rfl h (by unfold f_X10_forgotten; rw [pu_bd' _ x1, if_pos rfl]) (by unfold f_X11_forgotten; rw [pu_bd' _ m1, if_pos rfl])
