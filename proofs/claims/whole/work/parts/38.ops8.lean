/-! LOTS -/
theorem pu_and (v : Int32) : ¬ (v &&& 2147483647) < 0 := by
  have hm : (v &&& 2147483647).toBitVec.msb = false := by
    rw [Int32.toBitVec_and, BitVec.msb_and, show (2147483647 : Int32).toBitVec.msb = false from by decide, Bool.and_false]
  intro h
  rw [Int32.lt_iff_toInt_lt] at h
  have e : (v &&& 2147483647).toInt = ((v &&& 2147483647).toBitVec.toNat : Int) := BitVec.toInt_eq_toNat_of_msb hm
  rw [e] at h
  have : (0 : Int32).toInt = 0 := rfl
  omega
theorem pu_draw (v : Int32) : ∃ t, t ≤ 99 ∧ ob_rem ((v &&& 2147483647) / 256) 100 = nI t := by
  obtain ⟨j, hj, e⟩ := nI_of (pu_and v)
  refine ⟨j / 256 % 100, by omega, ?_⟩
  have e1 : nI j / 256 = nI (j / 256) := pk_div (d := 256) hj (by omega) (by omega)
  have e2 : nI (j / 256) / 100 = nI (j / 256 / 100) := pk_div (d := 100) (by omega) (by omega) (by omega)
  have e3 : nI (j / 256 / 100) * 100 = nI (j / 256 / 100 * 100) := pk_mul _ 100
  unfold ob_rem
  rw [e, e1, e2, e3, pk_sub (by omega)]
  congr 1
  omega
theorem pu_drawL {v1 v4 v5 : Int32} : ∀ (k i n : Nat) (v : Int32) (K : pu_K) (σx σm : ob_St), i + k = 5 → k < n → pu_ok K → pu_X 10 σx K → pu_M σm K →
    ∃ q K' τx τm, L_X10_lots_53 n σx v1 v v4 v5 (nI i) = some (q, τx) ∧ L_X11_lots_50 n σm v1 v v4 v5 (nI i) = some (q, τm) ∧ pu_ok K' ∧ K' 0 = K 0 ∧ K' 6 = K 6 ∧ pu_X 10 τx K' ∧ pu_M τm K' ∧ (∀ q, q ≠ 17 → τx q = σx q) ∧ ∀ q, q ≠ 8 → τm q = σm q := by
  intro k
  induction k with
  | zero =>
    intro i n v K σx σm h1 h2 hK hX hM
    obtain ⟨n, rfl⟩ : ∃ z, n = z + 1 := ⟨n - 1, by omega⟩
    have h5 : (5 : Int32) ≤ nI i := nI_le (a := 5) (by omega) (by omega)
    exact ⟨v, K, σx, σm, by rw [L_X10_lots_53, if_pos h5], by rw [L_X11_lots_50, if_pos h5], hK, rfl, rfl, hX, hM, fun _ _ => rfl, fun _ _ => rfl⟩
  | succ k ih =>
    intro i n v K σx σm h1 h2 hK hX hM
    obtain ⟨n, rfl⟩ : ∃ z, n = z + 1 := ⟨n - 1, by omega⟩
    have h5 : ¬ (5 : Int32) ≤ nI i := nI_ge (b := 5) (by omega) (by omega)
    obtain ⟨t, ht, e⟩ := pu_draw (v * 1664525 + 1013904223)
    have hK' : pu_ok (pu_upK K 7 i t) := by
      obtain ⟨k1, k2, k3, k4, k5, k6⟩ := hK
      refine ⟨k1, k2, k3, k4, fun j hj => ?_, k6⟩
      have := k5 j hj
      unfold pu_upK
      split <;> omega
    obtain ⟨q, K', τx, τm, a1, a2, a3, a4, a5, a6, a7, a8, a9⟩ := ih (i + 1) n (v * 1664525 + 1013904223) (pu_upK K 7 i t) _ _ (by omega) (by omega) hK' (pu_X_up (b := 10) (f := 7) hX (by omega)) (pu_M_upT hM)
    refine ⟨q, K', τx, τm, ?_, ?_, a3, a4, a5, a6, a7, fun q hq => by rw [a8 q hq, pu_un _ _ _ _ hq], fun q hq => by rw [a9 q hq, pu_un _ _ _ _ hq]⟩
    · rw [L_X10_lots_53, if_neg h5, pu_nm, pu_sd (by omega) (by omega), e, nI_1]
      exact a1
    · rw [L_X11_lots_50, if_neg h5, pu_nm, pu_sd (by omega) (by omega), e, nI_1]
      exact a2
theorem pu_lotsL {σx0 σm0 : ob_St} {K Ko : pu_K} {hh : Nat} {T R : List Nat} {ρ : Nat → Int32} {m : Nat} (hm : m ≤ 20) (hC : pu_RC K Ko hh T R) (hX : pu_RX σx0 K Ko hh T R ρ) (hM : pu_RM σm0 K Ko hh T R ρ) : ∀ (k i n n' : Nat) (v acc : Int32) (K' : pu_K) (σx σm : ob_St), i + k = m → k < n → k < n' → pu_ok K' → pu_ord K' (K' 6) → pu_X 10 σx K' → pu_M σm K' → pu_RX σx K Ko hh T R ρ → pu_O 14 σm K → (∀ q, q = 9 ∨ q = 11 ∨ q = 12 ∨ q = 13 → σm q = σm0 q) → (∀ j, j ≠ 0 → j ≠ 11 → j ≠ 21 → j ≠ 22 → σm 0 j = σm0 0 j) →
    ob_ok2 ob_RR (L_X10_lots_44 n σx (nI m) v acc (nI i)) (L_X11_lots_41 n' σm (nI m) v acc (nI i)) := by
  intro k
  induction k with
  | zero =>
    intro i n n' v acc K' σx σm h1 h2 h3 hK' ho' hX' hM' hRX hO hq h0
    obtain ⟨n, rfl⟩ : ∃ z, n = z + 1 := ⟨n - 1, by omega⟩
    obtain ⟨n', rfl⟩ : ∃ z, n' = z + 1 := ⟨n' - 1, by omega⟩
    have hi : nI m ≤ nI i := nI_le (by omega) (by omega)
    obtain ⟨τm, s1, s2, s3, s4⟩ := pu_againM (a := 14) (by omega) hO
    refine ⟨acc, σx, τm, by rw [L_X10_lots_44, if_pos hi], by rw [L_X11_lots_41, if_pos hi, pu_bd' _ s1], K, Ko, hh, T, R, ρ, hC, hRX, ?_⟩
    have n0 : ∀ j, j ≠ 0 → j ≠ 11 → j ≠ 21 → j ≠ 22 → τm 0 j = σm0 0 j := fun j h1 h2 h3 h4 => by rw [s4 j h1, h0 j h1 h2 h3 h4]
    have nq : ∀ q, q = 9 ∨ q = 11 ∨ q = 12 ∨ q = 13 → τm q = σm0 q := fun q h => by rw [s3 q (by omega), hq q h]
    obtain ⟨z1, z2, z3, z4, z5, z6, z7, z8⟩ := hM
    exact ⟨s2, by rw [n0 16 (by decide) (by decide) (by decide) (by decide)]; exact z2, fun e => pu_O_keep (z3 e) (nq 13 (by omega)), by rw [n0 9 (by decide) (by decide) (by decide) (by decide)]; exact z4, by rw [nq 9 (by omega)]; exact z5, by rw [n0 13 (by decide) (by decide) (by decide) (by decide)]; exact z6, by rw [nq 11 (by omega)]; exact z7, fun j hj => by rw [nq 12 (by omega)]; exact z8 j hj⟩
  | succ k ih =>
    intro i n n' v acc K' σx σm h1 h2 h3 hK' ho' hX' hM' hRX hO hq h0
    obtain ⟨n, rfl⟩ : ∃ z, n = z + 1 := ⟨n - 1, by omega⟩
    obtain ⟨n', rfl⟩ : ∃ z, n' = z + 1 := ⟨n' - 1, by omega⟩
    have hi : ¬ nI m ≤ nI i := nI_ge (by omega) (by omega)
    obtain ⟨q, K2, σx1, σm1, a1, a2, a3, a4, a5, a6, a7, a8, a9⟩ := pu_drawL (v1 := nI m) (v4 := acc) (v5 := nI i) 5 0 1000 v K' σx σm (by omega) (by omega) hK' hX' hM'
    have ho2 : pu_ord K2 (K2 6) := by
      unfold pu_ord at ho' ⊢
      rw [a4, a5]; exact ho'
    have hRX1 : pu_RX σx1 K Ko hh T R ρ := pu_RX_keep hRX (fun q hq => a8 q (by unfold pu_vX at hq; omega))
    obtain ⟨σx2, b1, b2, b3, b4, b5⟩ := pu_trialX a3 ho2 hRX1 a6
    obtain ⟨σm2, c1, c2, c3, c4, c5⟩ := pu_runW (w := 0) (by omega) a3 ho2 a7
    have c2' : f_X11_totalOf σm2 0 = some (pu_ww K2 0, σm2) := c2
    have e1 : L_X10_lots_44 (n + 1) σx (nI m) v acc (nI i) = L_X10_lots_44 n σx2 (nI m) q (acc + pu_ww K2 0) (nI (i + 1)) := by
      rw [L_X10_lots_44, if_neg hi, pu_lit0, pu_bd' _ a1, pu_bd' _ b1, pu_ld (by omega) (by omega), b4 0 (by omega), pu_nm, nI_1]
    have e2 : L_X11_lots_41 (n' + 1) σm (nI m) v acc (nI i) = L_X11_lots_41 n' σm2 (nI m) q (acc + pu_ww K2 0) (nI (i + 1)) := by
      rw [L_X11_lots_41, if_neg hi]
      have a2' : L_X11_lots_50 1000 σm (nI m) v acc (nI i) 0 = some (q, σm1) := a2
      rw [pu_bd' _ a2', pu_bd' _ c1, pu_bd' _ c2', pu_nm, nI_1]
    rw [e1, e2]
    exact ih (i + 1) n n' q _ K2 σx2 σm2 (by omega) (by omega) (by omega) a3 ho2 b3 c3 b2 (pu_O_keep hO (by rw [c4 14 (by decide) (by decide) (by decide), a9 14 (by decide)])) (fun q h => by rw [c4 q (by omega) (by omega) (by omega), a9 q (by omega), hq q h]) (fun j h1 h2 h3 h4 => by rw [c5 j h3 h4, a9 0 (by decide), h0 j h1 h2 h3 h4])
theorem pu_op_lots {σx σm : ob_St} (a b : Int32) (h : ob_RR σx σm) : ob_ok2 ob_RR (f_X10_lots σx a b) (f_X11_lots σm a b) := by
  obtain ⟨K, Ko, hh, T, R, ρ, hC, hX, hM⟩ := id h
  by_cases h1 : 1 ≤ a
  · by_cases h2 : a ≤ 20
    · obtain ⟨m, hm, rfl⟩ := pu_ltl (n := 20) (by decide) (Int32.le_trans (show (0 : Int32) ≤ 1 by decide) h1) h2
      obtain ⟨τx, t1, t2, t3⟩ := pu_takeX (b := 10) (b2 := 1) (Or.inl (by omega)) hX.1
      obtain ⟨τm, s1, s2, s3⟩ := pu_keepM (a := 14) (by omega) hM.1
      have hRX : pu_RX τx K Ko hh T R ρ := pu_RX_keep hX (fun q hq => t3 q (by unfold pu_vX at hq; omega))
      have hM' : pu_M τm K := pu_M_keep hM.1 (by rw [s3 0 (by decide)]) (fun q _ _ => s3 q (by omega))
      have := pu_lotsL hm hC hX hM m 0 1000 1000 b 0 K τx τm (by omega) (by omega) (by omega) hC.1 hC.2.1 t2 hM' hRX s2 (fun q hq => s3 q (by omega)) (fun j _ _ _ _ => by rw [s3 0 (by decide)])
      unfold f_X10_lots f_X11_lots
      rw [if_pos h1, if_pos h2, if_pos h1, if_pos h2, pu_bd' _ t1, pu_bd' _ s1]
      exact this
    · exact pu_ok_ref 5 (by omega) rfl rfl h (by unfold f_X10_lots; rw [if_pos h1, if_neg h2]) (by unfold f_X11_lots; rw [if_pos h1, if_neg h2])
  · exact pu_ok_ref 3 (by omega) rfl rfl h (by unfold f_X10_lots; rw [if_neg h1]) (by unfold f_X11_lots; rw [if_neg h1])
