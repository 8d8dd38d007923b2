/-! STAIRS -/
theorem pu_subI {x y : Int32} (h1 : -1000000 ≤ x.toInt ∧ x.toInt ≤ 1000000) (h2 : -1000000 ≤ y.toInt ∧ y.toInt ≤ 1000000) : (x - y).toInt = x.toInt - y.toInt := by
  rw [Int32.toInt_sub, Int.bmod_eq_of_le] <;> omega
theorem pu_wB {a b c : Nat} (ha : a ≤ 70000) (hb : b ≤ 70000) (hc : c ≤ 70000) : (nI a - nI b - 5 * nI c).toInt = (a : Int) - b - 5 * c := by
  have e : 5 * nI c = nI (5 * c) := pk_mul 5 c
  have h1 : (nI a - nI b).toInt = (a : Int) - b := pk_sub_toInt (by omega) (by omega)
  have h2 : (nI (5 * c)).toInt = ((5 * c : Nat) : Int) := nI_toInt (by omega)
  rw [e, pu_subI (by rw [h1]; omega) (by rw [h2]; omega), h1, h2]
  omega
theorem pu_sumsl {K : pu_K} {s : Nat} : ∀ n, pu_sum (pu_sl K s) n = pu_sum (fun d => pu_slop K (K 1 d)) n + (if s < n then 2 else 0) := by
  intro n
  induction n with
  | zero => rfl
  | succ n ih =>
    show pu_sum (pu_sl K s) n + pu_sl K s n = pu_sum (fun d => pu_slop K (K 1 d)) n + pu_slop K (K 1 n) + _
    rw [ih]
    unfold pu_sl
    by_cases c : n = s
    · rw [if_neg (by omega), if_pos c, if_pos (by omega)]; omega
    · rw [if_neg c]
      by_cases l : s < n
      · rw [if_pos l, if_pos (by omega)]; omega
      · rw [if_neg l, if_neg (by omega)]; omega
theorem pu_slop_le {K : pu_K} (hK : pu_ok K) (k : Nat) : pu_slop K k ≤ 9 := by
  have h4 := hK.2.2.2.2.2.2.2.2.2.1
  unfold pu_slop
  split <;> omega
/-- the sums of an evening are small -/
theorem pu_small {K : pu_K} (hK : pu_ok K) {o : Nat → Nat} {s : Nat} (ho : pu_ord K o) : pu_sum (pu_wm K (pu_u K (pu_line K o s) s)) (K 0 0) ≤ 70000 ∧ pu_sum (pu_late K (pu_u K (pu_line K o s) s)) (K 0 0) ≤ 70000 ∧ pu_sum (fun d => pu_slop K (K 1 d)) (K 0 0) + 2 ≤ 70000 := by
  have hd6 := hK.1
  have a := pu_sum_le (f := pu_wm K (pu_u K (pu_line K o s) s)) (B := 99) (K 0 0) (fun j hj => by
    have := (hK.2.1 j (by omega)).2.2.1
    unfold pu_wm
    omega)
  have b := pu_sum_le (f := pu_late K (pu_u K (pu_line K o s) s)) (B := 6400) (K 0 0) (fun j hj => by
    have := pu_u_le (s := s) hK ho hj
    unfold pu_late
    omega)
  have c := pu_sum_le (f := fun d => pu_slop K (K 1 d)) (B := 9) (K 0 0) (fun j hj => pu_slop_le hK _)
  omega
theorem pu_stairsL {σx0 σm0 : ob_St} {K Ko : pu_K} {hh : Nat} {T R : List Nat} {ρ : Nat → Int32} {v1 N : Int32} (hC : pu_RC K Ko hh T R) (hN : -600000 ≤ N.toInt ∧ N.toInt ≤ 600000) : ∀ (k i n n' : Nat) (M D s : Int32) (σx σm : ob_St), i + k = K 0 0 → k < n → k < n' → -600000 ≤ M.toInt ∧ M.toInt ≤ 600000 → D = M - N → pu_RX σx K Ko hh T R ρ → pu_RM σm K Ko hh T R ρ →
    ob_ok2 ob_RR (L_X10_stairs_30 n σx v1 N M s (nI i)) (L_X11_stairs_30 n' σm v1 N s D (nI i)) := by
  have hK := hC.1
  have hd6 := hK.1
  have ho := hC.2.1
  intro k
  induction k with
  | zero =>
    intro i n n' M D s σx σm h1 h2 h3 hM hD hX hMm
    obtain ⟨n, rfl⟩ : ∃ z, n = z + 1 := ⟨n - 1, by omega⟩
    obtain ⟨n', rfl⟩ : ∃ z, n' = z + 1 := ⟨n' - 1, by omega⟩
    have hi : nI (K 0 0) ≤ nI i := nI_le (by omega) (by omega)
    refine ⟨if v1 = 0 then s else M - N, σx, σm, ?_, ?_, K, Ko, hh, T, R, ρ, hC, hX, hMm⟩
    · rw [L_X10_stairs_30, hX.1.1, if_pos hi]
      by_cases c : v1 = 0
      · rw [if_pos c, if_pos c]
      · rw [if_neg c, if_neg c]
    · rw [L_X11_stairs_30, hMm.1.1, if_pos hi, hD]
      by_cases c : v1 = 0
      · rw [if_pos c, if_pos c]
      · rw [if_neg c, if_neg c]
  | succ k ih =>
    intro i n n' M D s σx σm h1 h2 h3 hM hD hX hMm
    obtain ⟨n, rfl⟩ : ∃ z, n = z + 1 := ⟨n - 1, by omega⟩
    obtain ⟨n', rfl⟩ : ∃ z, n' = z + 1 := ⟨n' - 1, by omega⟩
    have hi : ¬ nI (K 0 0) ≤ nI i := nI_ge (by omega) (by omega)
    obtain ⟨τx, t1, t2, t3, t4⟩ := pu_pass (b := 1) (a := 7) (st := nI i) (s := i) (Or.inl rfl) hK ⟨by decide, by decide⟩ hX.1 ho (fun j hj => pu_Xf hX.1 6 j (by omega) (by omega) (show j < 6 by omega)) (Or.inr ⟨rfl, by omega⟩)
    obtain ⟨τm, s1, s2, s3, s4⟩ := pu_run (st := nI i) (s := i) hK (pu_M_M0 hMm.1) ho (fun j hj => hMm.1.2.1 6 (by omega) (by omega) j (by omega)) (Or.inr ⟨rfl, by omega⟩)
    have hX2 : pu_RX τx K Ko hh T R ρ := pu_RX_keep hX (fun q hq => by unfold pu_vX at hq; exact t2 q (by omega) (by omega))
    have hM2 : pu_RM τm K Ko hh T R ρ := pu_RM_keep hMm (fun j h1 h2 h3 => s3 j h2 h3) (fun q hq => by unfold pu_vM at hq; exact s2 q (by omega) (by omega) (by omega))
    have tot := pu_totM (w := 7) (pu_M_M0 hM2.1) hK ho s4 (by omega)
    obtain ⟨b1, b2, b3⟩ := pu_small (s := i) hK ho
    have e46 := t4.2.2.2.2.2.2.2.2.2
    rw [pu_sumsl, if_pos (by omega)] at e46
    obtain ⟨wm, hwm⟩ : ∃ z, z = pu_sum (pu_wm K (pu_u K (pu_line K (K 6) i) i)) (K 0 0) := ⟨_, rfl⟩
    obtain ⟨lt, hlt⟩ : ∃ z, z = pu_sum (pu_late K (pu_u K (pu_line K (K 6) i) i)) (K 0 0) := ⟨_, rfl⟩
    obtain ⟨sl, hsl⟩ : ∃ z, z = pu_sum (fun d => pu_slop K (K 1 d)) (K 0 0) := ⟨_, rfl⟩
    have tot' : f_X11_totalOf τm 7 = some (nI wm - nI lt - 5 * nI sl, τm) := by rw [hwm, hlt, hsl]; exact tot
    rw [← hwm, ← hlt, ← hsl] at e46
    rw [← hwm] at b1
    rw [← hlt] at b2
    rw [← hsl] at b3
    have wI := pu_wB b1 b2 (show sl ≤ 70000 by omega)
    have vI := pu_wB b1 b2 b3
    have e10 : nI wm - nI lt - 5 * nI sl - 10 = nI wm - nI lt - 5 * nI (sl + 2) := by
      apply Int32.toInt_inj.mp
      have t10 : (10 : Int32).toInt = 10 := rfl
      rw [pu_subI (by rw [wI]; omega) (by rw [t10]; omega), wI, vI, t10]
      omega
    obtain ⟨V, hV⟩ : ∃ z, z = nI wm - nI lt - 5 * nI (sl + 2) := ⟨_, rfl⟩
    rw [← hV] at e46 vI e10
    have hVb : -600000 ≤ V.toInt ∧ V.toInt ≤ 600000 := by rw [vI]; omega
    have x1 : L_X10_stairs_30 (n + 1) σx v1 N M s (nI i) = if V ≤ M then L_X10_stairs_30 n τx v1 N M s (nI (i + 1)) else L_X10_stairs_30 n τx v1 N V (nI i) (nI (i + 1)) := by
      rw [L_X10_stairs_30, hX.1.1, if_neg hi, pu_bd' _ t1, show (7 : Int32) = nI 7 from rfl, pu_ld (by omega) (by omega), pu_ld (by omega) (by omega), e46, nI_1]
    have m1 : L_X11_stairs_30 (n' + 1) σm v1 N s D (nI i) = if D < V - N then L_X11_stairs_30 n' τm v1 N (nI i) (V - N) (nI (i + 1)) else L_X11_stairs_30 n' τm v1 N s D (nI (i + 1)) := by
      rw [L_X11_stairs_30, hMm.1.1, if_neg hi, pu_bd' _ s1, pu_bd' _ tot', pu_nm, e10, nI_1]
    have iff1 : D < V - N ↔ ¬ V ≤ M := by
      rw [hD, Int32.lt_iff_toInt_lt, Int32.le_iff_toInt_le, pu_subI (by omega) (by omega), pu_subI (by omega) (by omega)]
      omega
    rw [x1, m1]
    by_cases c : V ≤ M
    · rw [if_pos c, if_neg (fun q => iff1.mp q c)]
      exact ih (i + 1) n n' M D s τx τm (by omega) (by omega) (by omega) hM hD hX2 hM2
    · rw [if_neg c, if_pos (iff1.mpr c)]
      exact ih (i + 1) n n' V (V - N) (nI i) τx τm (by omega) (by omega) (by omega) hVb rfl hX2 hM2
theorem pu_op_stairs {σx σm : ob_St} (a : Int32) (h : ob_RR σx σm) : ob_ok2 ob_RR (f_X10_stairs σx a) (f_X11_stairs σm a) := by
  obtain ⟨K, Ko, hh, T, R, ρ, hC, hX, hM⟩ := id h
  have hK := hC.1
  have m1 := pu_within (σ := σm) (x := a) (a := 0) (b := 1)
  have go : a = 0 ∨ a = 1 → ob_ok2 ob_RR (J_X10_stairs_16 σx a) (f_X11_stairs σm a) := by
    intro ha
    have hw : 0 ≤ a ∧ a ≤ 1 := by rcases ha with rfl | rfl <;> decide
    rw [if_pos hw] at m1
    obtain ⟨τx, t1, t2⟩ := pu_worX hK hC.2.1 hX
    obtain ⟨τm, s1, s2, s3, s4⟩ := pu_worM hK hC.2.1 hM.1
    have hM2 : pu_RM τm K Ko hh T R ρ := pu_RM_keep hM (fun j h1 h2 h3 => s4 j h2 h3) (fun q hq => by unfold pu_vM at hq; exact s3 q (by omega) (by omega) (by omega))
    obtain ⟨b1, b2, b3⟩ := pu_small (s := 7) hK hC.2.1
    have wI := pu_wB b1 b2 (show pu_sum (fun d => pu_slop K (K 1 d)) (K 0 0) ≤ 70000 by omega)
    have hN : -600000 ≤ (pu_ww K 7).toInt ∧ (pu_ww K 7).toInt ≤ 600000 := by
      have : (pu_ww K 7).toInt = _ := wI
      rw [this]; omega
    have hD : (0 : Int32) = pu_ww K 7 - pu_ww K 7 := (Int32.sub_self _).symm
    have := pu_stairsL (σx0 := σx) (σm0 := σm) (v1 := a) hC hN (K 0 0) 0 1000 1000 (pu_ww K 7) 0 (-9) τx τm (by omega) (by have := hK.1; omega) (by have := hK.1; omega) hN hD t2 hM2
    unfold J_X10_stairs_16 f_X11_stairs
    rw [pu_bd' _ t1, pu_bd' _ m1, if_neg (by decide), pu_bd' _ s1]
    exact this
  by_cases c0 : a = 0
  · have := go (Or.inl c0)
    unfold f_X10_stairs
    rw [if_pos c0]; exact this
  · by_cases c1 : a = 1
    · have := go (Or.inr c1)
      unfold f_X10_stairs
      rw [if_neg c0, if_pos c1]; exact this
    · have hw : ¬ (0 ≤ a ∧ a ≤ 1) := by
        intro q
        obtain ⟨n, hn, rfl⟩ := pu_ltl (n := 1) (by decide) q.1 q.2
        have : n = 0 ∨ n = 1 := by omega
        rcases this with rfl | rfl
        · exact c0 rfl
        · exact c1 rfl
      rw [if_neg hw] at m1
      exact pu_ok_refA 1 (by omega) rfl rfl h (by unfold f_X10_stairs; rw [if_neg c0, if_neg c1]) (by unfold f_X11_stairs; rw [pu_bd' _ m1, if_pos rfl])
