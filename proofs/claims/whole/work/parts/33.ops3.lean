/-! CALLS, one by one: what the evening tells -/
theorem pu_st7 (K : pu_K) : pu_st K (-1) 7 := Or.inl ⟨rfl, rfl⟩
theorem pu_sM7 (K : pu_K) : pu_sM K (-9) 7 := Or.inl ⟨rfl, rfl⟩
/-- the class looks at the evening of now -/
theorem pu_lookX {σ : ob_St} {K Ko : pu_K} {h : Nat} {T R : List Nat} {ρ : Nat → Int32} (hK : pu_ok K) (ho : pu_ord K (K 6)) (hX : pu_RX σ K Ko h T R ρ) : ∃ τ, f_X10_lookAtNow σ = some ((), τ) ∧ pu_RX τ K Ko h T R ρ ∧ pu_EvX K (K 6) 7 τ := by
  have hd6 := hK.1
  obtain ⟨τ, t1, t2, t3, t4⟩ := pu_pass (b := 1) (a := 7) (st := -1) (Or.inl rfl) hK ⟨by decide, by decide⟩ hX.1 ho (fun j hj => pu_Xf hX.1 6 j (by omega) (by omega) (show j < 6 by omega)) (pu_st7 K)
  refine ⟨τ, by unfold f_X10_lookAtNow; rw [pu_bd' _ t1], pu_RX_keep hX (fun q hq => ?_), t4⟩
  unfold pu_vX at hq
  exact t2 q (by omega) (by omega)
/-- the reference runs the evening of now -/
theorem pu_lookM {σ : ob_St} {K Ko : pu_K} {h : Nat} {T R : List Nat} {ρ : Nat → Int32} (hK : pu_ok K) (ho : pu_ord K (K 6)) (hM : pu_RM σ K Ko h T R ρ) : ∃ τ, f_X11_run σ (-9) = some ((), τ) ∧ pu_RM τ K Ko h T R ρ ∧ pu_EvM K (K 6) 7 τ := by
  have hd6 := hK.1
  obtain ⟨τ, t1, t2, t3, t4⟩ := pu_run (st := -9) hK (pu_M_M0 hM.1) ho (fun j hj => hM.1.2.1 6 (by omega) (by omega) j (by omega)) (pu_sM7 K)
  refine ⟨τ, t1, pu_RM_keep hM (fun j h1 h2 h3 => t3 j h2 h3) (fun q hq => ?_), t4⟩
  unfold pu_vM at hq
  exact t2 q (by omega) (by omega) (by omega)
theorem pu_sl7 {K : pu_K} {d : Nat} (hd : d < 7) : pu_sl K 7 d = pu_slop K (K 1 d) := by
  unfold pu_sl
  rw [if_neg (by omega), Nat.add_zero]
theorem pu_isTotal (σ : ob_St) (x : Int32) : f_X10_isTotal σ x = some (if 0 ≤ x ∧ x ≤ 7 then 1 else 0, σ) := by
  unfold f_X10_isTotal
  by_cases h1 : x < 0
  · rw [if_pos h1, if_neg (fun q => Int32.lt_irrefl (Int32.lt_of_lt_of_le h1 q.1))]; rfl
  · rw [if_neg h1]
    have h0 := Int32.not_lt.mp h1
    by_cases h2 : (8 : Int32) ≤ x
    · rw [if_pos h2, if_neg (fun q => absurd (Int32.le_trans h2 q.2) (by decide))]; rfl
    · have h3 : x ≤ 7 := by
        obtain ⟨j, hj, rfl⟩ := nI_of h1
        have : ¬ 8 ≤ j := fun q => h2 (nI_le (a := 8) q hj)
        exact nI_le (b := 7) (by omega) (by omega)
      rw [if_neg h2, if_pos ⟨h0, h3⟩]; rfl
/-- the class's totals are the reference's -/
theorem pu_totX {K : pu_K} {o : Nat → Nat} {τ : ob_St} (hd : K 0 0 ≤ 6) (hE : pu_EvX K o 7 τ) {w : Nat} (hw : w ≤ 7) : τ 46 w = pu_tot K (pu_line K o 7) (pu_u K (pu_line K o 7) 7) w := by
  obtain ⟨_, _, e0, e1, e2, e3, e4, e5, e6, e7⟩ := hE
  have es : pu_sum (pu_sl K 7) (K 0 0) = pu_sum (fun d => pu_slop K (K 1 d)) (K 0 0) := pu_sum_congr _ (fun j hj => pu_sl7 (by omega))
  rw [es] at e3 e7
  obtain rfl | rfl | rfl | rfl | rfl | rfl | rfl | rfl : w = 0 ∨ w = 1 ∨ w = 2 ∨ w = 3 ∨ w = 4 ∨ w = 5 ∨ w = 6 ∨ w = 7 := by omega
  · exact e0
  · exact e1
  · exact e2
  · exact e3
  · exact e4
  · exact e5
  · exact e6
  · exact e7
theorem pu_op_total {σx σm : ob_St} (a : Int32) (h : ob_RR σx σm) : ob_ok2 ob_RR (f_X10_total σx a) (f_X11_total σm a) := by
  obtain ⟨K, Ko, hh, T, R, ρ, hC, hX, hM⟩ := id h
  have hd6 := hC.1.1
  have x1 := pu_isTotal σx a
  have m1 := pu_within (σ := σm) (x := a) (a := 0) (b := 7)
  by_cases hd : 0 ≤ a ∧ a ≤ 7
  · rw [if_pos hd] at x1 m1
    obtain ⟨w, hw, rfl⟩ := pu_ltl (n := 7) (by decide) hd.1 hd.2
    obtain ⟨τx, t1, t2, t3⟩ := pu_lookX hC.1 hC.2.1 hX
    obtain ⟨τm, s1, s2, s3⟩ := pu_lookM hC.1 hC.2.1 hM
    refine ⟨pu_tot K (pu_line K (K 6) 7) (pu_u K (pu_line K (K 6) 7) 7) w, τx, τm, ?_, ?_, K, Ko, hh, T, R, ρ, hC, t2, s2⟩
    · unfold f_X10_total
      rw [pu_bd' _ x1, if_neg (by decide), pu_bd' _ t1, pu_ld (by omega) (by omega), pu_totX hd6 t3 hw]
    · unfold f_X11_total
      rw [pu_bd' _ m1, if_neg (by decide), pu_bd' _ s1, pu_bd' _ (pu_totM (pu_M_M0 s2.1) hC.1 hC.2.1 s3 hw)]
  · rw [if_neg hd] at x1 m1
    exact pu_ok_refA 1 (by omega) rfl rfl h (by unfold f_X10_total; rw [pu_bd' _ x1, if_pos rfl]) (by unfold f_X11_total; rw [pu_bd' _ m1, if_pos rfl])
theorem pu_op_of {σx σm : ob_St} (a b : Int32) (h : ob_RR σx σm) : ob_ok2 ob_RR (f_X10_of σx a b) (f_X11_of σm a b) := by
  obtain ⟨K, Ko, hh, T, R, ρ, hC, hX, hM⟩ := id h
  have hK := hC.1
  have hd6 := hK.1
  have x1 := pu_hasDish hX.1 hK a
  have m1 := pu_isDish hd6 hM.1.1 a
  by_cases hd : 0 ≤ a ∧ a < nI (K 0 0)
  · rw [if_pos hd] at x1 m1
    obtain ⟨n, hn, rfl⟩ := pu_num (by omega) hd
    obtain ⟨τx, t1, t2, t3⟩ := pu_lookX hC.1 hC.2.1 hX
    obtain ⟨τm, s1, s2, s3⟩ := pu_lookM hC.1 hC.2.1 hM
    have hR : ob_RR τx τm := ⟨K, Ko, hh, T, R, ρ, hC, t2, s2⟩
    have hu := pu_u_le (s := 7) hK hC.2.1 hn
    have hM0 := pu_M_M0 s2.1
    have u15 := s3.1 n hn
    have hn6 : n < 6 := by omega
    obtain ⟨e39, e40, e41, e42, e44, e45⟩ := t3.1 n hn
    have e43 := t3.2.1 n hn (by omega)
    have e16 := s3.2.1 n hn (by omega)
    rw [pu_sl7 (by omega)] at e45
    by_cases c0 : b = 0
    · refine ⟨τx 39 n, τx, τm, ?_, ?_, hR⟩
      rotate_left
      · rw [e39]; unfold f_X11_of; rw [pu_bd' _ m1, if_neg (by decide), pu_bd' _ s1, if_pos c0, pu_ld hn6 (by omega), u15]
      · unfold f_X10_of; rw [pu_bd' _ x1, if_neg (by decide), pu_bd' _ t1, if_pos c0, pu_ld hn6 (by omega)]
    by_cases c1 : b = 1
    · refine ⟨τx 40 n, τx, τm, ?_, ?_, hR⟩
      rotate_left
      · rw [e40]; unfold f_X11_of; rw [pu_bd' _ m1, if_neg (by decide), pu_bd' _ s1, if_neg c0, if_pos c1, pu_bd' _ (pu_servM hM0 hK hn6 hu u15)]
      · unfold f_X10_of; rw [pu_bd' _ x1, if_neg (by decide), pu_bd' _ t1, if_neg c0, if_pos c1, pu_ld hn6 (by omega)]
    by_cases c2 : b = 2
    · refine ⟨τx 41 n, τx, τm, ?_, ?_, hR⟩
      rotate_left
      · rw [e41]; unfold f_X11_of; rw [pu_bd' _ m1, if_neg (by decide), pu_bd' _ s1, if_neg c0, if_neg c1, if_pos c2, pu_bd' _ (pu_warmM hM0 hK hn6 hu u15)]
      · unfold f_X10_of; rw [pu_bd' _ x1, if_neg (by decide), pu_bd' _ t1, if_neg c0, if_neg c1, if_pos c2, pu_ld hn6 (by omega)]
    by_cases c3 : b = 3
    · refine ⟨τx 42 n, τx, τm, ?_, ?_, hR⟩
      rotate_left
      · rw [e42]; unfold f_X11_of; rw [pu_bd' _ m1, if_neg (by decide), pu_bd' _ s1, if_neg c0, if_neg c1, if_neg c2, if_pos c3, pu_bd' _ (pu_lateM hM0 hK hn6 hu u15)]
      · unfold f_X10_of; rw [pu_bd' _ x1, if_neg (by decide), pu_bd' _ t1, if_neg c0, if_neg c1, if_neg c2, if_pos c3, pu_ld hn6 (by omega)]
    by_cases c4 : b = 4
    · refine ⟨τx 43 n, τx, τm, ?_, ?_, hR⟩
      rotate_left
      · rw [e43]; unfold f_X11_of; rw [pu_bd' _ m1, if_neg (by decide), pu_bd' _ s1, if_neg c0, if_neg c1, if_neg c2, if_neg c3, if_pos c4, pu_ld hn6 (by omega), e16]
      · unfold f_X10_of; rw [pu_bd' _ x1, if_neg (by decide), pu_bd' _ t1, if_neg c0, if_neg c1, if_neg c2, if_neg c3, if_pos c4, pu_ld hn6 (by omega)]
    by_cases c5 : b = 5
    · refine ⟨τx 44 n, τx, τm, ?_, ?_, hR⟩
      rotate_left
      · rw [e44]; unfold f_X11_of; rw [pu_bd' _ m1, if_neg (by decide), pu_bd' _ s1, if_neg c0, if_neg c1, if_neg c2, if_neg c3, if_neg c4, if_pos c5, pu_bd' _ (pu_stdM hM0 hK hn6 hu u15)]
      · unfold f_X10_of; rw [pu_bd' _ x1, if_neg (by decide), pu_bd' _ t1, if_neg c0, if_neg c1, if_neg c2, if_neg c3, if_neg c4, if_pos c5, pu_ld hn6 (by omega)]
    by_cases c6 : b = 6
    · refine ⟨τx 45 n, τx, τm, ?_, ?_, hR⟩
      rotate_left
      · rw [e45]; unfold f_X11_of; rw [pu_bd' _ m1, if_neg (by decide), pu_bd' _ s1, if_neg c0, if_neg c1, if_neg c2, if_neg c3, if_neg c4, if_neg c5, if_pos c6, pu_bd' _ (pu_slopM hM0 hK hn6)]
      · unfold f_X10_of; rw [pu_bd' _ x1, if_neg (by decide), pu_bd' _ t1, if_neg c0, if_neg c1, if_neg c2, if_neg c3, if_neg c4, if_neg c5, if_pos c6, pu_ld hn6 (by omega)]
    exact pu_ok_ref 1 (by omega) rfl rfl hR (by unfold f_X10_of; rw [pu_bd' _ x1, if_neg (by decide), pu_bd' _ t1, if_neg c0, if_neg c1, if_neg c2, if_neg c3, if_neg c4, if_neg c5, if_neg c6]) (by unfold f_X11_of; rw [pu_bd' _ m1, if_neg (by decide), pu_bd' _ s1, if_neg c0, if_neg c1, if_neg c2, if_neg c3, if_neg c4, if_neg c5, if_neg c6])
  · rw [if_neg hd] at x1 m1
    exact pu_ok_ref 0 (by omega) rfl rfl h (by unfold f_X10_of; rw [pu_bd' _ x1, if_pos rfl]) (by unfold f_X11_of; rw [pu_bd' _ m1, if_pos rfl])
/-- the last course that has begun -/
noncomputable def pu_last (K : pu_K) (v : Int32) : Nat → Int32
  | 0 => -9
  | c + 1 => if v < nI (pu_begin K c) then pu_last K v c else nI c
theorem pu_heardX {σ : ob_St} {K : pu_K} (hX : pu_X 1 σ K) (hK : pu_ok K) (v : Int32) : ∀ (c n : Nat), c ≤ 5 → c < n → L_X10_heard_27 n σ v (nI c - 1) = some (pu_last K v c, σ) := by
  intro c
  induction c with
  | zero =>
    intro n h1 h2
    obtain ⟨n, rfl⟩ : ∃ z, n = z + 1 := ⟨n - 1, by omega⟩
    rw [L_X10_heard_27, if_pos (by decide)]
    rfl
  | succ c ih =>
    intro n h1 h2
    obtain ⟨n, rfl⟩ : ∃ z, n = z + 1 := ⟨n - 1, by omega⟩
    rw [show nI (c + 1) - 1 = nI c from pk_sub (b := 1) (by omega), L_X10_heard_27, if_neg (nI_pos (by omega)), pu_bd' _ (pu_beginX hX hK (by omega)), pu_last]
    by_cases c1 : v < nI (pu_begin K c)
    · rw [if_pos c1, if_pos c1, ← Int32.sub_eq_add_neg]
      exact ih n (by omega) (by omega)
    · rw [if_neg c1, if_neg c1]
theorem pu_heardM {σ : ob_St} {K : pu_K} (hM : pu_M0 σ K) (v : Int32) : ∀ (k c n : Nat), c + k = 5 → k < n → L_X11_heard_30 n σ v (pu_last K v c) (nI c) = some (pu_last K v 5, σ) := by
  intro k
  induction k with
  | zero =>
    intro c n h1 h2
    obtain ⟨n, rfl⟩ : ∃ z, n = z + 1 := ⟨n - 1, by omega⟩
    rw [L_X11_heard_30, if_pos (show (5 : Int32) ≤ nI c from nI_le (a := 5) (by omega) (by omega)), show c = 5 by omega]
  | succ k ih =>
    intro c n h1 h2
    obtain ⟨n, rfl⟩ : ∃ z, n = z + 1 := ⟨n - 1, by omega⟩
    have hr : pu_last K v (c + 1) = if v < nI (pu_begin K c) then pu_last K v c else nI c := rfl
    rw [L_X11_heard_30, if_neg (show ¬ (5 : Int32) ≤ nI c from nI_ge (b := 5) (by omega) (by omega)), pu_bd' _ (pu_beginM hM (by omega)), nI_1]
    by_cases c1 : v < nI (pu_begin K c)
    · rw [if_pos c1] at hr
      rw [if_pos c1, ← hr]
      exact ih (c + 1) n (by omega) (by omega)
    · rw [if_neg c1] at hr
      rw [if_neg c1]
      have := ih (c + 1) n (by omega) (by omega)
      rw [hr] at this
      exact this
theorem pu_op_heard {σx σm : ob_St} (a : Int32) (h : ob_RR σx σm) : ob_ok2 ob_RR (f_X10_heard σx a) (f_X11_heard σm a) := by
  obtain ⟨K, Ko, hh, T, R, ρ, hC, hX, hM⟩ := id h
  by_cases h1 : 0 ≤ a
  · by_cases h2 : a ≤ 999
    · refine pu_same (pu_last K a 5) h ?_ ?_
      · unfold f_X10_heard
        rw [if_pos h1, if_pos h2]
        exact pu_heardX hX.1 hC.1 a 5 1000 (by omega) (by omega)
      · unfold f_X11_heard
        rw [if_pos h1, if_pos h2]
        exact pu_heardM (pu_M_M0 hM.1) a 5 0 1000 (by omega) (by omega)
    · exact pu_ok_ref 5 (by omega) rfl rfl h (by unfold f_X10_heard; rw [if_pos h1, if_neg h2]) (by unfold f_X11_heard; rw [if_pos h1, if_neg h2])
  · exact pu_ok_ref 3 (by omega) rfl rfl h (by unfold f_X10_heard; rw [if_neg h1]) (by unfold f_X11_heard; rw [if_neg h1])
theorem pu_waitsL {σx σm : ob_St} {K : pu_K} {u : Nat → Nat} (hX : pu_X 1 σx K) (hK : pu_ok K) (hM : pu_M0 σm K) (hu : ∀ d, d < K 0 0 → σx 39 d = nI (u d) ∧ σm 15 d = nI (u d)) (v : Int32) : ∀ (k i n : Nat) (acc : Int32), i + k = K 0 0 → k < n → ∃ r, L_X10_waits_33 n σx v acc (nI i) = some (r, σx) ∧ L_X11_waits_35 n σm v acc (nI i) = some (r, σm) := by
  have hd6 := hK.1
  intro k
  induction k with
  | zero =>
    intro i n acc h1 h2
    obtain ⟨n, rfl⟩ : ∃ z, n = z + 1 := ⟨n - 1, by omega⟩
    refine ⟨acc, ?_, ?_⟩
    · rw [L_X10_waits_33, hX.1, if_pos (nI_le (by omega) (by omega))]
    · rw [L_X11_waits_35, hM.1, if_pos (nI_le (by omega) (by omega))]
  | succ k ih =>
    intro i n acc h1 h2
    obtain ⟨n, rfl⟩ : ∃ z, n = z + 1 := ⟨n - 1, by omega⟩
    have hi : i < K 0 0 := by omega
    obtain ⟨u1, u2⟩ := hu i hi
    have k5 : K 5 i < 5 := by have := (hK.2.1 i (by omega)).2.2.2.2.1; omega
    have e1 : σx 6 i = nI (K 5 i) := pu_Xf hX 5 i (by omega) (by omega) (show i < 6 by omega)
    have e2 : σm 5 i = nI (K 5 i) := hM.2.1 5 (by omega) (by omega) i (by omega)
    rw [L_X10_waits_33, L_X11_waits_35, hX.1, hM.1, if_neg (nI_ge (by omega) (by omega)), if_neg (nI_ge (by omega) (by omega)), pu_ld (by omega) (by omega), pu_ld (by omega) (by omega), pu_ld (by omega) (by omega), pu_ld (by omega) (by omega), u1, u2, e1, e2, pu_bd' _ (pu_beginX hX hK k5), pu_bd' _ (pu_beginM hM k5)]
    by_cases c1 : nI (u i) ≤ v
    · rw [if_pos c1, if_pos c1, nI_1]
      exact ih (i + 1) n acc (by omega) (by omega)
    · rw [if_neg c1, if_neg c1]
      by_cases c2 : v < nI (pu_begin K (K 5 i))
      · rw [if_pos c2, if_pos c2, nI_1]
        exact ih (i + 1) n acc (by omega) (by omega)
      · rw [if_neg c2, if_neg c2, pu_nm, pu_nm, nI_1]
        exact ih (i + 1) n _ (by omega) (by omega)
theorem pu_op_waits {σx σm : ob_St} (a : Int32) (h : ob_RR σx σm) : ob_ok2 ob_RR (f_X10_waits σx a) (f_X11_waits σm a) := by
  obtain ⟨K, Ko, hh, T, R, ρ, hC, hX, hM⟩ := id h
  by_cases h1 : 0 ≤ a
  · by_cases h2 : a ≤ 999
    · obtain ⟨τx, t1, t2, t3⟩ := pu_lookX hC.1 hC.2.1 hX
      obtain ⟨τm, s1, s2, s3⟩ := pu_lookM hC.1 hC.2.1 hM
      have hd6 := hC.1.1
      obtain ⟨r, r1, r2⟩ := pu_waitsL t2.1 hC.1 (pu_M_M0 s2.1) (fun d hd => ⟨(t3.1 d hd).1, s3.1 d hd⟩) a (K 0 0) 0 1000 0 (by omega) (by omega)
      refine ⟨r, τx, τm, ?_, ?_, K, Ko, hh, T, R, ρ, hC, t2, s2⟩
      · unfold f_X10_waits
        rw [if_pos h1, if_pos h2, pu_bd' _ t1]
        exact r1
      · unfold f_X11_waits
        rw [if_pos h1, if_pos h2, pu_bd' _ s1]
        exact r2
    · exact pu_ok_ref 5 (by omega) rfl rfl h (by unfold f_X10_waits; rw [if_pos h1, if_neg h2]) (by unfold f_X11_waits; rw [if_pos h1, if_neg h2])
  · exact pu_ok_ref 3 (by omega) rfl rfl h (by unfold f_X10_waits; rw [if_neg h1]) (by unfold f_X11_waits; rw [if_neg h1])
