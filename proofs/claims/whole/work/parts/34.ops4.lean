/-! CALLS, one by one: the box, the dish, the change -/
theorem pu_ok_box {K : pu_K} (hK : pu_ok K) (n v : Nat) (h0 : n = 0 → 1 ≤ v ∧ v ≤ 11) (h1 : n = 1 → v ≤ 9) (h2 : n = 2 → v ≤ 40) (h3 : n = 3 → 1 ≤ v ∧ v ≤ 20) (h4 : n = 4 → v ≤ 2) (h5 : n = 5 → v ≤ 400) : pu_ok (pu_upK K 8 n v) := by
  obtain ⟨k1, k2, k3, k4, k5, k6, k7, k8, k9, k10, k11⟩ := hK
  refine ⟨k1, k2, k3, k4, k5, ?_, ?_, ?_, ?_, ?_, ?_⟩
  all_goals unfold pu_upK; split <;> omega
theorem pu_setN {σx σm : ob_St} (n lo hi : Nat) (b : Int32) (hn : n < 6) (hl : ob_least n = nI lo) (hg : ob_great n = nI hi) (hi9 : hi ≤ 1000) (ml : f_X11_leastOf σm (nI n) = some (nI lo, σm)) (mg : f_X11_mostOf σm (nI n) = some (nI hi, σm)) (hok : ∀ K v, pu_ok K → lo ≤ v → v ≤ hi → pu_ok (pu_upK K 8 n v)) (hlo : lo ≤ 1000) (h : ob_RR σx σm) : ob_ok2 ob_RR (f_X10_set σx (nI n) b) (f_X11_set σm (nI n) b) := by
  obtain ⟨K, Ko, hh, T, R, ρ, hC, hX, hM⟩ := id h
  have m1 := pu_within (σ := σm) (x := nI n) (a := 0) (b := 5)
  have n5 : nI n ≤ 5 := nI_le (b := 5) (by omega) (by omega)
  rw [if_pos ⟨show (0 : Int32) ≤ nI n from nI_le (a := 0) (by omega) (by omega), n5⟩] at m1
  have n0 : ¬ nI n < 0 := nI_pos (by omega)
  by_cases h1 : nI lo ≤ b
  · by_cases h2 : b ≤ nI hi
    · obtain ⟨v, hv, rfl⟩ := pu_ltl (n := hi) (by omega) (Int32.le_trans (show (0 : Int32) ≤ nI lo from nI_le (a := 0) (by omega) (by omega)) h1) h2
      have hv1 : lo ≤ v := (nI_leI (by omega) (by omega)).mp h1
      have e1 := pu_Xf hX.1 8 n (by omega) (by omega) (show n < 6 by omega)
      have e2 := hM.1.2.2.1 n hn
      refine ⟨nI (K 8 n), ob_up σx 9 n (nI v), ob_up σm 7 n (nI v), ?_, ?_, ?_⟩
      · unfold f_X10_set
        rw [if_neg n0, if_pos n5, pu_lt hn (by omega), hl, if_pos h1, pu_lt hn (by omega), hg, if_pos h2, pu_ld hn (by omega), e1, pu_sd hn (by omega)]
      · unfold f_X11_set
        rw [pu_bd' _ m1, if_neg (by decide), pu_bd' _ ml, if_pos h1, pu_bd' _ mg, if_pos h2, pu_ld hn (by omega), e2, pu_sd hn (by omega)]
      · exact pu_RR_K (K' := pu_upK K 8 n v) hC hX hM (hok K v hC.1 hv1 hv) hC.2.1 (pu_X_up (b := 1) (f := 8) hX.1 (by omega)) (pu_M_upB hM.1) (fun q hq => pu_un _ _ _ _ (by omega)) (fun j _ _ _ _ => by rw [pu_un _ _ _ _ (by omega)]) (fun q hq => pu_un _ _ _ _ (by omega))
    · exact pu_ok_ref 5 (by omega) rfl rfl h (by unfold f_X10_set; rw [if_neg n0, if_pos n5, pu_lt hn (by omega), hl, if_pos h1, pu_lt hn (by omega), hg, if_neg h2]) (by unfold f_X11_set; rw [pu_bd' _ m1, if_neg (by decide), pu_bd' _ ml, if_pos h1, pu_bd' _ mg, if_neg h2])
  · exact pu_ok_ref 3 (by omega) rfl rfl h (by unfold f_X10_set; rw [if_neg n0, if_pos n5, pu_lt hn (by omega), hl, if_neg h1]) (by unfold f_X11_set; rw [pu_bd' _ m1, if_neg (by decide), pu_bd' _ ml, if_neg h1])
theorem pu_op_set {σx σm : ob_St} (a b : Int32) (h : ob_RR σx σm) : ob_ok2 ob_RR (f_X10_set σx a b) (f_X11_set σm a b) := by
  have m1 := pu_within (σ := σm) (x := a) (a := 0) (b := 5)
  by_cases hd : 0 ≤ a ∧ a ≤ 5
  · obtain ⟨n, hn, rfl⟩ := pu_ltl (n := 5) (by decide) hd.1 hd.2
    obtain rfl | rfl | rfl | rfl | rfl | rfl : n = 0 ∨ n = 1 ∨ n = 2 ∨ n = 3 ∨ n = 4 ∨ n = 5 := by omega
    · exact pu_setN 0 1 11 b (by omega) rfl rfl (by omega) rfl rfl (fun K v hK h1 h2 => pu_ok_box hK _ _ (fun _ => ⟨h1, h2⟩) (by omega) (by omega) (by omega) (by omega) (by omega)) (by omega) h
    · exact pu_setN 1 0 9 b (by omega) rfl rfl (by omega) rfl rfl (fun K v hK h1 h2 => pu_ok_box hK _ _ (by omega) (by omega) (by omega) (by omega) (by omega) (by omega)) (by omega) h
    · exact pu_setN 2 0 40 b (by omega) rfl rfl (by omega) rfl rfl (fun K v hK h1 h2 => pu_ok_box hK _ _ (by omega) (by omega) (by omega) (by omega) (by omega) (by omega)) (by omega) h
    · exact pu_setN 3 1 20 b (by omega) rfl rfl (by omega) rfl rfl (fun K v hK h1 h2 => pu_ok_box hK _ _ (by omega) (by omega) (by omega) (by omega) (by omega) (by omega)) (by omega) h
    · exact pu_setN 4 0 2 b (by omega) rfl rfl (by omega) rfl rfl (fun K v hK h1 h2 => pu_ok_box hK _ _ (by omega) (by omega) (by omega) (by omega) (by omega) (by omega)) (by omega) h
    · exact pu_setN 5 0 400 b (by omega) rfl rfl (by omega) rfl rfl (fun K v hK h1 h2 => pu_ok_box hK _ _ (by omega) (by omega) (by omega) (by omega) (by omega) (by omega)) (by omega) h
  · rw [if_neg hd] at m1
    refine pu_ok_ref 1 (by omega) rfl rfl h ?_ (by unfold f_X11_set; rw [pu_bd' _ m1, if_pos rfl])
    unfold f_X10_set
    by_cases h1 : a < 0
    · rw [if_pos h1]
    · rw [if_neg h1, if_neg (fun q => hd ⟨Int32.not_lt.mp h1, q⟩)]
/-- where a dish stands in the order -/
theorem pu_whereX {b : Nat} {σ : ob_St} {d x j : Nat} {o : Nat → Nat} (h0 : σ b 0 = nI d) (hd : d ≤ 6) (hf : ∀ i, i < d → σ (b + 6) i = nI (o i)) (hlt : ∀ i, i < d → o i < 6) (hx : x < 6) (hj : j < d) (hjx : o j = x) (hn : ∀ i, i < j → o i ≠ x) : f_X3_whereIs b σ (nI x) = some (nI j, σ) := by
  have key : ∀ (k i n : Nat), i + k = j → k < n → L_X3_whereIs_2 b n σ (nI x) (nI i) = some (nI j, σ) := by
    intro k
    induction k with
    | zero =>
      intro i n hi hk
      obtain ⟨n, rfl⟩ : ∃ z, n = z + 1 := ⟨n - 1, by omega⟩
      rw [L_X3_whereIs_2, h0, if_neg (nI_ge (by omega) (by omega)), pu_ld (by omega) (by omega), hf i (by omega), show i = j by omega, hjx, if_pos rfl]
    | succ k ih =>
      intro i n hi hk
      obtain ⟨n, rfl⟩ : ∃ z, n = z + 1 := ⟨n - 1, by omega⟩
      rw [L_X3_whereIs_2, h0, if_neg (nI_ge (by omega) (by omega)), pu_ld (by omega) (by omega), hf i (by omega), if_neg (fun q => hn i (by omega) ((nI_eq (by have := hlt i (by omega); omega) (by omega)).mp q)), nI_1]
      exact ih (i + 1) n (by omega) (by omega)
  exact key j 0 1000 (by omega) (by omega)
theorem pu_whereM {σ : ob_St} {d x j : Nat} {o : Nat → Nat} (hd : d ≤ 6) (hf : ∀ i, i < d → σ 6 i = nI (o i)) (hlt : ∀ i, i < d → o i < 6) (hx : x < 6) (hj : j < d) (hjx : o j = x) (hn : ∀ i, i < j → o i ≠ x) : f_X11_placeOf σ (nI x) = some (nI j, σ) := by
  have key : ∀ (k i n : Nat), i + k = j → k < n → L_X11_placeOf_2 n σ (nI x) (nI i) = some (nI j, σ) := by
    intro k
    induction k with
    | zero =>
      intro i n hi hk
      obtain ⟨n, rfl⟩ : ∃ z, n = z + 1 := ⟨n - 1, by omega⟩
      rw [L_X11_placeOf_2, pu_ld (by omega) (by omega), hf i (by omega), show i = j by omega, hjx, if_pos rfl]
    | succ k ih =>
      intro i n hi hk
      obtain ⟨n, rfl⟩ : ∃ z, n = z + 1 := ⟨n - 1, by omega⟩
      rw [L_X11_placeOf_2, pu_ld (by omega) (by omega), hf i (by omega), if_neg (fun q => hn i (by omega) ((nI_eq (by have := hlt i (by omega); omega) (by omega)).mp q)), nI_1]
      exact ih (i + 1) n (by omega) (by omega)
  exact key j 0 1000 (by omega) (by omega)
/-- each dish has one place -/
theorem pu_place {K : pu_K} (hK : pu_ok K) (ho : pu_ord K (K 6)) {x : Nat} (hx : x < K 0 0) : ∃ j, j < K 0 0 ∧ K 6 j = x ∧ ∀ i, i < K 0 0 → K 6 i = x → i = j := by
  obtain ⟨j, h1, h2⟩ := ho.2 x hx
  exact ⟨j, h1, h2, fun i hi e => hK.2.2.2.1 i j hi h1 (by rw [e, h2])⟩
theorem pu_op_dish {σx σm : ob_St} (a b : Int32) (h : ob_RR σx σm) : ob_ok2 ob_RR (f_X10_dish σx a b) (f_X11_dish σm a b) := by
  obtain ⟨K, Ko, hh, T, R, ρ, hC, hX, hM⟩ := id h
  have hK := hC.1
  have hd6 := hK.1
  have x1 := pu_hasDish hX.1 hK a
  have m1 := pu_isDish hd6 hM.1.1 a
  by_cases hd : 0 ≤ a ∧ a < nI (K 0 0)
  · rw [if_pos hd] at x1 m1
    obtain ⟨n, hn, rfl⟩ := pu_num (by omega) hd
    have hn6 : n < 6 := by omega
    have ex : ∀ f, 1 ≤ f → f ≤ 6 → σx (1 + f) n = nI (K f n) := fun f h1 h2 => pu_Xf hX.1 f n h1 (by omega) (by unfold pu_kn; split <;> omega)
    have em : ∀ f, 1 ≤ f → f ≤ 6 → σm f n = nI (K f n) := fun f h1 h2 => hM.1.2.1 f h1 h2 n hn6
    by_cases c0 : b = 0
    · exact pu_same (nI (K 1 n)) h (by unfold f_X10_dish; rw [pu_bd' _ x1, if_neg (by decide), if_pos c0, pu_ld hn6 (by omega), ex 1 (by omega) (by omega)]) (by unfold f_X11_dish; rw [pu_bd' _ m1, if_neg (by decide), if_pos c0, pu_ld hn6 (by omega), em 1 (by omega) (by omega)])
    by_cases c1 : b = 1
    · exact pu_same (nI (K 2 n)) h (by unfold f_X10_dish; rw [pu_bd' _ x1, if_neg (by decide), if_neg c0, if_pos c1, pu_ld hn6 (by omega), ex 2 (by omega) (by omega)]) (by unfold f_X11_dish; rw [pu_bd' _ m1, if_neg (by decide), if_neg c0, if_pos c1, pu_ld hn6 (by omega), em 2 (by omega) (by omega)])
    by_cases c2 : b = 2
    · exact pu_same (nI (K 3 n)) h (by unfold f_X10_dish; rw [pu_bd' _ x1, if_neg (by decide), if_neg c0, if_neg c1, if_pos c2, pu_ld hn6 (by omega), ex 3 (by omega) (by omega)]) (by unfold f_X11_dish; rw [pu_bd' _ m1, if_neg (by decide), if_neg c0, if_neg c1, if_pos c2, pu_ld hn6 (by omega), em 3 (by omega) (by omega)])
    by_cases c3 : b = 3
    · exact pu_same (nI (K 4 n)) h (by unfold f_X10_dish; rw [pu_bd' _ x1, if_neg (by decide), if_neg c0, if_neg c1, if_neg c2, if_pos c3, pu_ld hn6 (by omega), ex 4 (by omega) (by omega)]) (by unfold f_X11_dish; rw [pu_bd' _ m1, if_neg (by decide), if_neg c0, if_neg c1, if_neg c2, if_pos c3, pu_ld hn6 (by omega), em 4 (by omega) (by omega)])
    by_cases c4 : b = 4
    · exact pu_same (nI (K 5 n)) h (by unfold f_X10_dish; rw [pu_bd' _ x1, if_neg (by decide), if_neg c0, if_neg c1, if_neg c2, if_neg c3, if_pos c4, pu_ld hn6 (by omega), ex 5 (by omega) (by omega)]) (by unfold f_X11_dish; rw [pu_bd' _ m1, if_neg (by decide), if_neg c0, if_neg c1, if_neg c2, if_neg c3, if_pos c4, pu_ld hn6 (by omega), em 5 (by omega) (by omega)])
    by_cases c5 : b = 5
    · obtain ⟨j, j1, j2, j3⟩ := pu_place hK hC.2.1 hn
      have w1 := pu_whereX (b := 1) (o := K 6) hX.1.1 hd6 (fun i hi => pu_Xf hX.1 6 i (by omega) (by omega) (show i < 6 by omega)) (fun i hi => by have := hC.2.1.1 i hi; omega) hn6 j1 j2 (fun i hi e => by have := j3 i (by omega) e; omega)
      have w2 := pu_whereM (σ := σm) (o := K 6) hd6 (fun i hi => hM.1.2.1 6 (by omega) (by omega) i (by omega)) (fun i hi => by have := hC.2.1.1 i hi; omega) hn6 j1 j2 (fun i hi e => by have := j3 i (by omega) e; omega)
      exact pu_same (nI j) h (by unfold f_X10_dish; rw [pu_bd' _ x1, if_neg (by decide), if_neg c0, if_neg c1, if_neg c2, if_neg c3, if_neg c4, if_pos c5, pu_bd' _ w1]) (by unfold f_X11_dish; rw [pu_bd' _ m1, if_neg (by decide), if_neg c0, if_neg c1, if_neg c2, if_neg c3, if_neg c4, if_pos c5, pu_bd' _ w2])
    exact pu_ok_ref 1 (by omega) rfl rfl h (by unfold f_X10_dish; rw [pu_bd' _ x1, if_neg (by decide), if_neg c0, if_neg c1, if_neg c2, if_neg c3, if_neg c4, if_neg c5]) (by unfold f_X11_dish; rw [pu_bd' _ m1, if_neg (by decide), if_neg c0, if_neg c1, if_neg c2, if_neg c3, if_neg c4, if_neg c5])
  · rw [if_neg hd] at x1 m1
    exact pu_ok_ref 0 (by omega) rfl rfl h (by unfold f_X10_dish; rw [pu_bd' _ x1, if_pos rfl]) (by unfold f_X11_dish; rw [pu_bd' _ m1, if_pos rfl])
/-- two dishes change places -/
def pu_sw (x y z : Nat) : Nat := if z = x then y else if z = y then x else z
def pu_swK (K : pu_K) (x y : Nat) : pu_K := fun f j => if f = 6 ∧ j < K 0 0 then pu_sw x y (K 6 j) else K f j
theorem pu_sw_lt {x y z d : Nat} (hx : x < d) (hy : y < d) (hz : z < d) : pu_sw x y z < d := by
  unfold pu_sw
  split
  · exact hy
  · split <;> omega
theorem pu_sw_inj {x y a b : Nat} (h : pu_sw x y a = pu_sw x y b) : a = b := by
  unfold pu_sw at h
  split at h <;> split at h <;> (try split at h) <;> (try split at h) <;> omega
theorem pu_sw_sw (x y a : Nat) : pu_sw x y (pu_sw x y a) = a := by
  unfold pu_sw
  split <;> (try split) <;> (try split) <;> (try split) <;> omega
theorem pu_swK_ok {K : pu_K} {x y : Nat} (hK : pu_ok K) (ho : pu_ord K (K 6)) (hx : x < K 0 0) (hy : y < K 0 0) : pu_ok (pu_swK K x y) ∧ pu_ord (pu_swK K x y) (pu_swK K x y 6) := by
  obtain ⟨k1, k2, k3, k4, k5, k6, k7, k8, k9, k10, k11⟩ := hK
  have e0 : pu_swK K x y 0 0 = K 0 0 := rfl
  have e6 : ∀ j, j < K 0 0 → pu_swK K x y 6 j = pu_sw x y (K 6 j) := fun j hj => if_pos ⟨rfl, hj⟩
  refine ⟨⟨k1, fun j hj => ?_, fun j hj => ?_, fun i j hi hj e => ?_, k5, k6, k7, k8, k9, k10, k11⟩, fun j hj => ?_, fun z hz => ?_⟩
  · obtain ⟨z1, z2, z3, z4, z5, z6⟩ := k2 j hj
    refine ⟨z1, z2, z3, z4, z5, ?_⟩
    by_cases c : j < K 0 0
    · rw [e6 j c]
      have := pu_sw_lt hx hy (k3 j c).2
      omega
    · unfold pu_swK
      rw [if_neg (fun q => c q.2)]
      exact z6
  · refine ⟨(k3 j hj).1, ?_⟩
    rw [e6 j hj]
    exact pu_sw_lt hx hy (k3 j hj).2
  · rw [e6 i hi, e6 j hj] at e
    exact k4 i j hi hj (pu_sw_inj e)
  · rw [e6 j hj]
    exact pu_sw_lt hx hy (k3 j hj).2
  · obtain ⟨j, j1, j2⟩ := ho.2 (pu_sw x y z) (pu_sw_lt hx hy hz)
    exact ⟨j, j1, by rw [e6 j j1, j2, pu_sw_sw]⟩
theorem pu_swapX {b d x y : Nat} {o : Nat → Nat} (hd : d ≤ 6) (hx : x < 6) (hy : y < 6) (hlt : ∀ i, i < d → o i < 6) : ∀ (k i n : Nat) (σ : ob_St), i + k = d → k < n → σ b 0 = nI d → (∀ j, j < d → σ (b + 6) j = if j < i then nI (pu_sw x y (o j)) else nI (o j)) →
    ∃ τ, L_X3_swap_25 b n σ (nI x) (nI y) (nI i) = some (1, τ) ∧ (∀ q, q ≠ b + 6 → τ q = σ q) ∧ (∀ j, d ≤ j → τ (b + 6) j = σ (b + 6) j) ∧ ∀ j, j < d → τ (b + 6) j = nI (pu_sw x y (o j)) := by
  intro k
  induction k with
  | zero =>
    intro i n σ hi hn h0 hf
    obtain ⟨n, rfl⟩ : ∃ z, n = z + 1 := ⟨n - 1, by omega⟩
    refine ⟨σ, by rw [L_X3_swap_25, h0, if_pos (nI_le (by omega) (by omega))]; rfl, fun _ _ => rfl, fun _ _ => rfl, fun j hj => by rw [hf j hj, if_pos (by omega)]⟩
  | succ k ih =>
    intro i n σ hi hn h0 hf
    obtain ⟨n, rfl⟩ : ∃ z, n = z + 1 := ⟨n - 1, by omega⟩
    have hoi := hlt i (by omega)
    have e1 : σ (b + 6) i = nI (o i) := by rw [hf i (by omega), if_neg (by omega)]
    have step : ∀ (w : Nat), pu_sw x y (o i) = w → ∃ τ, L_X3_swap_25 b n (ob_up σ (b + 6) i (nI w)) (nI x) (nI y) (nI i + 1) = some (1, τ) ∧ (∀ q, q ≠ b + 6 → τ q = σ q) ∧ (∀ j, d ≤ j → τ (b + 6) j = σ (b + 6) j) ∧ ∀ j, j < d → τ (b + 6) j = nI (pu_sw x y (o j)) := by
      intro w hw
      obtain ⟨τ, t1, t2, t3, t4⟩ := ih (i + 1) n (ob_up σ (b + 6) i (nI w)) (by omega) (by omega) (by rw [pu_un _ _ _ _ (by omega)]; exact h0) (fun j hj => by
        by_cases c : j = i
        · rw [c, pu_uss, if_pos (by omega), hw]
        · rw [pu_usn _ _ _ _ c, hf j hj]
          by_cases c2 : j < i
          · rw [if_pos c2, if_pos (by omega)]
          · rw [if_neg c2, if_neg (by omega)])
      exact ⟨τ, by rw [nI_1]; exact t1, fun q hq => by rw [t2 q hq, pu_un _ _ _ _ hq], fun j hj => by rw [t3 j hj, pu_usn _ _ _ _ (by omega)], t4⟩
    rw [L_X3_swap_25, h0, if_neg (nI_ge (by omega) (by omega)), pu_ld (by omega) (by omega), pu_ld (by omega) (by omega), e1]
    by_cases c1 : o i = x
    · rw [c1, if_pos rfl, pu_sd (by omega) (by omega)]
      exact step y (by unfold pu_sw; rw [if_pos c1])
    · rw [if_neg (fun q => c1 ((nI_eq (by omega) (by omega)).mp q))]
      by_cases c2 : o i = y
      · rw [c2, if_pos rfl, pu_sd (by omega) (by omega)]
        exact step x (by unfold pu_sw; rw [if_neg c1, if_pos c2])
      · rw [if_neg (fun q => c2 ((nI_eq (by omega) (by omega)).mp q)), nI_1]
        have hw : pu_sw x y (o i) = o i := by unfold pu_sw; rw [if_neg c1, if_neg c2]
        exact ih (i + 1) n σ (by omega) (by omega) h0 (fun j hj => by
          rw [hf j hj]
          by_cases c3 : j < i
          · rw [if_pos c3, if_pos (by omega)]
          · rw [if_neg c3]
            by_cases c4 : j = i
            · rw [c4, if_pos (by omega), hw]
            · rw [if_neg (by omega)])
theorem pu_op_change {σx σm : ob_St} (a b : Int32) (h : ob_RR σx σm) : ob_ok2 ob_RR (f_X10_change σx a b) (f_X11_change σm a b) := by
  obtain ⟨K, Ko, hh, T, R, ρ, hC, hX, hM⟩ := id h
  have hK := hC.1
  have hd6 := hK.1
  have x1 := pu_hasDish hX.1 hK a
  have x2 := pu_hasDish hX.1 hK b
  have m1 := pu_isDish hd6 hM.1.1 a
  have m2 := pu_isDish hd6 hM.1.1 b
  have ref : f_X3_swap 1 σx a b = some (0, σx) → f_X11_change σm a b = (ob_bd (f_X11_no σm (-1)) fun r s => some (r, s)) → ob_ok2 ob_RR (f_X10_change σx a b) (f_X11_change σm a b) := fun e1 e2 => pu_ok_ref 0 (by omega) rfl rfl h (by unfold f_X10_change; rw [pu_bd' _ e1, if_pos rfl]) e2
  by_cases hd : 0 ≤ a ∧ a < nI (K 0 0)
  · by_cases he : 0 ≤ b ∧ b < nI (K 0 0)
    · rw [if_pos hd] at x1 m1
      rw [if_pos he] at x2 m2
      by_cases hab : a = b
      · exact ref (by unfold f_X3_swap; rw [if_pos hab]; rfl) (by unfold f_X11_change; rw [pu_bd' _ m1, if_neg (by decide), pu_bd' _ m2, if_neg (by decide), if_pos hab])
      · obtain ⟨x, hx, rfl⟩ := pu_num (by omega) hd
        obtain ⟨y, hy, rfl⟩ := pu_num (by omega) he
        have hxy : x ≠ y := fun q => hab (by rw [q])
        obtain ⟨i, i1, i2, i3⟩ := pu_place hK hC.2.1 hx
        obtain ⟨j, j1, j2, j3⟩ := pu_place hK hC.2.1 hy
        have hij : i ≠ j := fun q => hxy (by rw [← i2, q, j2])
        obtain ⟨hK', ho'⟩ := pu_swK_ok hK hC.2.1 hx hy
        have hlt : ∀ i, i < K 0 0 → K 6 i < 6 := fun i hi => by have := hC.2.1.1 i hi; omega
        have hlt' : ∀ i, i < K 0 0 → pu_swK K x y 6 i < 6 := fun i hi => by have := ho'.1 i hi; have e : pu_swK K x y 0 0 = K 0 0 := rfl; omega
        have e6 : ∀ j, j < K 0 0 → pu_swK K x y 6 j = pu_sw x y (K 6 j) := fun j hj => if_pos ⟨rfl, hj⟩
        obtain ⟨τ, t1, t2, t3, t4⟩ := pu_swapX (b := 1) (o := K 6) hd6 (show x < 6 by omega) (show y < 6 by omega) hlt (K 0 0) 0 1000 σx (by omega) (by omega) hX.1.1 (fun j hj => by rw [if_neg (by omega)]; exact pu_Xf hX.1 6 j (by omega) (by omega) (show j < 6 by omega))
        have hX' : pu_X 1 τ (pu_swK K x y) := by
          refine ⟨by rw [t2 1 (by decide)]; exact hX.1.1, fun f h1 h2 j hj => ?_⟩
          by_cases c : f = 6
          · subst c
            by_cases c2 : j < K 0 0
            · rw [e6 j c2]; exact t4 j c2
            · unfold pu_swK
              rw [if_neg (fun q => c2 q.2)]
              exact (t3 j (by omega)).trans (hX.1.2 6 h1 h2 j hj)
          · unfold pu_swK
            rw [if_neg (fun q => c q.1), t2 _ (by omega)]
            exact hX.1.2 f h1 h2 j hj
        have m6 : ∀ q, q < 6 → σm 6 q = nI (K 6 q) := fun q hq => hM.1.2.1 6 (by omega) (by omega) q hq
        have hM' : pu_M (ob_up (ob_up σm 6 i (nI y)) 6 j (nI x)) (pu_swK K x y) := by
          have n : ∀ q, q ≠ 6 → ob_up (ob_up σm 6 i (nI y)) 6 j (nI x) q = σm q := fun q hq => by rw [pu_un _ _ _ _ hq, pu_un _ _ _ _ hq]
          refine ⟨by rw [n 0 (by decide)]; exact hM.1.1, fun f h1 h2 z hz => ?_, fun z hz => by rw [n 7 (by decide)]; exact hM.1.2.2.1 z hz, fun z hz => by rw [n 8 (by decide)]; exact hM.1.2.2.2 z hz⟩
          by_cases c : f = 6
          · subst c
            by_cases c1 : z = j
            · rw [c1, pu_uss, e6 j j1, j2]
              unfold pu_sw
              rw [if_neg (Ne.symm hxy), if_pos rfl]
            · rw [pu_usn _ _ _ _ c1]
              by_cases c2 : z = i
              · rw [c2, pu_uss, e6 i i1, i2]
                unfold pu_sw
                rw [if_pos rfl]
              · rw [pu_usn _ _ _ _ c2, m6 z hz]
                by_cases c3 : z < K 0 0
                · rw [e6 z c3]
                  unfold pu_sw
                  rw [if_neg (fun q => c2 (i3 z c3 q)), if_neg (fun q => c1 (j3 z c3 q))]
                · unfold pu_swK
                  rw [if_neg (fun q => c3 q.2)]
          · unfold pu_swK
            rw [if_neg (fun q => c q.1), n f c]
            exact hM.1.2.1 f h1 h2 z hz
        have jx : pu_swK K x y 6 j = x := by
          rw [e6 j j1, j2]
          unfold pu_sw
          rw [if_neg (Ne.symm hxy), if_pos rfl]
        have jn : ∀ i, i < j → pu_swK K x y 6 i ≠ x := fun i hi e => by have := hK'.2.2.2.1 i j (show i < K 0 0 by omega) j1 (by rw [e, jx]); omega
        refine ⟨nI j, τ, ob_up (ob_up σm 6 i (nI y)) 6 j (nI x), ?_, ?_, ?_⟩
        · unfold f_X10_change f_X3_swap
          rw [if_neg hab, pu_bd' _ x1, if_neg (by decide), pu_bd' _ x2, if_neg (by decide), pu_lit0, pu_bd' _ t1, if_neg (by decide), pu_bd' _ (pu_whereX (b := 1) (o := pu_swK K x y 6) hX'.1 hd6 (fun i hi => pu_Xf hX' 6 i (by omega) (by omega) (by have e : pu_swK K x y 0 0 = K 0 0 := rfl; show i < 6; omega)) hlt' (show x < 6 by omega) j1 jx jn)]
        · unfold f_X11_change f_X11_swap
          rw [pu_bd' _ m1, if_neg (by decide), pu_bd' _ m2, if_neg (by decide), if_neg hab, pu_bd' _ (pu_whereM (o := K 6) hd6 (fun i hi => m6 i (by omega)) hlt (show x < 6 by omega) i1 i2 (fun z hz e => by have := i3 z (by omega) e; omega)), pu_bd' _ (pu_whereM (o := K 6) hd6 (fun i hi => m6 i (by omega)) hlt (show y < 6 by omega) j1 j2 (fun z hz e => by have := j3 z (by omega) e; omega)), pu_ld (by omega) (by omega), pu_ld (by omega) (by omega), m6 i (by omega), m6 j (by omega), i2, j2, pu_sd (by omega) (by omega), pu_sd (by omega) (by omega), pu_bd, pu_bd' _ (pu_whereM (o := pu_swK K x y 6) hd6 (fun i hi => hM'.2.1 6 (by omega) (by omega) i (by have e : pu_swK K x y 0 0 = K 0 0 := rfl; omega)) hlt' (show x < 6 by omega) j1 jx jn)]
        · exact pu_RR_K (K' := pu_swK K x y) hC hX hM hK' ho' hX' hM' (fun q hq => t2 q (by omega)) (fun z _ _ _ _ => by rw [pu_un _ _ _ _ (by omega), pu_un _ _ _ _ (by omega)]) (fun q hq => by rw [pu_un _ _ _ _ (by omega), pu_un _ _ _ _ (by omega)])
    · rw [if_pos hd] at x1 m1
      rw [if_neg he] at x2 m2
      refine ref ?_ (by unfold f_X11_change; rw [pu_bd' _ m1, if_neg (by decide), pu_bd' _ m2, if_pos rfl])
      unfold f_X3_swap
      rw [if_neg (fun q => he (by rw [← q]; exact hd)), pu_bd' _ x1, if_neg (by decide), pu_bd' _ x2, if_pos rfl]
      rfl
  · rw [if_neg hd] at x1 m1
    refine ref ?_ (by unfold f_X11_change; rw [pu_bd' _ m1, if_pos rfl])
    unfold f_X3_swap
    by_cases hab : a = b
    · rw [if_pos hab]; rfl
    · rw [if_neg hab, pu_bd' _ x1, if_pos rfl]; rfl
