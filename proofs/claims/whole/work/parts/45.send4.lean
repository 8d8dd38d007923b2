/-! SEND: the whole call -/
theorem pu_neg9 {m : Nat} (hm : m < 2 ^ 31) : (-9 : Int32) < nI m := by
  rw [Int32.lt_iff_toInt_lt, nI_toInt (by omega)]
  show (-9 : Int) < m
  omega
noncomputable def pu_sv2 (K : pu_K) (c i : Nat) : Int32 := if pu_cnt K c i = 0 then -9 else nI (pu_mxc K c i)
theorem pu_mxc_le {K : pu_K} (hK : pu_ok K) (ho : pu_ord K (K 6)) {c : Nat} : ∀ i, i ≤ K 0 0 → pu_mxc K c i ≤ 6400 := by
  intro i
  induction i with
  | zero => intro _; exact Nat.zero_le _
  | succ i ih =>
    intro h
    have a := ih (by omega)
    have b : pu_X7 K i ≤ 6400 := pu_u_le (s := 7) hK ho (by omega)
    rw [pu_mxc_s]
    split <;> omega
theorem pu_sv2_s {K : pu_K} (hK : pu_ok K) (ho : pu_ord K (K 6)) {c i : Nat} (hi : i < K 0 0) : pu_sv2 K c (i + 1) = if K 5 i = c then ob_max (pu_sv2 K c i) (nI (pu_X7 K i)) else pu_sv2 K c i := by
  have a := pu_mxc_le hK ho (c := c) i (by omega)
  have b : pu_X7 K i ≤ 6400 := pu_u_le (s := 7) hK ho hi
  unfold pu_sv2
  rw [pu_cnt_s, pu_mxc_s]
  by_cases e : K 5 i = c
  · rw [if_pos e, if_pos e, if_pos e, if_neg (by omega)]
    by_cases q : pu_cnt K c i = 0
    · rw [if_pos q, pu_mxc_0 i q, Nat.zero_max]
      unfold ob_max
      rw [if_pos (pu_neg9 (by omega))]
    · rw [if_neg q, pu_max (by omega) (by omega)]
  · rw [if_neg e, if_neg e, if_neg e, Nat.add_zero]
theorem pu_sendX {σ : ob_St} {K : pu_K} {c : Nat} (hK : pu_ok K) (ho : pu_ord K (K 6)) (hc : c < 5) (h0 : σ 1 0 = nI (K 0 0)) (h5 : ∀ j, j < K 0 0 → σ 6 j = nI (K 5 j)) (h39 : ∀ j, j < K 0 0 → σ 39 j = nI (pu_X7 K j)) : ∀ (k i n : Nat), i + k = K 0 0 → L_X10_send_22 (n + k) σ (nI c) (pu_sv2 K c i) (nI i) = L_X10_send_22 n σ (nI c) (pu_sv2 K c (K 0 0)) (nI (K 0 0)) := by
  have hd6 := hK.1
  intro k
  induction k with
  | zero =>
    intro i n h
    have e : i = K 0 0 := by omega
    rw [e]
    rfl
  | succ k ih =>
    intro i n h
    have hi : i < K 0 0 := by omega
    have k5 := (hK.2.1 i (by omega)).2.2.2.2.1
    have nx := ih (i + 1) n (by omega)
    rw [pu_sv2_s hK ho hi] at nx
    rw [show n + (k + 1) = (n + k) + 1 from rfl, L_X10_send_22, h0, if_neg (nI_ge hi (by omega)), pu_ld (by omega) (by omega), h5 i hi]
    by_cases e : K 5 i = c
    · rw [if_pos e] at nx
      rw [if_pos (show nI (K 5 i) = nI c by rw [e]), pu_ld (by omega) (by omega), h39 i hi, pu_nm, nI_1]
      exact nx
    · rw [if_neg e] at nx
      rw [if_neg (fun q => e ((nI_eq (by omega) (by omega)).mp q)), nI_1]
      exact nx
def pu_fl (K : pu_K) (c i : Nat) : Int32 := if pu_cnt K c i = 0 then 0 else 1
theorem pu_sendM {σ : ob_St} {K : pu_K} {c : Nat} (hK : pu_ok K) (hc : c < 5) (hM : pu_M σ K) : ∀ (k i n : Nat), i + k = K 0 0 → L_X11_send_19 (n + k) σ (nI c) (pu_fl K c i) (nI i) = L_X11_send_19 n σ (nI c) (pu_fl K c (K 0 0)) (nI (K 0 0)) := by
  have hd6 := hK.1
  intro k
  induction k with
  | zero =>
    intro i n h
    have e : i = K 0 0 := by omega
    rw [e]
    rfl
  | succ k ih =>
    intro i n h
    have hi : i < K 0 0 := by omega
    have k5 := (hK.2.1 i (by omega)).2.2.2.2.1
    have nx := ih (i + 1) n (by omega)
    rw [show n + (k + 1) = (n + k) + 1 from rfl, L_X11_send_19, hM.1, if_neg (nI_ge hi (by omega)), pu_ld (by omega) (by omega), hM.2.1 5 (by omega) (by omega) i (by omega)]
    by_cases e : K 5 i = c
    · have f : pu_fl K c (i + 1) = 1 := by
        unfold pu_fl
        rw [pu_cnt_s, if_pos e, if_neg (by omega)]
      rw [f] at nx
      rw [if_pos (show nI (K 5 i) = nI c by rw [e]), nI_1]
      exact nx
    · have f : pu_fl K c (i + 1) = pu_fl K c i := by
        unfold pu_fl
        rw [pu_cnt_s, if_neg e, Nat.add_zero]
      rw [f] at nx
      rw [if_neg (fun q => e ((nI_eq (by omega) (by omega)).mp q)), nI_1]
      exact nx
theorem pu_op_send {σx σm : ob_St} (a : Int32) (h : ob_RR σx σm) : ob_ok2 ob_RR (f_X10_send σx a) (f_X11_send σm a) := by
  obtain ⟨K, Ko, hh, T, R, ρ, hC, hX, hM⟩ := id h
  have hK := hC.1
  have ho := hC.2.1
  have hd6 := hK.1
  have h85 := hK.2.2.2.2.2.2.2.2.2.2
  unfold f_X10_send f_X11_send
  rw [pu_bd' _ (pu_isCourse σx a), pu_bd' _ pu_within]
  by_cases ha : 0 ≤ a ∧ a ≤ 4
  · obtain ⟨c, hc4, rfl⟩ := pu_ltl (n := 4) (by decide) ha.1 ha.2
    have hc : c < 5 := by omega
    rw [if_pos ha, if_neg (by decide), if_neg (by decide)]
    obtain ⟨τ, t1, t2, t3⟩ := pu_lookX hK ho hX
    have ex := pu_sendX hK ho hc t2.1.1 (fun j hj => pu_Xf t2.1 5 j (by omega) (by omega) (show j < 6 by omega)) (fun j hj => (t3.1 j hj).1) (K 0 0) 0 (1000 - K 0 0) (by omega)
    have em := pu_sendM hK hc hM.1 (K 0 0) 0 (1000 - K 0 0) (by omega)
    rw [show 1000 - K 0 0 + K 0 0 = 1000 by omega] at ex em
    rw [pu_bd' _ t1]
    have ex' : L_X10_send_22 1000 τ (nI c) (-9) 0 = _ := ex
    have em' : L_X11_send_19 1000 σm (nI c) 0 0 = _ := em
    rw [ex', em']
    obtain ⟨n, hn⟩ : ∃ z, 1000 - K 0 0 = z + 1 := ⟨999 - K 0 0, by omega⟩
    rw [hn, L_X10_send_22, L_X11_send_19, t2.1.1, hM.1.1, if_pos (nI_le (Nat.le_refl _) (by omega)), if_pos (nI_le (Nat.le_refl _) (by omega))]
    unfold pu_sv2 pu_fl
    by_cases q : pu_cnt K c (K 0 0) = 0
    · rw [if_pos q, if_pos q, if_neg (by decide), if_pos rfl]
      exact pu_ok_ref 2 (by omega) rfl rfl ⟨K, Ko, hh, T, R, ρ, hC, t2, hM⟩ rfl rfl
    · have mb := pu_mxc_le hK ho (c := c) (K 0 0) (Nat.le_refl _)
      have k7 := hK.2.2.2.2.1 c hc
      have bb : pu_begin K c ≤ 600 := by unfold pu_begin; omega
      rw [if_neg q, if_neg q, if_pos (nI_pos' (by omega)), if_neg (by decide), pu_bd' _ (pu_beginX t2.1 hK hc), pu_L6_5, pu_Xf t2.1 8 5 (by omega) (by omega) (by decide), pu_nm, pu_L6_5, hM.1.2.2.1 5 (by omega)]
      have e1 : nI (pu_begin K c) - (nI (pu_mxc K c (K 0 0)) - nI (K 8 5)) = nI (pu_begin K c + K 8 5) - nI (pu_mxc K c (K 0 0)) := by
        rw [← nI_add]
        apply Int32.toBitVec_inj.mp
        simp only [Int32.toBitVec_sub, Int32.toBitVec_add]
        bv_omega
      rw [e1]
      obtain ⟨A, hA⟩ : ∃ z, z = (if pu_mxc K c (K 0 0) ≤ pu_begin K c + K 8 5 then nI (min (pu_begin K c + K 8 5 - pu_mxc K c (K 0 0)) 400) else -9) := ⟨_, rfl⟩
      have hM0 : pu_RM (ob_up σm 7 5 (nI (K 8 5))) K Ko hh T R ρ := pu_RM_keep hM (fun j _ _ _ => by rw [pu_un _ _ _ _ (by decide)]) (fun q hq => by
        by_cases c7 : q = 7
        · subst c7
          funext i
          by_cases ci : i = 5
          · subst ci; rw [pu_uss, hM.1.2.2.1 5 (by omega)]
          · rw [pu_usn _ _ _ _ ci]
        · rw [pu_un _ _ _ _ c7])
      obtain ⟨τm, m1, m2⟩ := pu_sendL (A := A) hK ho hc (by omega) (fun h0 => by
          rw [pu_okS_iff] at h0
          rw [hA, if_neg (by omega)]) (fun S hS h1 h2 => by
          rw [pu_okS_iff] at h1
          rw [pu_okS_iff] at h2
          rw [hA, if_pos (by omega)]
          congr 1
          omega) 401 0 1000 (-9) 0 σm (by omega) (by omega) (Or.inl ⟨rfl, rfl⟩) hM0
      refine ⟨A, τ, τm, ?_, m1, K, Ko, hh, T, R, ρ, hC, t2, m2⟩
      rw [hA]
      by_cases l : pu_mxc K c (K 0 0) ≤ pu_begin K c + K 8 5
      · rw [if_pos l, pk_sub l, if_pos (nI_pos' (by omega)), show (5 : Int32) = nI 5 from rfl, pu_lt (by omega) (by omega)]
        congr 2
        unfold ob_min
        rw [show ob_great 5 = nI 400 from rfl]
        by_cases l2 : 400 < pu_begin K c + K 8 5 - pu_mxc K c (K 0 0)
        · rw [if_pos ((nI_ltI (by omega) (by omega)).mpr l2), Nat.min_eq_right (by omega)]
        · rw [if_neg (fun w => l2 ((nI_ltI (by omega) (by omega)).mp w)), Nat.min_eq_left (by omega)]
      · rw [if_neg l, if_neg (show ¬ (0 : Int32) ≤ _ from Int32.not_le.mpr (pk_sneg (by omega) (by omega)))]
  · rw [if_neg ha, if_pos rfl, if_pos rfl]
    exact pu_ok_ref 0 (by omega) rfl rfl h rfl rfl
