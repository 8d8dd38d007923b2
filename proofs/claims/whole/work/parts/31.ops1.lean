/-! CALLS, one by one -/
theorem pu_RR_K {σx σm τx τm : ob_St} {K K' Ko : pu_K} {h : Nat} {T R : List Nat} {ρ : Nat → Int32} (hC : pu_RC K Ko h T R) (hX : pu_RX σx K Ko h T R ρ) (hM : pu_RM σm K Ko h T R ρ) (hk : pu_ok K') (ho : pu_ord K' (K' 6)) (hX' : pu_X 1 τx K') (hM' : pu_M τm K') (fx : ∀ q, q = 0 ∨ (19 ≤ q ∧ q ≤ 29) ∨ q = 50 ∨ q = 51 → τx q = σx q) (fm0 : ∀ j, j ≠ 0 → j ≠ 11 → j ≠ 21 → j ≠ 22 → τm 0 j = σm 0 j) (fm : ∀ q, q = 9 ∨ q = 11 ∨ q = 12 ∨ q = 13 → τm q = σm q) : ob_RR τx τm := by
  refine ⟨K', Ko, h, T, R, ρ, ⟨hk, ho, hC.2.2⟩, ?_, ?_⟩
  · obtain ⟨a1, a2, a3, a4, a5, a6, a7, a8⟩ := hX
    exact ⟨hX', by rw [fx 0 (Or.inl rfl)]; exact a2, fun e => pu_X_keep (a3 e) (fun f hf => fx _ (Or.inr (Or.inl (by omega)))), by rw [fx 28 (Or.inr (Or.inl (by omega)))]; exact a4, by rw [fx 29 (Or.inr (Or.inl (by omega)))]; exact a5, by rw [fx 0 (Or.inl rfl)]; exact a6, by rw [fx 50 (Or.inr (Or.inr (Or.inl rfl)))]; exact a7, fun j hj => by rw [fx 51 (Or.inr (Or.inr (Or.inr rfl)))]; exact a8 j hj⟩
  · obtain ⟨a1, a2, a3, a4, a5, a6, a7, a8⟩ := hM
    exact ⟨hM', by rw [fm0 16 (by decide) (by decide) (by decide) (by decide)]; exact a2, fun e => pu_O_keep (a3 e) (fm 13 (Or.inr (Or.inr (Or.inr rfl)))), by rw [fm0 9 (by decide) (by decide) (by decide) (by decide)]; exact a4, by rw [fm 9 (Or.inl rfl)]; exact a5, by rw [fm0 13 (by decide) (by decide) (by decide) (by decide)]; exact a6, by rw [fm 11 (Or.inr (Or.inl rfl))]; exact a7, fun j hj => by rw [fm 12 (Or.inr (Or.inr (Or.inl rfl)))]; exact a8 j hj⟩
def pu_upK (K : pu_K) (f n v : Nat) : pu_K := fun f' j' => if f' = f ∧ j' = n then v else K f' j'
theorem pu_X_up {b f n v : Nat} {σ : ob_St} {K : pu_K} (h : pu_X b σ K) (hf : 1 ≤ f) : pu_X b (ob_up σ (b + f) n (nI v)) (pu_upK K f n v) := by
  refine ⟨?_, fun f' h1 h2 j hj => ?_⟩
  · rw [pu_un _ _ _ _ (by omega)]
    unfold pu_upK
    rw [if_neg (by omega)]
    exact h.1
  · unfold pu_upK
    by_cases c : f' = f ∧ j = n
    · rw [if_pos c, c.1, c.2, pu_uss]
    · rw [if_neg c, pu_unn _ _ _ _ (by omega)]
      exact h.2 f' h1 h2 j hj
theorem pu_M_upF {f n v : Nat} {σ : ob_St} {K : pu_K} (h : pu_M σ K) (h1 : 1 ≤ f) (h2 : f ≤ 6) : pu_M (ob_up σ f n (nI v)) (pu_upK K f n v) := by
  refine ⟨?_, fun f' h3 h4 j hj => ?_, fun j hj => ?_, fun j hj => ?_⟩
  · rw [pu_un _ _ _ _ (by omega)]; unfold pu_upK; rw [if_neg (by omega)]; exact h.1
  · unfold pu_upK
    by_cases c : f' = f ∧ j = n
    · rw [if_pos c, c.1, c.2, pu_uss]
    · rw [if_neg c, pu_unn _ _ _ _ (by omega)]
      exact h.2.1 f' h3 h4 j hj
  · rw [pu_un _ _ _ _ (by omega)]; unfold pu_upK; rw [if_neg (by omega)]; exact h.2.2.1 j hj
  · rw [pu_un _ _ _ _ (by omega)]; unfold pu_upK; rw [if_neg (by omega)]; exact h.2.2.2 j hj
theorem pu_M_upB {n v : Nat} {σ : ob_St} {K : pu_K} (h : pu_M σ K) : pu_M (ob_up σ 7 n (nI v)) (pu_upK K 8 n v) := by
  refine ⟨?_, fun f' h3 h4 j hj => ?_, fun j hj => ?_, fun j hj => ?_⟩
  · rw [pu_un _ _ _ _ (by omega)]; unfold pu_upK; rw [if_neg (by omega)]; exact h.1
  · rw [pu_un _ _ _ _ (by omega)]; unfold pu_upK; rw [if_neg (by omega)]; exact h.2.1 f' h3 h4 j hj
  · unfold pu_upK
    by_cases c : j = n
    · rw [if_pos ⟨rfl, c⟩, c, pu_uss]
    · rw [if_neg (fun q => c q.2), pu_usn _ _ _ _ c]; exact h.2.2.1 j hj
  · rw [pu_un _ _ _ _ (by omega)]; unfold pu_upK; rw [if_neg (by omega)]; exact h.2.2.2 j hj
theorem pu_M_upT {n v : Nat} {σ : ob_St} {K : pu_K} (h : pu_M σ K) : pu_M (ob_up σ 8 n (nI v)) (pu_upK K 7 n v) := by
  refine ⟨?_, fun f' h3 h4 j hj => ?_, fun j hj => ?_, fun j hj => ?_⟩
  · rw [pu_un _ _ _ _ (by omega)]; unfold pu_upK; rw [if_neg (by omega)]; exact h.1
  · rw [pu_un _ _ _ _ (by omega)]; unfold pu_upK; rw [if_neg (by omega)]; exact h.2.1 f' h3 h4 j hj
  · rw [pu_un _ _ _ _ (by omega)]; unfold pu_upK; rw [if_neg (by omega)]; exact h.2.2.1 j hj
  · unfold pu_upK
    by_cases c : j = n
    · rw [if_pos ⟨rfl, c⟩, c, pu_uss]
    · rw [if_neg (fun q => c q.2), pu_usn _ _ _ _ c]; exact h.2.2.2 j hj
theorem pu_ltl {v : Int32} {n : Nat} (hn : n < 2 ^ 31) (h0 : 0 ≤ v) (h : v ≤ nI n) : ∃ k, k ≤ n ∧ v = nI k := by
  obtain ⟨j, hj, rfl⟩ := nI_of (Int32.not_lt.mpr h0)
  exact ⟨j, (nI_leI hj hn).mp h, rfl⟩
theorem pu_op_heat {σx σm : ob_St} (a b : Int32) (h : ob_RR σx σm) : ob_ok2 ob_RR (f_X10_heat σx a b) (f_X11_heat σm a b) := by
  obtain ⟨K, Ko, hh, T, R, ρ, hC, hX, hM⟩ := id h
  have hK := hC.1
  have hd6 := hK.1
  have x1 := pu_hasDish hX.1 hK a
  have m1 := pu_isDish hd6 hM.1.1 a
  by_cases hd : 0 ≤ a ∧ a < nI (K 0 0)
  · rw [if_pos hd] at x1 m1
    by_cases h1 : 0 ≤ b
    · by_cases h2 : b ≤ 99
      · obtain ⟨n, hn, rfl⟩ := pu_num (by omega) hd
        obtain ⟨v, hv, rfl⟩ := pu_ltl (n := 99) (by decide) h1 h2
        have e1 := pu_Xf hX.1 3 n (by omega) (by omega) (show n < 6 by omega)
        have e2 := hM.1.2.1 3 (by omega) (by omega) n (by omega)
        refine ⟨nI (K 3 n), ob_up σx 4 n (nI v), ob_up σm 3 n (nI v), ?_, ?_, ?_⟩
        · unfold f_X10_heat
          rw [pu_bd' _ x1, if_neg (by decide), if_pos h1, if_pos h2, pu_ld (by omega) (by omega), e1, pu_sd (by omega) (by omega)]
        · unfold f_X11_heat
          rw [pu_bd' _ m1, if_neg (by decide), if_pos h1, if_pos h2, pu_ld (by omega) (by omega), e2, pu_sd (by omega) (by omega)]
        · refine pu_RR_K (K' := pu_upK K 3 n v) hC hX hM ?_ ?_ (pu_X_up (b := 1) (f := 3) hX.1 (by omega)) (pu_M_upF hM.1 (by omega) (by omega)) (fun q hq => pu_un _ _ _ _ (by omega)) (fun j _ _ _ _ => by rw [pu_un _ _ _ _ (by omega)]) (fun q hq => pu_un _ _ _ _ (by omega))
          · obtain ⟨k1, k2, k3, k4, k5, k6, k7, k8, k9, k10, k11⟩ := hK
            refine ⟨k1, fun j hj => ?_, k3, k4, k5, k6, k7, k8, k9, k10, k11⟩
            obtain ⟨z1, z2, z3, z4, z5, z6⟩ := k2 j hj
            refine ⟨z1, z2, ?_, z4, z5, z6⟩
            unfold pu_upK
            split <;> omega
          · exact hC.2.1
      · exact pu_ok_ref 5 (by omega) rfl rfl h (by unfold f_X10_heat; rw [pu_bd' _ x1, if_neg (by decide), if_pos h1, if_neg h2]) (by unfold f_X11_heat; rw [pu_bd' _ m1, if_neg (by decide), if_pos h1, if_neg h2])
    · exact pu_ok_ref 3 (by omega) rfl rfl h (by unfold f_X10_heat; rw [pu_bd' _ x1, if_neg (by decide), if_neg h1]) (by unfold f_X11_heat; rw [pu_bd' _ m1, if_neg (by decide), if_neg h1])
  · rw [if_neg hd] at x1 m1
    exact pu_ok_ref 0 (by omega) rfl rfl h (by unfold f_X10_heat; rw [pu_bd' _ x1, if_pos rfl]) (by unfold f_X11_heat; rw [pu_bd' _ m1, if_pos rfl])
theorem pu_isCourse (σ : ob_St) (x : Int32) : f_X10_isCourse σ x = some (if 0 ≤ x ∧ x ≤ 4 then 1 else 0, σ) := by
  unfold f_X10_isCourse
  by_cases h1 : x < 0
  · rw [if_pos h1, if_neg (fun q => Int32.lt_irrefl (Int32.lt_of_lt_of_le h1 q.1))]; rfl
  · rw [if_neg h1]
    have h0 := Int32.not_lt.mp h1
    by_cases h2 : (5 : Int32) ≤ x
    · rw [if_pos h2, if_neg (fun q => absurd (Int32.le_trans h2 q.2) (by decide))]; rfl
    · have h3 : x ≤ 4 := by
        obtain ⟨j, hj, rfl⟩ := nI_of h1
        have : ¬ 5 ≤ j := fun q => h2 (nI_le (a := 5) q hj)
        exact nI_le (b := 4) (by omega) (by omega)
      rw [if_neg h2, if_pos ⟨h0, h3⟩]; rfl
theorem pu_op_begins {σx σm : ob_St} (a b : Int32) (h : ob_RR σx σm) : ob_ok2 ob_RR (f_X10_begins σx a b) (f_X11_begins σm a b) := by
  obtain ⟨K, Ko, hh, T, R, ρ, hC, hX, hM⟩ := id h
  have hK := hC.1
  have x1 := pu_isCourse σx a
  have m1 := pu_within (σ := σm) (x := a) (a := 0) (b := 4)
  by_cases hd : 0 ≤ a ∧ a ≤ 4
  · rw [if_pos hd] at x1 m1
    by_cases h1 : 0 ≤ b
    · by_cases h2 : b ≤ 99
      · obtain ⟨n, hn, rfl⟩ := pu_ltl (n := 4) (by decide) hd.1 hd.2
        obtain ⟨v, hv, rfl⟩ := pu_ltl (n := 99) (by decide) h1 h2
        have e1 := pu_Xf hX.1 7 n (by omega) (by omega) (show n < 5 by omega)
        have e2 := hM.1.2.2.2 n (by omega)
        refine ⟨nI (K 7 n), ob_up σx 8 n (nI v), ob_up σm 8 n (nI v), ?_, ?_, ?_⟩
        · unfold f_X10_begins
          rw [pu_bd' _ x1, if_neg (by decide), if_pos h1, if_pos h2, pu_ld (by omega) (by omega), e1, pu_sd (by omega) (by omega)]
        · unfold f_X11_begins
          rw [pu_bd' _ m1, if_neg (by decide), if_pos h1, if_pos h2, pu_ld (by omega) (by omega), e2, pu_sd (by omega) (by omega)]
        · refine pu_RR_K (K' := pu_upK K 7 n v) hC hX hM ?_ ?_ (pu_X_up (b := 1) (f := 7) hX.1 (by omega)) (pu_M_upT hM.1) (fun q hq => pu_un _ _ _ _ (by omega)) (fun j _ _ _ _ => by rw [pu_un _ _ _ _ (by omega)]) (fun q hq => pu_un _ _ _ _ (by omega))
          · obtain ⟨k1, k2, k3, k4, k5, k6, k7, k8, k9, k10, k11⟩ := hK
            refine ⟨k1, k2, k3, k4, fun j hj => ?_, k6, k7, k8, k9, k10, k11⟩
            have := k5 j hj
            unfold pu_upK
            split <;> omega
          · exact hC.2.1
      · exact pu_ok_ref 5 (by omega) rfl rfl h (by unfold f_X10_begins; rw [pu_bd' _ x1, if_neg (by decide), if_pos h1, if_neg h2]) (by unfold f_X11_begins; rw [pu_bd' _ m1, if_neg (by decide), if_pos h1, if_neg h2])
    · exact pu_ok_ref 3 (by omega) rfl rfl h (by unfold f_X10_begins; rw [pu_bd' _ x1, if_neg (by decide), if_neg h1]) (by unfold f_X11_begins; rw [pu_bd' _ m1, if_neg (by decide), if_neg h1])
  · rw [if_neg hd] at x1 m1
    exact pu_ok_ref 0 (by omega) rfl rfl h (by unfold f_X10_begins; rw [pu_bd' _ x1, if_pos rfl]) (by unfold f_X11_begins; rw [pu_bd' _ m1, if_pos rfl])
theorem pu_op_goes {σx σm : ob_St} (a : Int32) (h : ob_RR σx σm) : ob_ok2 ob_RR (f_X10_goes σx a) (f_X11_goes σm a) := by
  obtain ⟨K, Ko, hh, T, R, ρ, hC, hX, hM⟩ := id h
  have hK := hC.1
  by_cases h1 : 0 ≤ a
  · by_cases h2 : a ≤ 99
    · obtain ⟨v, hv, rfl⟩ := pu_ltl (n := 99) (by decide) h1 h2
      refine ⟨nI (pu_secs K v), σx, σm, ?_, ?_, h⟩
      · unfold f_X10_goes; rw [if_pos h1, if_pos h2, pu_bd' _ (pu_secX hX.1 hK hv)]
      · unfold f_X11_goes; rw [if_pos h1, if_pos h2, pu_bd' _ (pu_secM (pu_M_M0 hM.1) hK hv)]
    · exact pu_ok_ref 5 (by omega) rfl rfl h (by unfold f_X10_goes; rw [if_pos h1, if_neg h2]) (by unfold f_X11_goes; rw [if_pos h1, if_neg h2])
  · exact pu_ok_ref 3 (by omega) rfl rfl h (by unfold f_X10_goes; rw [if_neg h1]) (by unfold f_X11_goes; rw [if_neg h1])
theorem pu_op_place {σx σm : ob_St} (a : Int32) (h : ob_RR σx σm) : ob_ok2 ob_RR (f_X10_place σx a) (f_X11_place σm a) := by
  obtain ⟨K, Ko, hh, T, R, ρ, hC, hX, hM⟩ := id h
  have hK := hC.1
  have hd6 := hK.1
  have x1 := pu_hasDish hX.1 hK a
  have m1 := pu_isDish hd6 hM.1.1 a
  by_cases hd : 0 ≤ a ∧ a < nI (K 0 0)
  · rw [if_pos hd] at x1 m1
    obtain ⟨n, hn, rfl⟩ := pu_num (by omega) hd
    have e1 := pu_Xf hX.1 6 n (by omega) (by omega) (show n < 6 by omega)
    have e2 := hM.1.2.1 6 (by omega) (by omega) n (by omega)
    refine ⟨nI (K 6 n), σx, σm, ?_, ?_, h⟩
    · unfold f_X10_place; rw [pu_bd' _ x1, if_neg (by decide), pu_ld (by omega) (by omega), e1]
    · unfold f_X11_place; rw [pu_bd' _ m1, if_neg (by decide), pu_ld (by omega) (by omega), e2]
  · rw [if_neg hd] at x1 m1
    exact pu_ok_ref 0 (by omega) rfl rfl h (by unfold f_X10_place; rw [pu_bd' _ x1, if_pos rfl]) (by unfold f_X11_place; rw [pu_bd' _ m1, if_pos rfl])
