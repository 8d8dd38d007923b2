/-! CALLS, one by one: letters, the row, counts, the box, what the evening tells -/
theorem pu_same {σx σm : ob_St} {fx fm : Option (Int32 × ob_St)} (r : Int32) (h : ob_RR σx σm) (hx : fx = some (r, σx)) (hm : fm = some (r, σm)) : ob_ok2 ob_RR fx fm := ⟨r, σx, σm, hx, hm, h⟩
theorem pu_list_add {f : Nat → Int32} {l : List Nat} (h : pu_list f l) (x : Nat) : pu_list (upd f l.length (nI x)) (l ++ [x]) := pu_rep_add h x
theorem pu_op_letter {σx σm : ob_St} (a : Int32) (h : ob_RR σx σm) : ob_ok2 ob_RR (f_X10_letter σx a) (f_X11_letter σm a) := by
  obtain ⟨K, Ko, hh, T, R, ρ, hC, hX, hM⟩ := id h
  obtain ⟨c1, c2, c3, c4, c5, c6, c7, c8⟩ := hC
  by_cases h1 : 0 ≤ a
  · by_cases h2 : (255 : Int32) < a
    · exact pu_ok_ref 5 (by omega) rfl rfl h (by unfold f_X10_letter; rw [if_pos h1, if_pos h2]) (by unfold f_X11_letter; rw [if_pos h1, if_pos h2])
    · obtain ⟨v, hv, rfl⟩ := pu_ltl (n := 255) (by decide) h1 (Int32.not_lt.mp h2)
      have x4 := hX.2.2.2.1
      have m4 := hM.2.2.2.1
      by_cases h3 : T.length = 96
      · refine pu_ok_ref 5 (by omega) rfl rfl h (by unfold f_X10_letter; rw [if_pos h1, if_neg h2, x4, h3, if_neg (by decide)]) (by unfold f_X11_letter; rw [if_pos h1, if_neg h2, m4, h3, if_pos (show nI 96 = (96 : Int32) from rfl)])
      · have l1 : T.length < 96 := by omega
        refine ⟨nI (T.length + 1), ob_up (ob_up σx 29 T.length (nI v)) 28 1 (nI (T.length + 1)), ob_up (ob_up σm 0 9 (nI (T.length + 1))) 9 T.length (nI v), ?_, ?_, ?_⟩
        · unfold f_X10_letter f_X9_add
          rw [if_pos h1, if_neg h2, x4, if_pos (show nI T.length < 96 from (nI_ltI (by omega) (by decide : 96 < 2 ^ 31)).mpr l1), if_neg (show ¬ (96 : Int32) ≤ nI T.length from nI_ge (b := 96) (by omega) (by omega)), pu_sd l1 (by omega), pu_pf, pu_uss, pu_un _ _ _ _ (by decide), x4, nI_1, pu_bd]
        · unfold f_X11_letter
          rw [if_pos h1, if_neg h2, m4, if_neg (show ¬ nI T.length = (96 : Int32) from fun q => h3 ((nI_eq (b := 96) (by omega) (by omega)).mp q)), pu_pf, nI_1, pu_sd l1 (by omega), pu_un _ _ _ _ (by decide), pu_uss]
        · refine ⟨K, Ko, hh, T ++ [v], R, ρ, ⟨c1, c2, c3, c4, by rw [List.length_append, List.length_singleton]; omega, fun x hx => ?_, c7, c8⟩, ?_, ?_⟩
          · rcases List.mem_append.mp hx with q | q
            · exact c6 x q
            · rw [List.mem_singleton.mp q]; exact hv
          · obtain ⟨a1, a2, a3, a4, a5, a6, a7, a8⟩ := hX
            have n : ∀ q, q ≠ 28 → q ≠ 29 → ob_up (ob_up σx 29 T.length (nI v)) 28 1 (nI (T.length + 1)) q = σx q := fun q h1 h2 => by rw [pu_un _ _ _ _ h1, pu_un _ _ _ _ h2]
            refine ⟨pu_X_keep a1 (fun f hf => n _ (by omega) (by omega)), by rw [n 0 (by decide) (by decide)]; exact a2, fun e => pu_X_keep (a3 e) (fun f hf => n _ (by omega) (by omega)), by rw [pu_uss, List.length_append, List.length_singleton], by rw [pu_un _ _ _ _ (by decide), pu_us]; exact pu_list_add a5 v, by rw [n 0 (by decide) (by decide)]; exact a6, by rw [n 50 (by decide) (by decide)]; exact a7, fun j hj => by rw [n 51 (by decide) (by decide)]; exact a8 j hj⟩
          · obtain ⟨a1, a2, a3, a4, a5, a6, a7, a8⟩ := hM
            have n : ∀ q, q ≠ 0 → q ≠ 9 → ob_up (ob_up σm 0 9 (nI (T.length + 1))) 9 T.length (nI v) q = σm q := fun q h1 h2 => by rw [pu_un _ _ _ _ h2, pu_un _ _ _ _ h1]
            have n0 : ∀ j, j ≠ 9 → ob_up (ob_up σm 0 9 (nI (T.length + 1))) 9 T.length (nI v) 0 j = σm 0 j := fun j hj => by rw [pu_un _ _ _ _ (by decide), pu_usn _ _ _ _ hj]
            refine ⟨pu_M_keep a1 (n0 0 (by decide)) (fun q h1 h2 => n q (by omega) (by omega)), by rw [n0 16 (by decide)]; exact a2, fun e => pu_O_keep (a3 e) (n 13 (by decide) (by decide)), by rw [pu_un _ _ _ _ (by decide), pu_uss, List.length_append, List.length_singleton], by rw [pu_us, pu_un _ _ _ _ (by decide)]; exact pu_list_add a5 v, by rw [n0 13 (by decide)]; exact a6, by rw [n 11 (by decide) (by decide)]; exact a7, fun j hj => by rw [n 12 (by decide) (by decide)]; exact a8 j hj⟩
  · exact pu_ok_ref 3 (by omega) rfl rfl h (by unfold f_X10_letter; rw [if_neg h1]) (by unfold f_X11_letter; rw [if_neg h1])
theorem pu_op_row {σx σm : ob_St} (a : Int32) (h : ob_RR σx σm) : ob_ok2 ob_RR (f_X10_row σx a) (f_X11_row σm a) := by
  obtain ⟨K, Ko, hh, T, R, ρ, hC, hX, hM⟩ := id h
  obtain ⟨c1, c2, c3, c4, c5, c6, c7, c8⟩ := hC
  by_cases h1 : 0 ≤ a
  · by_cases h2 : (99 : Int32) < a
    · exact pu_ok_ref 5 (by omega) rfl rfl h (by unfold f_X10_row; rw [if_pos h1, if_pos h2]) (by unfold f_X11_row; rw [if_pos h1, if_pos h2])
    · obtain ⟨v, hv, rfl⟩ := pu_ltl (n := 99) (by decide) h1 (Int32.not_lt.mp h2)
      have x4 := hX.2.2.2.2.2.1
      have m4 := hM.2.2.2.2.2.1
      by_cases h3 : R.length = 12
      · refine pu_ok_ref 5 (by omega) rfl rfl h (by unfold f_X10_row; rw [if_pos h1, if_neg h2, x4, h3, if_neg (by decide)]) (by unfold f_X11_row; rw [if_pos h1, if_neg h2, m4, h3, if_pos (show nI 12 = (12 : Int32) from rfl)])
      · have l1 : R.length < 12 := by omega
        refine ⟨nI (R.length + 1), ob_up (ob_up σx 50 R.length (nI v)) 0 9 (nI (R.length + 1)), ob_up (ob_up σm 0 13 (nI (R.length + 1))) 11 R.length (nI v), ?_, ?_, ?_⟩
        · unfold f_X10_row
          rw [if_pos h1, if_neg h2, x4, if_pos (show nI R.length < 12 from (nI_ltI (by omega) (by decide : 12 < 2 ^ 31)).mpr l1), pu_sd l1 (by omega), pu_pf, pu_uss, pu_un _ _ _ _ (by decide), x4, nI_1]
        · unfold f_X11_row
          rw [if_pos h1, if_neg h2, m4, if_neg (show ¬ nI R.length = (12 : Int32) from fun q => h3 ((nI_eq (b := 12) (by omega) (by omega)).mp q)), pu_pf, nI_1, pu_sd l1 (by omega), pu_un _ _ _ _ (by decide), pu_uss]
        · refine ⟨K, Ko, hh, T, R ++ [v], ρ, ⟨c1, c2, c3, c4, c5, c6, by rw [List.length_append, List.length_singleton]; omega, fun x hx => ?_⟩, ?_, ?_⟩
          · rcases List.mem_append.mp hx with q | q
            · exact c8 x q
            · rw [List.mem_singleton.mp q]; exact hv
          · obtain ⟨a1, a2, a3, a4, a5, a6, a7, a8⟩ := hX
            have n : ∀ q, q ≠ 0 → q ≠ 50 → ob_up (ob_up σx 50 R.length (nI v)) 0 9 (nI (R.length + 1)) q = σx q := fun q h1 h2 => by rw [pu_un _ _ _ _ h1, pu_un _ _ _ _ h2]
            refine ⟨pu_X_keep a1 (fun f hf => n _ (by omega) (by omega)), by rw [pu_usn _ _ _ _ (by decide), pu_un _ _ _ _ (by decide)]; exact a2, fun e => pu_X_keep (a3 e) (fun f hf => n _ (by omega) (by omega)), by rw [n 28 (by decide) (by decide)]; exact a4, by rw [n 29 (by decide) (by decide)]; exact a5, by rw [pu_uss, List.length_append, List.length_singleton], by rw [pu_un _ _ _ _ (by decide), pu_us]; exact pu_list_add a7 v, fun j hj => by rw [n 51 (by decide) (by decide)]; exact a8 j hj⟩
          · obtain ⟨a1, a2, a3, a4, a5, a6, a7, a8⟩ := hM
            have n : ∀ q, q ≠ 0 → q ≠ 11 → ob_up (ob_up σm 0 13 (nI (R.length + 1))) 11 R.length (nI v) q = σm q := fun q h1 h2 => by rw [pu_un _ _ _ _ h2, pu_un _ _ _ _ h1]
            have n0 : ∀ j, j ≠ 13 → ob_up (ob_up σm 0 13 (nI (R.length + 1))) 11 R.length (nI v) 0 j = σm 0 j := fun j hj => by rw [pu_un _ _ _ _ (by decide), pu_usn _ _ _ _ hj]
            refine ⟨pu_M_keep a1 (n0 0 (by decide)) (fun q h1 h2 => n q (by omega) (by omega)), by rw [n0 16 (by decide)]; exact a2, fun e => pu_O_keep (a3 e) (n 13 (by decide) (by decide)), by rw [n0 9 (by decide)]; exact a4, by rw [n 9 (by decide) (by decide)]; exact a5, by rw [pu_un _ _ _ _ (by decide), pu_uss, List.length_append, List.length_singleton], by rw [pu_us, pu_un _ _ _ _ (by decide)]; exact pu_list_add a7 v, fun j hj => by rw [n 12 (by decide) (by decide)]; exact a8 j hj⟩
  · exact pu_ok_ref 3 (by omega) rfl rfl h (by unfold f_X10_row; rw [if_neg h1]) (by unfold f_X11_row; rw [if_neg h1])
theorem pu_sumM1 {σ : ob_St} {d : Nat} {f : Nat → Nat} (h : σ 0 0 = nI d) (hd : d ≤ 6) (hf : ∀ j, j < d → σ 2 j = nI (f j)) : L_X11_count_63 1000 σ 0 0 = some (nI (pu_sum f d), σ) := by
  have key : ∀ (k i n : Nat), i + k = d → k < n → L_X11_count_63 n σ (nI (pu_sum f i)) (nI i) = some (nI (pu_sum f d), σ) := by
    intro k
    induction k with
    | zero =>
      intro i n hi hn
      obtain ⟨n, rfl⟩ : ∃ z, n = z + 1 := ⟨n - 1, by omega⟩
      rw [L_X11_count_63, h, if_pos (nI_le (by omega) (by omega)), show i = d by omega]
    | succ k ih =>
      intro i n hi hn
      obtain ⟨n, rfl⟩ : ∃ z, n = z + 1 := ⟨n - 1, by omega⟩
      rw [L_X11_count_63, h, if_neg (nI_ge (by omega) (by omega)), pu_ld (by omega) (by omega), hf i (by omega), pu_nm, nI_add, nI_1]
      exact ih (i + 1) n (by omega) (by omega)
  exact key d 0 1000 (by omega) (by omega)
theorem pu_sumM2 {σ : ob_St} {d : Nat} {f : Nat → Nat} (h : σ 0 0 = nI d) (hd : d ≤ 6) (hf : ∀ j, j < d → σ 4 j = nI (f j)) : L_X11_count_90 1000 σ 0 0 = some (nI (pu_sum f d), σ) := by
  have key : ∀ (k i n : Nat), i + k = d → k < n → L_X11_count_90 n σ (nI (pu_sum f i)) (nI i) = some (nI (pu_sum f d), σ) := by
    intro k
    induction k with
    | zero =>
      intro i n hi hn
      obtain ⟨n, rfl⟩ : ∃ z, n = z + 1 := ⟨n - 1, by omega⟩
      rw [L_X11_count_90, h, if_pos (nI_le (by omega) (by omega)), show i = d by omega]
    | succ k ih =>
      intro i n hi hn
      obtain ⟨n, rfl⟩ : ∃ z, n = z + 1 := ⟨n - 1, by omega⟩
      rw [L_X11_count_90, h, if_neg (nI_ge (by omega) (by omega)), pu_ld (by omega) (by omega), hf i (by omega), pu_nm, nI_add, nI_1]
      exact ih (i + 1) n (by omega) (by omega)
  exact key d 0 1000 (by omega) (by omega)
theorem pu_op_count {σx σm : ob_St} (a : Int32) (h : ob_RR σx σm) : ob_ok2 ob_RR (f_X10_count σx a) (f_X11_count σm a) := by
  obtain ⟨K, Ko, hh, T, R, ρ, hC, hX, hM⟩ := id h
  have hd6 := hC.1.1
  have bx : ∀ j, j < 6 → σx 9 j = nI (K 8 j) := fun j hj => pu_Xf hX.1 8 j (by omega) (by omega) hj
  have bm := hM.1.2.2.1
  by_cases c0 : a = 0
  · exact pu_same (nI (K 0 0)) h (by unfold f_X10_count; rw [if_pos c0, hX.1.1]) (by unfold f_X11_count; rw [if_pos c0, hM.1.1])
  by_cases c1 : a = 1
  · exact pu_same (nI (pu_sum (K 2) (K 0 0))) h (by unfold f_X10_count; rw [if_neg c0, if_pos c1, pu_sumOf hX.1.1 hd6 (fun j hj => pu_Xf hX.1 2 j (by omega) (by omega) (show j < 6 by omega)), pu_bd]) (by unfold f_X11_count; rw [if_neg c0, if_pos c1]; exact pu_sumM1 hM.1.1 hd6 (fun j hj => hM.1.2.1 2 (by omega) (by omega) j (by omega)))
  by_cases c2 : a = 2
  · exact pu_same (nI (pu_sum (K 4) (K 0 0))) h (by unfold f_X10_count; rw [if_neg c0, if_neg c1, if_pos c2, pu_sumOf hX.1.1 hd6 (fun j hj => pu_Xf hX.1 4 j (by omega) (by omega) (show j < 6 by omega)), pu_bd]) (by unfold f_X11_count; rw [if_neg c0, if_neg c1, if_pos c2]; exact pu_sumM2 hM.1.1 hd6 (fun j hj => hM.1.2.1 4 (by omega) (by omega) j (by omega)))
  by_cases c3 : a = 3
  · exact pu_same (nI (K 8 0)) h (by unfold f_X10_count; rw [if_neg c0, if_neg c1, if_neg c2, if_pos c3, pu_lit0, pu_ld (by omega) (by omega), bx 0 (by omega)]) (by unfold f_X11_count; rw [if_neg c0, if_neg c1, if_neg c2, if_pos c3, pu_lit0, pu_ld (by omega) (by omega), bm 0 (by omega)])
  by_cases c4 : a = 4
  · exact pu_same (nI (K 8 2)) h (by unfold f_X10_count; rw [if_neg c0, if_neg c1, if_neg c2, if_neg c3, if_pos c4, pu_L6_2, bx 2 (by omega)]) (by unfold f_X11_count; rw [if_neg c0, if_neg c1, if_neg c2, if_neg c3, if_pos c4, pu_L6_2, bm 2 (by omega)])
  by_cases c5 : a = 5
  · exact pu_same (nI (K 8 3)) h (by unfold f_X10_count; rw [if_neg c0, if_neg c1, if_neg c2, if_neg c3, if_neg c4, if_pos c5, pu_L6_3, bx 3 (by omega)]) (by unfold f_X11_count; rw [if_neg c0, if_neg c1, if_neg c2, if_neg c3, if_neg c4, if_pos c5, pu_L6_3, bm 3 (by omega)])
  by_cases c6 : a = 6
  · exact pu_same (nI (K 8 4)) h (by unfold f_X10_count; rw [if_neg c0, if_neg c1, if_neg c2, if_neg c3, if_neg c4, if_neg c5, if_pos c6, pu_L6_4, bx 4 (by omega)]) (by unfold f_X11_count; rw [if_neg c0, if_neg c1, if_neg c2, if_neg c3, if_neg c4, if_neg c5, if_pos c6, pu_L6_4, bm 4 (by omega)])
  by_cases c7 : a = 7
  · exact pu_same (nI (K 8 5)) h (by unfold f_X10_count; rw [if_neg c0, if_neg c1, if_neg c2, if_neg c3, if_neg c4, if_neg c5, if_neg c6, if_pos c7, pu_L6_5, bx 5 (by omega)]) (by unfold f_X11_count; rw [if_neg c0, if_neg c1, if_neg c2, if_neg c3, if_neg c4, if_neg c5, if_neg c6, if_pos c7, pu_L6_5, bm 5 (by omega)])
  by_cases c8 : a = 8
  · exact pu_same (nI R.length) h (by unfold f_X10_count; rw [if_neg c0, if_neg c1, if_neg c2, if_neg c3, if_neg c4, if_neg c5, if_neg c6, if_neg c7, if_pos c8, hX.2.2.2.2.2.1]) (by unfold f_X11_count; rw [if_neg c0, if_neg c1, if_neg c2, if_neg c3, if_neg c4, if_neg c5, if_neg c6, if_neg c7, if_pos c8, hM.2.2.2.2.2.1])
  by_cases c9 : a = 9
  · exact pu_same (nI T.length) h (by unfold f_X10_count; rw [if_neg c0, if_neg c1, if_neg c2, if_neg c3, if_neg c4, if_neg c5, if_neg c6, if_neg c7, if_neg c8, if_pos c9, hX.2.2.2.1]) (by unfold f_X11_count; rw [if_neg c0, if_neg c1, if_neg c2, if_neg c3, if_neg c4, if_neg c5, if_neg c6, if_neg c7, if_neg c8, if_pos c9, hM.2.2.2.1])
  have m1 := pu_within (σ := σm) (x := a) (a := 11) (b := 16)
  by_cases c : 11 ≤ a ∧ a ≤ 16
  · rw [if_pos c] at m1
    obtain ⟨n, hn, rfl⟩ := pu_ltl (n := 16) (by decide) (Int32.le_trans (show (0 : Int32) ≤ 11 by decide) c.1) c.2
    have hn1 : 11 ≤ n := (nI_leI (a := 11) (by omega) (by omega)).mp c.1
    refine pu_same (ρ (n - 11)) h ?_ ?_
    · unfold f_X10_count
      rw [if_neg c0, if_neg c1, if_neg c2, if_neg c3, if_neg c4, if_neg c5, if_neg c6, if_neg c7, if_neg c8, if_neg c9, if_neg (Int32.not_lt.mpr c.1), if_neg (Int32.not_lt.mpr c.2), show nI n - 11 = nI (n - 11) from pk_sub (b := 11) hn1, pu_ld (by omega) (by omega), hX.2.2.2.2.2.2.2 _ (by omega)]
    · unfold f_X11_count
      rw [if_neg c0, if_neg c1, if_neg c2, if_neg c3, if_neg c4, if_neg c5, if_neg c6, if_neg c7, if_neg c8, if_neg c9, pu_bd' _ m1, if_neg (by decide), show nI n - 10 = nI (n - 10) from pk_sub (b := 10) (by omega), show n - 10 = n - 11 + 1 by omega, pu_ld (by omega) (by omega), hM.2.2.2.2.2.2.2 _ (by omega)]
  · rw [if_neg c] at m1
    refine pu_same (-9) h ?_ ?_
    · unfold f_X10_count
      rw [if_neg c0, if_neg c1, if_neg c2, if_neg c3, if_neg c4, if_neg c5, if_neg c6, if_neg c7, if_neg c8, if_neg c9]
      by_cases z1 : a < 11
      · rw [if_pos z1]
      · rw [if_neg z1, if_pos (Int32.not_le.mp (fun q => c ⟨Int32.not_lt.mp z1, q⟩))]
    · unfold f_X11_count
      rw [if_neg c0, if_neg c1, if_neg c2, if_neg c3, if_neg c4, if_neg c5, if_neg c6, if_neg c7, if_neg c8, if_neg c9, pu_bd' _ m1, if_pos rfl]
