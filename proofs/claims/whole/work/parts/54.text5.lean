/-! KITCHEN: the second reading of a DISH, and of any statement -/
section PUQ
variable {t : Nat → Nat} {L i : Nat} {σx σm : ob_St} {K : pu_K}
theorem pu_st_d (hL : L ≤ 96) (hb : ∀ j, t j ≤ 255) (hi : i < L) (hc : t i = 100) (hz : pu_ms t L (1 :: List.replicate 5 0) (i + 1) = i + 1 + 6) (hK : pu_ok K) (ho : pu_ord K (K 6)) (hs : σx 28 1 = nI L) (ht : ∀ j, j < L → σx 29 j = nI (t j)) (hX : pu_X 10 σx K) (hW : pu_W t L σm i σm) (hM : pu_M σm K) : pu_stp t L i σx σm := by
  have hd6 := hK.1
  have W1 := pu_W_at hW (p := i + 1) (by omega)
  have hz2 : i + 1 < L ∧ pu_su 1 (t (i + 1)) = true := by
    refine Classical.byContradiction (fun n => ?_)
    rw [pu_ms, if_neg n] at hz
    omega
  rw [pu_ms, if_pos hz2] at hz
  have hz3 : pu_ms t L (List.replicate 5 0) (i + 1 + 1) = i + 1 + 1 + 5 := by omega
  have ks := (pu_su1 _).mp hz2.2
  obtain ⟨σ1, d1, d2, d3, d4, d5⟩ := pu_preM (k := 5) hL hb (by omega) (pu_W_at W1 (p := i + 1 + 1) (by omega)) hz3 hM
  have d1' : f_X11_digits (ob_up (ob_up σm 0 11 (nI (i + 1))) 0 11 (nI (i + 1 + 1))) 5 = some (1, σ1) := d1
  have hd := pu_hdR (i := i + 1) hz3
  have dg : ∀ z, z < 5 → t (i + 1 + 1 + z) - 48 ≤ 9 := fun z hz => by have := (pu_su0 _).mp (hd z hz).2; omega
  have el : (pu_by (pu_fot (t i))).length = 6 := by rw [hc]; rfl
  obtain ⟨k, hk⟩ : ∃ z, z = pu_ki (t (i + 1)) := ⟨_, rfl⟩
  obtain ⟨w, hw⟩ : ∃ z, z = t (i + 1 + 1) - 48 := ⟨_, rfl⟩
  obtain ⟨h, hh⟩ : ∃ z, z = 10 * (t (i + 1 + 1 + 1) - 48) + (t (i + 1 + 1 + 1 + 1) - 48) := ⟨_, rfl⟩
  obtain ⟨p, hp⟩ : ∃ z, z = t (i + 1 + 1 + 3) - 48 := ⟨_, rfl⟩
  obtain ⟨c, hcc⟩ : ∃ z, z = t (i + 1 + 1 + 4) - 48 := ⟨_, rfl⟩
  have b0 : t (i + 1 + 1) - 48 ≤ 9 := dg 0 (by omega)
  have b1 := dg 1 (by omega)
  have b2 : t (i + 1 + 1 + 1 + 1) - 48 ≤ 9 := dg 2 (by omega)
  have b3 := dg 3 (by omega)
  have b4 := dg 4 (by omega)
  have kv : pu_kv (t (i + 1)) = nI k := by rw [pu_kv_in ks, hk]
  have n1 : f_X9_number σx (nI i + 2) 1 = some (nI w, σx) := by
    have n := pu_numS (s := σx) (i := i + 1) hL hs ht rfl rfl hd 0 1 1 rfl (by omega) (by omega)
    rw [pu_nb1] at n
    rw [show nI i + 2 = nI (i + 1 + 1) from nI_add i 2, hw]
    exact n
  have n2 : f_X9_number σx (nI i + 3) 2 = some (nI h, σx) := by
    have n := pu_numS (s := σx) (i := i + 1) hL hs ht rfl rfl hd 1 2 2 rfl (by omega) (by omega)
    rw [pu_nb2] at n
    rw [show nI i + 3 = nI (i + 1 + 1 + 1) from nI_add i 3, hh]
    exact n
  have n3 : f_X9_number σx (nI i + 5) 1 = some (nI p, σx) := by
    have n := pu_numS (s := σx) (i := i + 1) hL hs ht rfl rfl hd 3 1 1 rfl (by omega) (by omega)
    rw [pu_nb1] at n
    rw [show nI i + 5 = nI (i + 1 + 1 + 3) from nI_add i 5, hp]
    exact n
  have n4 : f_X9_number σx (nI i + 6) 1 = some (nI c, σx) := by
    have n := pu_numS (s := σx) (i := i + 1) hL hs ht rfl rfl hd 4 1 1 rfl (by omega) (by omega)
    rw [pu_nb1] at n
    rw [show nI i + 6 = nI (i + 1 + 1 + 4) from nI_add i 6, hcc]
    exact n
  have ex : f_X9_tellTo 10 σx (nI i) = ob_bd (f_X3_addDish 10 σx (nI k) (nI w) (nI h) (nI p) (nI c)) fun r37 σ38 => ob_rb r37 σ38 := by
    unfold f_X9_tellTo
    rw [pu_bd' _ (pu_letX hL hs ht hi), hc, if_neg (show ¬ nI 100 = (98 : Int32) by decide), if_neg (show ¬ nI 100 = (99 : Int32) by decide), if_pos (show nI 100 = (100 : Int32) from rfl), nI_1, pu_bd' _ (pu_letX hL hs ht hz2.1), pu_cc16 (hb _), pu_bd' _ (pu_idxS (hb _) σx), kv, pu_bd' _ n1, pu_bd' _ n2, pu_bd' _ n3, pu_bd' _ n4]
  have v0 : σ1 10 0 = nI w := by rw [hw]; exact d3 0 (by omega)
  have v1 := d3 1 (by omega)
  have v2 : σ1 10 2 = nI (t (i + 1 + 1 + 1 + 1) - 48) := d3 2 (by omega)
  have v3 : σ1 10 3 = nI p := by rw [hp]; exact d3 3 (by omega)
  have v4 : σ1 10 4 = nI c := by rw [hcc]; exact d3 4 (by omega)
  have mH : ∀ s : ob_St, s 10 = σ1 10 → f_X11_two s 1 = some (nI h, s) := fun s e => by
    rw [hh]
    exact pu_twoM (z := 1) 1 rfl (by omega) (by rw [e]; exact v1) (by rw [e]; exact v2)
  have wP := pu_witN (σ := σ1) (v := p) (lo := 1) (hi := 6) 1 6 rfl rfl (by omega) (by omega) (by omega)
  have st : f_X11_statement σm 1 = J_X11_statement_50 (ob_up σm 0 11 (nI (i + 1))) 1 (nI k) := by
    obtain ⟨w1, w2, w3, w4, w5, w6⟩ := id W1
    have z0 : ¬ t (i + 1) = 0 := fun z => by rw [z] at ks; exact absurd ks (by decide)
    have hbj := hb (i + 1)
    unfold f_X11_statement
    rw [pu_bd' _ (pu_isY hL hW (s := 100) (y := 100) rfl hi hc), if_neg (by decide), w2, w4, if_neg (nI_ge hz2.1 (by omega)), pu_ld (by omega) (by omega), w3 _ hz2.1, if_neg (show ¬ nI (t (i + 1)) ≤ 0 from nI_nle (by omega) (by omega)), pu_ld (by omega) (by omega), w3 _ hz2.1, pu_bd' _ (pu_idxS hbj _), kv]
  have j50 : J_X11_statement_50 (ob_up σm 0 11 (nI (i + 1))) 1 (nI k) = if nI w = 0 then some (0, σ1) else if (if 1 ≤ p ∧ p ≤ 6 then (1 : Int32) else 0) = 0 then some (0, σ1) else if (4 : Int32) < nI c then some (0, σ1) else if nI (K 0 0) = 6 then some (0, σ1) else
                ob_sd σ1 1 6 (σ1 0 0) (nI k) fun σ81 =>
                ob_ld σ81 10 7 0 fun v_82 =>
                ob_sd σ81 2 6 (σ81 0 0) v_82 fun σ83 =>
                ob_bd (f_X11_two σ83 1) fun r84 σ85 =>
                ob_sd σ85 3 6 (σ83 0 0) r84 fun σ86 =>
                ob_ld σ86 10 7 3 fun v_87 =>
                ob_sd σ86 4 6 (σ86 0 0) v_87 fun σ88 =>
                ob_ld σ88 10 7 4 fun v_89 =>
                ob_sd σ88 5 6 (σ88 0 0) v_89 fun σ90 =>
                ob_sd σ90 6 6 (σ90 0 0) (σ90 0 0) fun σ91 =>
                ob_pf σ91 0 0 ((σ91 0 0) + 1) fun σ92 =>
                some (1, σ92) := by
    unfold J_X11_statement_50
    rw [if_pos (nI_pos' (by omega)), pu_pf, W1.2.2.2.1, nI_1, pu_bd' _ d1', if_neg (by decide), if_neg (by decide), pu_L7_0, v0, pu_L7_3, v3, pu_bd' _ wP, pu_L7_4, v4, d4.1]
  obtain ⟨addY, addN⟩ := pu_addX (k := k) (w := w) (h := h) (p := p) (c := c) hK hX (by omega) (by omega) (by omega) (by omega) (by omega)
  by_cases g : K 0 0 < 6 ∧ 1 ≤ w ∧ 1 ≤ p ∧ p ≤ 6 ∧ c ≤ 4
  · obtain ⟨τx, a1, a2, a3⟩ := addY g
    obtain ⟨g1, g2, g3, g4, g5⟩ := g
    obtain ⟨hK', ho'⟩ := pu_ad_ok (k := k) (w := w) (h := h) (p := p) (c := c) hK ho g1 (by omega) (by omega) (by omega) ⟨g3, g4⟩ g5
    obtain ⟨m1, u1⟩ : ∃ z, z = ob_up σ1 1 (K 0 0) (nI k) := ⟨_, rfl⟩
    obtain ⟨m2, u2⟩ : ∃ z, z = ob_up m1 2 (K 0 0) (nI w) := ⟨_, rfl⟩
    obtain ⟨m3, u3⟩ : ∃ z, z = ob_up m2 3 (K 0 0) (nI h) := ⟨_, rfl⟩
    obtain ⟨m4, u4⟩ : ∃ z, z = ob_up m3 4 (K 0 0) (nI p) := ⟨_, rfl⟩
    obtain ⟨m5, u5⟩ : ∃ z, z = ob_up m4 5 (K 0 0) (nI c) := ⟨_, rfl⟩
    obtain ⟨m6, u6⟩ : ∃ z, z = ob_up m5 6 (K 0 0) (nI (K 0 0)) := ⟨_, rfl⟩
    have M1 := pu_M_upF (f := 1) (n := K 0 0) (v := k) d4 (by omega) (by omega)
    rw [← u1] at M1
    have M2 := pu_M_upF (f := 2) (n := K 0 0) (v := w) M1 (by omega) (by omega)
    rw [← u2] at M2
    have M3 := pu_M_upF (f := 3) (n := K 0 0) (v := h) M2 (by omega) (by omega)
    rw [← u3] at M3
    have M4 := pu_M_upF (f := 4) (n := K 0 0) (v := p) M3 (by omega) (by omega)
    rw [← u4] at M4
    have M5 := pu_M_upF (f := 5) (n := K 0 0) (v := c) M4 (by omega) (by omega)
    rw [← u5] at M5
    have M6 := pu_M_upF (f := 6) (n := K 0 0) (v := K 0 0) M5 (by omega) (by omega)
    rw [← u6] at M6
    have y1 : ∀ q, (q = 0 ∨ 7 ≤ q) → m1 q = σ1 q := fun q hq => by rw [u1, pu_un _ _ _ _ (by omega)]
    have y2 : ∀ q, (q = 0 ∨ 7 ≤ q) → m2 q = σ1 q := fun q hq => by rw [u2, pu_un _ _ _ _ (by omega), y1 q hq]
    have y3 : ∀ q, (q = 0 ∨ 7 ≤ q) → m3 q = σ1 q := fun q hq => by rw [u3, pu_un _ _ _ _ (by omega), y2 q hq]
    have y4 : ∀ q, (q = 0 ∨ 7 ≤ q) → m4 q = σ1 q := fun q hq => by rw [u4, pu_un _ _ _ _ (by omega), y3 q hq]
    have y5 : ∀ q, (q = 0 ∨ 7 ≤ q) → m5 q = σ1 q := fun q hq => by rw [u5, pu_un _ _ _ _ (by omega), y4 q hq]
    have y6 : ∀ q, (q = 0 ∨ 7 ≤ q) → m6 q = σ1 q := fun q hq => by rw [u6, pu_un _ _ _ _ (by omega), y5 q hq]
    have z : σ1 0 0 = nI (K 0 0) := d4.1
    refine Or.inl ⟨pu_ad K k w h p c, τx, ob_up m6 0 0 (nI (K 0 0 + 1)), by rw [ex, pu_bd' _ a1]; rfl, ?_, hK', ho', a2, a3, pu_M_up0 M6, ⟨fun q q1 q2 => by rw [pu_un _ _ _ _ (by omega), y6 q (by omega)]; exact d5.1 q q1 q2, fun j j1 j2 => by rw [pu_usn _ _ _ _ (by omega), y6 0 (by omega)]; exact d5.2 j j1 j2⟩, by rw [pu_usn _ _ _ _ (by omega), y6 0 (by omega), el]; exact d2⟩
    rw [st, j50, if_neg (fun q => by have := (nI_eq (b := 0) (by omega) (by omega)).mp q; omega), if_pos (show 1 ≤ p ∧ p ≤ 6 from ⟨g3, g4⟩), if_neg (by decide), if_neg (show ¬ (4 : Int32) < nI c from Int32.not_lt.mpr (nI_le (b := 4) g5 (by omega))), if_neg (show ¬ nI (K 0 0) = 6 from fun q => by have := (nI_eq (b := 6) (by omega) (by omega)).mp q; omega), z, pu_sd (by omega) (by omega), ← u1]
    rw [pu_L7_0, y1 10 (by omega), v0, y1 0 (by omega), z, pu_sd (by omega) (by omega), ← u2]
    rw [pu_bd' _ (mH m2 (y2 10 (by omega))), y2 0 (by omega), z, pu_sd (by omega) (by omega), ← u3]
    rw [pu_L7_3, y3 10 (by omega), v3, y3 0 (by omega), z, pu_sd (by omega) (by omega), ← u4]
    rw [pu_L7_4, y4 10 (by omega), v4, y4 0 (by omega), z, pu_sd (by omega) (by omega), ← u5]
    rw [y5 0 (by omega), z, pu_sd (by omega) (by omega), ← u6, pu_pf, y6 0 (by omega), z, nI_1]
  · refine Or.inr ⟨σx, σ1, by rw [ex, pu_bd' _ (addN g)]; rfl, ?_, pu_fX_0 _, d5⟩
    rw [st, j50]
    by_cases g2 : 1 ≤ w
    · rw [if_neg (show ¬ nI w = 0 from fun q => by have := (nI_eq (b := 0) (by omega) (by omega)).mp q; omega)]
      by_cases g3 : 1 ≤ p ∧ p ≤ 6
      · rw [if_pos g3, if_neg (by decide)]
        by_cases g5 : c ≤ 4
        · rw [if_neg (show ¬ (4 : Int32) < nI c from Int32.not_lt.mpr (nI_le (b := 4) g5 (by omega))), if_pos (show nI (K 0 0) = 6 by rw [show K 0 0 = 6 by omega]; rfl)]
        · rw [if_pos (show (4 : Int32) < nI c from (nI_ltI (a := 4) (by omega) (by omega)).mpr (by omega))]
      · rw [if_neg g3, if_pos rfl]
    · rw [if_pos (show nI w = 0 by rw [show w = 0 by omega]; rfl)]
theorem pu_step (hL : L ≤ 96) (hb : ∀ j, t j ≤ 255) (hi : i < L) (h5 : pu_fot (t i) ≠ 5) (hz : pu_ms t L (pu_by (pu_fot (t i))) (i + 1) = i + 1 + (pu_by (pu_fot (t i))).length) (hK : pu_ok K) (ho : pu_ord K (K 6)) (hs : σx 28 1 = nI L) (ht : ∀ j, j < L → σx 29 j = nI (t j)) (hX : pu_X 10 σx K) (hW : pu_W t L σm i σm) (hM : pu_M σm K) : pu_stp t L i σx σm := by
  by_cases c1 : t i = 98
  · rw [c1] at hz
    exact pu_st_b hL hb hi c1 hz hK ho hs ht hX hW hM
  by_cases c2 : t i = 99
  · rw [c2] at hz
    exact pu_st_c hL hb hi c2 hz hK ho hs ht hX hW hM
  by_cases c3 : t i = 100
  · rw [c3] at hz
    exact pu_st_d hL hb hi c3 hz hK ho hs ht hX hW hM
  by_cases c4 : t i = 104
  · rw [c4] at hz
    exact pu_st_h hL hb hi c4 hz hK ho hs ht hX hW hM
  by_cases c5 : t i = 111
  · rw [c5] at hz
    exact pu_st_o hL hb hi c5 hz hK ho hs ht hX hW hM
  by_cases c6 : t i = 120
  · rw [c6] at hz
    exact pu_st_x hL hb hi c6 hz hK ho hs ht hX hW hM
  refine absurd ?_ h5
  unfold pu_fot
  rw [if_neg c1, if_neg c2, if_neg c3, if_neg c4, if_neg c5, if_neg c6]
end PUQ
