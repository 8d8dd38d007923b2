/-! KITCHEN: the second reading, statement by statement -/
def pu_stp (t : Nat → Nat) (L i : Nat) (σx σm : ob_St) : Prop :=
  (∃ (K2 : pu_K) (τx τm : ob_St), f_X9_tellTo 10 σx (nI i) = some (1, τx) ∧ f_X11_statement σm 1 = some (1, τm) ∧ pu_ok K2 ∧ pu_ord K2 (K2 6) ∧ pu_X 10 τx K2 ∧ pu_fX σx τx ∧ pu_M τm K2 ∧ pu_fM σm τm ∧ τm 0 11 = nI (i + 1 + (pu_by (pu_fot (t i))).length)) ∨
  (∃ (τx τm : ob_St), f_X9_tellTo 10 σx (nI i) = some (0, τx) ∧ f_X11_statement σm 1 = some (0, τm) ∧ pu_fX σx τx ∧ pu_fM σm τm)
theorem pu_fX_0 (σ : ob_St) : pu_fX σ σ := fun _ _ => rfl
theorem pu_fX_up {σ τ : ob_St} (h : pu_fX σ τ) {q j : Nat} {v : Int32} (h1 : 10 ≤ q) (h2 : q ≤ 18) : pu_fX σ (ob_up τ q j v) := fun p hp => by rw [pu_un _ _ _ _ (by omega)]; exact h p hp
theorem pu_fM_up {σ τ : ob_St} (h : pu_fM σ τ) {q j : Nat} {v : Int32} (h1 : 1 ≤ q) (h2 : q ≤ 8) : pu_fM σ (ob_up τ q j v) := ⟨fun p p1 p2 => by rw [pu_un _ _ _ _ (by omega)]; exact h.1 p p1 p2, fun j h3 h4 => by rw [pu_un _ _ _ _ (by omega)]; exact h.2 j h3 h4⟩
section PUP
variable {t : Nat → Nat} {L i : Nat} {σx σm : ob_St} {K : pu_K}
theorem pu_preM {k j : Nat} {σ : ob_St} (hL : L ≤ 96) (hb : ∀ j, t j ≤ 255) (hk : k ≤ 7) (hW : pu_W t L σm j σ) (hz : pu_ms t L (List.replicate k 0) j = j + k) (hM : pu_M σm K) : ∃ σ1, f_X11_digits σ (nI k) = some (1, σ1) ∧ σ1 0 11 = nI (j + k) ∧ (∀ z, z < k → σ1 10 z = nI (t (j + z) - 48)) ∧ pu_M σ1 K ∧ pu_fM σm σ1 := by
  obtain ⟨σ1, d1, d2, d3⟩ := pu_dig hL hb hk hW
  rw [hz] at d1 d2
  rw [if_pos rfl] at d1
  obtain ⟨w1, w2, w3, w4, w5, w6⟩ := d2
  exact ⟨σ1, d1, w4, d3 hz, pu_M_keep hM (w6 0 (by omega)) (fun q q1 q2 => w5 q (by omega) (by omega)), fun q q1 q2 => w5 q (by omega) q2, fun j j1 j2 => w6 j j2⟩
theorem pu_numS {k : Nat} {s : ob_St} (hL : L ≤ 96) (hs : σx 28 1 = nI L) (ht : ∀ j, j < L → σx 29 j = nI (t j)) (e28 : s 28 = σx 28) (e29 : s 29 = σx 29) (hd : ∀ z, z < k → i + 1 + z < L ∧ pu_su 0 (t (i + 1 + z)) = true) (z m : Nat) (y : Int32) (hy : y = nI m) (hm : m ≤ 3) (hz : z + m ≤ k) : f_X9_number s (nI (i + 1 + z)) y = some (nI (pu_nb t (i + 1 + z) m), s) :=
  pu_numX hL (by rw [e28]; exact hs) (fun j hj => by rw [e29]; exact ht j hj) y hy hm (fun j hj => by
    have := hd (z + j) (by omega)
    rw [← Nat.add_assoc] at this
    exact this)
theorem pu_hdR {k : Nat} (hz : pu_ms t L (List.replicate k 0) (i + 1) = i + 1 + k) : ∀ z, z < k → i + 1 + z < L ∧ pu_su 0 (t (i + 1 + z)) = true := fun z hzk => by
  have := pu_ms_all t L (List.replicate k 0) (i + 1) (by rw [List.length_replicate]; exact hz) z (by rw [List.length_replicate]; exact hzk)
  rw [show (List.replicate k 0).getD z 0 = 0 by simp [List.getD, hzk]] at this
  exact this
theorem pu_st_h (hL : L ≤ 96) (hb : ∀ j, t j ≤ 255) (hi : i < L) (hc : t i = 104) (hz : pu_ms t L (List.replicate 1 0) (i + 1) = i + 1 + 1) (hK : pu_ok K) (ho : pu_ord K (K 6)) (hs : σx 28 1 = nI L) (ht : ∀ j, j < L → σx 29 j = nI (t j)) (hX : pu_X 10 σx K) (hW : pu_W t L σm i σm) (hM : pu_M σm K) : pu_stp t L i σx σm := by
  have hd6 := hK.1
  have W1 := pu_W_at hW (p := i + 1) (by omega)
  obtain ⟨σ1, d1, d2, d3, d4, d5⟩ := pu_preM (k := 1) hL hb (by omega) W1 hz hM
  have d1' : f_X11_digits (ob_up σm 0 11 (nI (i + 1))) 1 = some (1, σ1) := d1
  have hd := pu_hdR hz
  have dg : ∀ z, z < 1 → t (i + 1 + z) - 48 ≤ 9 := fun z hz => by have := (pu_su0 _).mp (hd z hz).2; omega
  have el : (pu_by (pu_fot (t i))).length = 1 := by rw [hc]; rfl
  have n1 := pu_numS (s := σx) hL hs ht rfl rfl hd 0 1 1 rfl (by omega) (by omega)
  rw [pu_nb1] at n1
  have n1' : f_X9_number σx (nI (i + 1)) 1 = some (nI (t (i + 1) - 48), σx) := n1
  have b0 := dg 0 (by omega)
  have b0' : t (i + 1) - 48 ≤ 9 := b0
  have v0 : σ1 10 0 = nI (t (i + 1) - 48) := d3 0 (by omega)
  have px := pu_putX (b := 10) (σ := σx) (w := 4) (lo := 0) (hi := 2) (v := t (i + 1) - 48) 4 rfl (by omega) rfl rfl (by omega) (by omega) (by omega)
  have ex : f_X9_tellTo 10 σx (nI i) = ob_bd (f_X3_putInBox 10 σx 4 (nI (t (i + 1) - 48))) fun r41 σ42 => ob_rb r41 σ42 := by
    unfold f_X9_tellTo
    rw [pu_bd' _ (pu_letX hL hs ht hi), hc, if_neg (show ¬ nI 104 = (98 : Int32) by decide), if_neg (show ¬ nI 104 = (99 : Int32) by decide), if_neg (show ¬ nI 104 = (100 : Int32) by decide), if_pos (show nI 104 = (104 : Int32) from rfl), nI_1, pu_bd' _ n1']
  by_cases g : t (i + 1) - 48 ≤ 2
  · rw [if_pos (by omega)] at px
    refine Or.inl ⟨pu_upK K 8 4 (t (i + 1) - 48), _, _, by rw [ex, pu_bd' _ px]; rfl, ?_, pu_ok_box hK _ _ (by omega) (by omega) (by omega) (by omega) (by omega) (by omega), ho, pu_X_up (b := 10) (f := 8) hX (by omega), pu_fX_up (pu_fX_0 _) (by omega) (by omega), pu_M_upB (n := 4) d4, pu_fM_up d5 (by omega) (by omega), by rw [pu_un _ _ _ _ (by omega), el]; exact d2⟩
    unfold f_X11_statement
    rw [pu_bd' _ (pu_isN hL hb hW 100 (y := 100) rfl (by omega) (fun w => by omega)), if_pos rfl, pu_bd' _ (pu_isN hL hb hW 98 (y := 98) rfl (by omega) (fun w => by omega)), if_pos rfl, pu_bd' _ (pu_isN hL hb hW 99 (y := 99) rfl (by omega) (fun w => by omega)), if_pos rfl, pu_bd' _ (pu_isY hL hW (s := 104) (y := 104) rfl hi hc), if_neg (by decide), pu_bd' _ d1', if_neg (by decide), if_neg (by decide), pu_L7_0, v0, if_pos (show nI (t (i + 1) - 48) ≤ 2 from nI_le (b := 2) g (by omega)), pu_L7_0, v0, pu_S6_4]
  · rw [if_neg (by omega)] at px
    refine Or.inr ⟨σx, σ1, by rw [ex, pu_bd' _ px]; rfl, ?_, pu_fX_0 _, d5⟩
    unfold f_X11_statement
    rw [pu_bd' _ (pu_isN hL hb hW 100 (y := 100) rfl (by omega) (fun w => by omega)), if_pos rfl, pu_bd' _ (pu_isN hL hb hW 98 (y := 98) rfl (by omega) (fun w => by omega)), if_pos rfl, pu_bd' _ (pu_isN hL hb hW 99 (y := 99) rfl (by omega) (fun w => by omega)), if_pos rfl, pu_bd' _ (pu_isY hL hW (s := 104) (y := 104) rfl hi hc), if_neg (by decide), pu_bd' _ d1', if_neg (by decide), if_neg (by decide), pu_L7_0, v0, if_neg (show ¬ nI (t (i + 1) - 48) ≤ 2 from nI_ge (a := 2) (by omega) (by omega))]
theorem pu_st_o (hL : L ≤ 96) (hb : ∀ j, t j ≤ 255) (hi : i < L) (hc : t i = 111) (hz : pu_ms t L (List.replicate 3 0) (i + 1) = i + 1 + 3) (hK : pu_ok K) (ho : pu_ord K (K 6)) (hs : σx 28 1 = nI L) (ht : ∀ j, j < L → σx 29 j = nI (t j)) (hX : pu_X 10 σx K) (hW : pu_W t L σm i σm) (hM : pu_M σm K) : pu_stp t L i σx σm := by
  have hd6 := hK.1
  have W1 := pu_W_at hW (p := i + 1) (by omega)
  obtain ⟨σ1, d1, d2, d3, d4, d5⟩ := pu_preM (k := 3) hL hb (by omega) W1 hz hM
  have d1' : f_X11_digits (ob_up σm 0 11 (nI (i + 1))) 3 = some (1, σ1) := d1
  have hd := pu_hdR hz
  have dg : ∀ z, z < 3 → t (i + 1 + z) - 48 ≤ 9 := fun z hz => by have := (pu_su0 _).mp (hd z hz).2; omega
  have el : (pu_by (pu_fot (t i))).length = 3 := by rw [hc]; rfl
  have n1 := pu_numS (s := σx) hL hs ht rfl rfl hd 0 3 3 rfl (by omega) (by omega)
  rw [pu_nb3] at n1
  have n1' : f_X9_number σx (nI (i + 1)) 3 = some (nI (100 * (t (i + 1) - 48) + (10 * (t (i + 1 + 1) - 48) + (t (i + 1 + 2) - 48))), σx) := n1
  have b0 : t (i + 1) - 48 ≤ 9 := dg 0 (by omega)
  have b1 := dg 1 (by omega)
  have b2 := dg 2 (by omega)
  have v0 : σ1 10 0 = nI (t (i + 1) - 48) := d3 0 (by omega)
  have v1 := d3 1 (by omega)
  have v2 := d3 2 (by omega)
  obtain ⟨V, hV⟩ : ∃ z, z = 100 * (t (i + 1) - 48) + (10 * (t (i + 1 + 1) - 48) + (t (i + 1 + 2) - 48)) := ⟨_, rfl⟩
  have hV9 : V ≤ 999 := by omega
  have mv : (100 : Int32) * nI (t (i + 1) - 48) + nI (10 * (t (i + 1 + 1) - 48) + (t (i + 1 + 2) - 48)) = nI V := by
    rw [show (100 : Int32) * nI (t (i + 1) - 48) = nI (100 * (t (i + 1) - 48)) from pk_mul 100 _, nI_add, hV]
  rw [← hV] at n1'
  have tw := pu_twoM (σ := σ1) (z := 1) (y := 1) rfl (by omega) v1 v2
  have px := pu_putX (b := 10) (σ := σx) (w := 5) (lo := 0) (hi := 400) (v := V) 5 rfl (by omega) rfl rfl (by omega) (by omega) (by omega)
  have ex : f_X9_tellTo 10 σx (nI i) = ob_bd (f_X3_putInBox 10 σx 5 (nI V)) fun r41 σ42 => ob_rb r41 σ42 := by
    unfold f_X9_tellTo
    rw [pu_bd' _ (pu_letX hL hs ht hi), hc, if_neg (show ¬ nI 111 = (98 : Int32) by decide), if_neg (show ¬ nI 111 = (99 : Int32) by decide), if_neg (show ¬ nI 111 = (100 : Int32) by decide), if_neg (show ¬ nI 111 = (104 : Int32) by decide), if_pos (show nI 111 = (111 : Int32) from rfl), nI_1, pu_bd' _ n1']
  by_cases g : V ≤ 400
  · rw [if_pos (by omega)] at px
    refine Or.inl ⟨pu_upK K 8 5 V, _, _, by rw [ex, pu_bd' _ px]; rfl, ?_, pu_ok_box hK _ _ (by omega) (by omega) (by omega) (by omega) (by omega) (by omega), ho, pu_X_up (b := 10) (f := 8) hX (by omega), pu_fX_up (pu_fX_0 _) (by omega) (by omega), pu_M_upB (n := 5) d4, pu_fM_up d5 (by omega) (by omega), by rw [pu_un _ _ _ _ (by omega), el]; exact d2⟩
    unfold f_X11_statement
    rw [pu_bd' _ (pu_isN hL hb hW 100 (y := 100) rfl (by omega) (fun w => by omega)), if_pos rfl, pu_bd' _ (pu_isN hL hb hW 98 (y := 98) rfl (by omega) (fun w => by omega)), if_pos rfl, pu_bd' _ (pu_isN hL hb hW 99 (y := 99) rfl (by omega) (fun w => by omega)), if_pos rfl, pu_bd' _ (pu_isN hL hb hW 104 (y := 104) rfl (by omega) (fun w => by omega)), if_pos rfl, pu_bd' _ (pu_isY hL hW (s := 111) (y := 111) rfl hi hc), if_neg (by decide), pu_bd' _ d1', if_neg (by decide), if_neg (by decide), pu_L7_0, v0, pu_bd' _ tw, mv, pu_nm, if_pos (show nI V ≤ 400 from nI_le (b := 400) g (by omega)), pu_S6_5]
  · rw [if_neg (by omega)] at px
    refine Or.inr ⟨σx, σ1, by rw [ex, pu_bd' _ px]; rfl, ?_, pu_fX_0 _, d5⟩
    unfold f_X11_statement
    rw [pu_bd' _ (pu_isN hL hb hW 100 (y := 100) rfl (by omega) (fun w => by omega)), if_pos rfl, pu_bd' _ (pu_isN hL hb hW 98 (y := 98) rfl (by omega) (fun w => by omega)), if_pos rfl, pu_bd' _ (pu_isN hL hb hW 99 (y := 99) rfl (by omega) (fun w => by omega)), if_pos rfl, pu_bd' _ (pu_isN hL hb hW 104 (y := 104) rfl (by omega) (fun w => by omega)), if_pos rfl, pu_bd' _ (pu_isY hL hW (s := 111) (y := 111) rfl hi hc), if_neg (by decide), pu_bd' _ d1', if_neg (by decide), if_neg (by decide), pu_L7_0, v0, pu_bd' _ tw, mv, pu_nm, if_neg (show ¬ nI V ≤ 400 from nI_ge (a := 400) (by omega) (by omega))]
theorem pu_st_c (hL : L ≤ 96) (hb : ∀ j, t j ≤ 255) (hi : i < L) (hc : t i = 99) (hz : pu_ms t L (List.replicate 3 0) (i + 1) = i + 1 + 3) (hK : pu_ok K) (ho : pu_ord K (K 6)) (hs : σx 28 1 = nI L) (ht : ∀ j, j < L → σx 29 j = nI (t j)) (hX : pu_X 10 σx K) (hW : pu_W t L σm i σm) (hM : pu_M σm K) : pu_stp t L i σx σm := by
  have hd6 := hK.1
  have W1 := pu_W_at hW (p := i + 1) (by omega)
  obtain ⟨σ1, d1, d2, d3, d4, d5⟩ := pu_preM (k := 3) hL hb (by omega) W1 hz hM
  have d1' : f_X11_digits (ob_up σm 0 11 (nI (i + 1))) 3 = some (1, σ1) := d1
  have hd := pu_hdR hz
  have dg : ∀ z, z < 3 → t (i + 1 + z) - 48 ≤ 9 := fun z hz => by have := (pu_su0 _).mp (hd z hz).2; omega
  have el : (pu_by (pu_fot (t i))).length = 3 := by rw [hc]; rfl
  have n1 := pu_numS (s := σx) hL hs ht rfl rfl hd 0 1 1 rfl (by omega) (by omega)
  rw [pu_nb1] at n1
  have n1' : f_X9_number σx (nI (i + 1)) 1 = some (nI (t (i + 1) - 48), σx) := n1
  have n2 := pu_numS (s := σx) hL hs ht rfl rfl hd 1 2 2 rfl (by omega) (by omega)
  rw [pu_nb2] at n2
  have b0 : t (i + 1) - 48 ≤ 9 := dg 0 (by omega)
  have b1 := dg 1 (by omega)
  have b2 : t (i + 1 + 1 + 1) - 48 ≤ 9 := dg 2 (by omega)
  have v0 : σ1 10 0 = nI (t (i + 1) - 48) := d3 0 (by omega)
  have v1 := d3 1 (by omega)
  have v2 : σ1 10 2 = nI (t (i + 1 + 1 + 1) - 48) := d3 2 (by omega)
  obtain ⟨V, hV⟩ : ∃ z, z = 10 * (t (i + 1 + 1) - 48) + (t (i + 1 + 1 + 1) - 48) := ⟨_, rfl⟩
  have hV9 : V ≤ 99 := by omega
  have tw := pu_twoM (σ := σ1) (z := 1) (y := 1) rfl (by omega) v1 v2
  rw [← hV] at n2 tw
  have px := pu_begX (b := 10) (σ := σx) (c := t (i + 1) - 48) (v := V) b0
  have ex : f_X9_tellTo 10 σx (nI i) = ob_bd (f_X3_putBegin 10 σx (nI (t (i + 1) - 48)) (nI V)) fun r41 σ42 => ob_rb r41 σ42 := by
    unfold f_X9_tellTo
    rw [pu_bd' _ (pu_letX hL hs ht hi), hc, if_neg (show ¬ nI 99 = (98 : Int32) by decide), if_pos (show nI 99 = (99 : Int32) from rfl), nI_1, pu_bd' _ n1', show nI i + 2 = nI (i + 1 + 1) from nI_add i 2, pu_bd' _ n2]
  by_cases g : t (i + 1) - 48 ≤ 4
  · rw [if_pos g] at px
    have hK' : pu_ok (pu_upK K 7 (t (i + 1) - 48) V) := by
      obtain ⟨k1, k2, k3, k4, k5, k6⟩ := hK
      refine ⟨k1, k2, k3, k4, fun j hj => ?_, k6⟩
      have := k5 j hj
      unfold pu_upK
      split <;> omega
    refine Or.inl ⟨pu_upK K 7 (t (i + 1) - 48) V, _, _, by rw [ex, pu_bd' _ px]; rfl, ?_, hK', ho, pu_X_up (b := 10) (f := 7) hX (by omega), pu_fX_up (pu_fX_0 _) (by omega) (by omega), pu_M_upT (n := t (i + 1) - 48) d4, pu_fM_up d5 (by omega) (by omega), by rw [pu_un _ _ _ _ (by omega), el]; exact d2⟩
    unfold f_X11_statement
    rw [pu_bd' _ (pu_isN hL hb hW 100 (y := 100) rfl (by omega) (fun w => by omega)), if_pos rfl, pu_bd' _ (pu_isN hL hb hW 98 (y := 98) rfl (by omega) (fun w => by omega)), if_pos rfl, pu_bd' _ (pu_isY hL hW (s := 99) (y := 99) rfl hi hc), if_neg (by decide), pu_bd' _ d1', if_neg (by decide), if_neg (by decide), pu_L7_0, v0, if_pos (show nI (t (i + 1) - 48) ≤ 4 from nI_le (b := 4) g (by omega)), pu_L7_0, v0, pu_bd' _ tw, pu_sd (by omega) (by omega)]
  · rw [if_neg g] at px
    refine Or.inr ⟨σx, σ1, by rw [ex, pu_bd' _ px]; rfl, ?_, pu_fX_0 _, d5⟩
    unfold f_X11_statement
    rw [pu_bd' _ (pu_isN hL hb hW 100 (y := 100) rfl (by omega) (fun w => by omega)), if_pos rfl, pu_bd' _ (pu_isN hL hb hW 98 (y := 98) rfl (by omega) (fun w => by omega)), if_pos rfl, pu_bd' _ (pu_isY hL hW (s := 99) (y := 99) rfl hi hc), if_neg (by decide), pu_bd' _ d1', if_neg (by decide), if_neg (by decide), pu_L7_0, v0, if_neg (show ¬ nI (t (i + 1) - 48) ≤ 4 from nI_ge (a := 4) (by omega) (by omega))]
theorem pu_st_x (hL : L ≤ 96) (hb : ∀ j, t j ≤ 255) (hi : i < L) (hc : t i = 120) (hz : pu_ms t L (List.replicate 2 0) (i + 1) = i + 1 + 2) (hK : pu_ok K) (ho : pu_ord K (K 6)) (hs : σx 28 1 = nI L) (ht : ∀ j, j < L → σx 29 j = nI (t j)) (hX : pu_X 10 σx K) (hW : pu_W t L σm i σm) (hM : pu_M σm K) : pu_stp t L i σx σm := by
  have hd6 := hK.1
  have W1 := pu_W_at hW (p := i + 1) (by omega)
  obtain ⟨σ1, d1, d2, d3, d4, d5⟩ := pu_preM (k := 2) hL hb (by omega) W1 hz hM
  have d1' : f_X11_digits (ob_up σm 0 11 (nI (i + 1))) 2 = some (1, σ1) := d1
  have hd := pu_hdR hz
  have dg : ∀ z, z < 2 → t (i + 1 + z) - 48 ≤ 9 := fun z hz => by have := (pu_su0 _).mp (hd z hz).2; omega
  have el : (pu_by (pu_fot (t i))).length = 2 := by rw [hc]; rfl
  have n1 := pu_numS (s := σx) hL hs ht rfl rfl hd 0 1 1 rfl (by omega) (by omega)
  rw [pu_nb1] at n1
  have n1' : f_X9_number σx (nI (i + 1)) 1 = some (nI (t (i + 1) - 48), σx) := n1
  have n2 := pu_numS (s := σx) hL hs ht rfl rfl hd 1 1 1 rfl (by omega) (by omega)
  rw [pu_nb1] at n2
  obtain ⟨x, hx⟩ : ∃ z, z = t (i + 1) - 48 := ⟨_, rfl⟩
  obtain ⟨y, hy⟩ : ∃ z, z = t (i + 1 + 1) - 48 := ⟨_, rfl⟩
  have b0 : t (i + 1) - 48 ≤ 9 := dg 0 (by omega)
  have b1 := dg 1 (by omega)
  have v0 : σ1 10 0 = nI (t (i + 1) - 48) := d3 0 (by omega)
  have v1 := d3 1 (by omega)
  rw [← hx] at n1' b0 v0
  rw [← hy] at n2 b1 v1
  have m1 := pu_isDish hd6 d4.1 (nI x)
  have m2 := pu_isDish hd6 d4.1 (nI y)
  have ex : f_X9_tellTo 10 σx (nI i) = ob_bd (f_X3_swap 10 σx (nI x) (nI y)) fun r41 σ42 => ob_rb r41 σ42 := by
    unfold f_X9_tellTo
    rw [pu_bd' _ (pu_letX hL hs ht hi), hc, if_neg (show ¬ nI 120 = (98 : Int32) by decide), if_neg (show ¬ nI 120 = (99 : Int32) by decide), if_neg (show ¬ nI 120 = (100 : Int32) by decide), if_neg (show ¬ nI 120 = (104 : Int32) by decide), if_neg (show ¬ nI 120 = (111 : Int32) by decide), if_pos (show nI 120 = (120 : Int32) from rfl), nI_1, pu_bd' _ n1', show nI i + 2 = nI (i + 1 + 1) from nI_add i 2, pu_bd' _ n2]
  by_cases g : x < K 0 0 ∧ y < K 0 0 ∧ x ≠ y
  · obtain ⟨g1, g2, g3⟩ := g
    obtain ⟨τx, s1, s2, s3⟩ := pu_swX hK ho hX g1 g2 g3
    obtain ⟨p, q, τm, u1, u2, u3, u4, u5⟩ := pu_swM hK ho d4 g1 g2 g3
    obtain ⟨hK', ho'⟩ := pu_swK_ok hK ho g1 g2
    rw [if_pos ⟨nI_pos' (by omega), nI_lt g1 (by omega)⟩] at m1
    rw [if_pos ⟨nI_pos' (by omega), nI_lt g2 (by omega)⟩] at m2
    refine Or.inl ⟨pu_swK K x y, τx, τm, by rw [ex, pu_bd' _ s1]; rfl, ?_, hK', ho', s2, fun q hq => s3 q (by omega), u4, ⟨fun q q1 q2 => by rw [u5 q (by omega)]; exact d5.1 q q1 q2, fun j j1 j2 => by rw [u5 0 (by omega)]; exact d5.2 j j1 j2⟩, by rw [u5 0 (by omega), el]; exact d2⟩
    unfold f_X11_statement
    rw [pu_bd' _ (pu_isN hL hb hW 100 (y := 100) rfl (by omega) (fun w => by omega)), if_pos rfl, pu_bd' _ (pu_isN hL hb hW 98 (y := 98) rfl (by omega) (fun w => by omega)), if_pos rfl, pu_bd' _ (pu_isN hL hb hW 99 (y := 99) rfl (by omega) (fun w => by omega)), if_pos rfl, pu_bd' _ (pu_isN hL hb hW 104 (y := 104) rfl (by omega) (fun w => by omega)), if_pos rfl, pu_bd' _ (pu_isN hL hb hW 111 (y := 111) rfl (by omega) (fun w => by omega)), if_pos rfl, pu_bd' _ (pu_isY hL hW (s := 120) (y := 120) rfl hi hc), if_neg (by decide), pu_bd' _ d1', if_neg (by decide), if_neg (by decide), pu_L7_0, v0, pu_bd' _ m1, if_neg (by decide), pu_L7_1, v1, pu_bd' _ m2, if_neg (by decide), pu_L7_0, pu_L7_1, v0, v1, if_neg (fun w => g3 ((nI_eq (by omega) (by omega)).mp w)), pu_L7_0, v0, pu_bd' _ u1, pu_L7_1, v1, pu_bd' _ u2, pu_bd' _ u3]
  · refine Or.inr ⟨σx, σ1, by rw [ex, pu_bd' _ (pu_swXn hK hX b0 b1 g)]; rfl, ?_, pu_fX_0 _, d5⟩
    unfold f_X11_statement
    rw [pu_bd' _ (pu_isN hL hb hW 100 (y := 100) rfl (by omega) (fun w => by omega)), if_pos rfl, pu_bd' _ (pu_isN hL hb hW 98 (y := 98) rfl (by omega) (fun w => by omega)), if_pos rfl, pu_bd' _ (pu_isN hL hb hW 99 (y := 99) rfl (by omega) (fun w => by omega)), if_pos rfl, pu_bd' _ (pu_isN hL hb hW 104 (y := 104) rfl (by omega) (fun w => by omega)), if_pos rfl, pu_bd' _ (pu_isN hL hb hW 111 (y := 111) rfl (by omega) (fun w => by omega)), if_pos rfl, pu_bd' _ (pu_isY hL hW (s := 120) (y := 120) rfl hi hc), if_neg (by decide), pu_bd' _ d1', if_neg (by decide), if_neg (by decide), pu_L7_0, v0, pu_bd' _ m1]
    by_cases g1 : x < K 0 0
    · rw [if_pos (show 0 ≤ nI x ∧ nI x < nI (K 0 0) from ⟨nI_pos' (by omega), nI_lt g1 (by omega)⟩), if_neg (by decide), pu_L7_1, v1, pu_bd' _ m2]
      by_cases g2 : y < K 0 0
      · rw [if_pos (show 0 ≤ nI y ∧ nI y < nI (K 0 0) from ⟨nI_pos' (by omega), nI_lt g2 (by omega)⟩), if_neg (by decide), pu_L7_0, pu_L7_1, v0, v1, if_pos (show nI x = nI y by rw [show x = y from Classical.byContradiction (fun w => g ⟨g1, g2, w⟩)])]
      · rw [if_neg (show ¬ (0 ≤ nI y ∧ nI y < nI (K 0 0)) from fun w => g2 ((nI_ltI (by omega) (by omega)).mp w.2)), if_pos rfl]
    · rw [if_neg (show ¬ (0 ≤ nI x ∧ nI x < nI (K 0 0)) from fun w => g1 ((nI_ltI (by omega) (by omega)).mp w.2)), if_pos rfl]
theorem pu_st_b (hL : L ≤ 96) (hb : ∀ j, t j ≤ 255) (hi : i < L) (hc : t i = 98) (hz : pu_ms t L (List.replicate 7 0) (i + 1) = i + 1 + 7) (hK : pu_ok K) (ho : pu_ord K (K 6)) (hs : σx 28 1 = nI L) (ht : ∀ j, j < L → σx 29 j = nI (t j)) (hX : pu_X 10 σx K) (hW : pu_W t L σm i σm) (hM : pu_M σm K) : pu_stp t L i σx σm := by
  have hd6 := hK.1
  have W1 := pu_W_at hW (p := i + 1) (by omega)
  obtain ⟨σ1, d1, d2, d3, d4, d5⟩ := pu_preM (k := 7) hL hb (by omega) W1 hz hM
  have d1' : f_X11_digits (ob_up σm 0 11 (nI (i + 1))) 7 = some (1, σ1) := d1
  have hd := pu_hdR hz
  have dg : ∀ z, z < 7 → t (i + 1 + z) - 48 ≤ 9 := fun z hz => by have := (pu_su0 _).mp (hd z hz).2; omega
  have el : (pu_by (pu_fot (t i))).length = 7 := by rw [hc]; rfl
  obtain ⟨A, hA⟩ : ∃ z, z = 10 * (t (i + 1) - 48) + (t (i + 1 + 1) - 48) := ⟨_, rfl⟩
  obtain ⟨B, hB⟩ : ∃ z, z = t (i + 1 + 2) - 48 := ⟨_, rfl⟩
  obtain ⟨C, hC⟩ : ∃ z, z = 10 * (t (i + 1 + 3) - 48) + (t (i + 1 + 3 + 1) - 48) := ⟨_, rfl⟩
  obtain ⟨D, hD⟩ : ∃ z, z = 10 * (t (i + 1 + 5) - 48) + (t (i + 1 + 5 + 1) - 48) := ⟨_, rfl⟩
  have b0 : t (i + 1) - 48 ≤ 9 := dg 0 (by omega)
  have b1 := dg 1 (by omega)
  have b2 := dg 2 (by omega)
  have b3 := dg 3 (by omega)
  have b4 : t (i + 1 + 3 + 1) - 48 ≤ 9 := dg 4 (by omega)
  have b5 := dg 5 (by omega)
  have b6 : t (i + 1 + 5 + 1) - 48 ≤ 9 := dg 6 (by omega)
  have nA : ∀ s : ob_St, s 28 = σx 28 → s 29 = σx 29 → f_X9_number s (nI i + 1) 2 = some (nI A, s) := fun s e1 e2 => by
    have n := pu_numS (s := s) hL hs ht e1 e2 hd 0 2 2 rfl (by omega) (by omega)
    rw [pu_nb2] at n
    rw [nI_1, hA]
    exact n
  have nB : ∀ s : ob_St, s 28 = σx 28 → s 29 = σx 29 → f_X9_number s (nI i + 3) 1 = some (nI B, s) := fun s e1 e2 => by
    have n := pu_numS (s := s) hL hs ht e1 e2 hd 2 1 1 rfl (by omega) (by omega)
    rw [pu_nb1] at n
    rw [show nI i + 3 = nI (i + 1 + 2) from nI_add i 3, hB]
    exact n
  have nC : ∀ s : ob_St, s 28 = σx 28 → s 29 = σx 29 → f_X9_number s (nI i + 4) 2 = some (nI C, s) := fun s e1 e2 => by
    have n := pu_numS (s := s) hL hs ht e1 e2 hd 3 2 2 rfl (by omega) (by omega)
    rw [pu_nb2] at n
    rw [show nI i + 4 = nI (i + 1 + 3) from nI_add i 4, hC]
    exact n
  have nD : ∀ s : ob_St, s 28 = σx 28 → s 29 = σx 29 → f_X9_number s (nI i + 6) 2 = some (nI D, s) := fun s e1 e2 => by
    have n := pu_numS (s := s) hL hs ht e1 e2 hd 5 2 2 rfl (by omega) (by omega)
    rw [pu_nb2] at n
    rw [show nI i + 6 = nI (i + 1 + 5) from nI_add i 6, hD]
    exact n
  have v0 : σ1 10 0 = nI (t (i + 1) - 48) := d3 0 (by omega)
  have v1 := d3 1 (by omega)
  have v2 := d3 2 (by omega)
  have v3 := d3 3 (by omega)
  have v4 : σ1 10 4 = nI (t (i + 1 + 3 + 1) - 48) := d3 4 (by omega)
  have v5 := d3 5 (by omega)
  have v6 : σ1 10 6 = nI (t (i + 1 + 5 + 1) - 48) := d3 6 (by omega)
  have mA : ∀ s : ob_St, s 10 = σ1 10 → f_X11_two s 0 = some (nI A, s) := fun s e => by
    rw [hA]
    exact pu_twoM (z := 0) 0 rfl (by omega) (by rw [e]; exact v0) (by rw [e]; exact v1)
  have mC : ∀ s : ob_St, s 10 = σ1 10 → f_X11_two s 3 = some (nI C, s) := fun s e => by
    rw [hC]
    exact pu_twoM (z := 3) 3 rfl (by omega) (by rw [e]; exact v3) (by rw [e]; exact v4)
  have mD : ∀ s : ob_St, s 10 = σ1 10 → f_X11_two s 5 = some (nI D, s) := fun s e => by
    rw [hD]
    exact pu_twoM (z := 5) 5 rfl (by omega) (by rw [e]; exact v5) (by rw [e]; exact v6)
  rw [← hB] at v2
  have A9 : A ≤ 99 := by omega
  have C9 : C ≤ 99 := by omega
  have D9 : D ≤ 99 := by omega
  have wA := pu_witN (σ := σ1) (v := A) (lo := 1) (hi := 11) 1 11 rfl rfl (by omega) (by omega) (by omega)
  have wD := pu_witN (σ := σ1) (v := D) (lo := 1) (hi := 20) 1 20 rfl rfl (by omega) (by omega) (by omega)
  have pA := fun s : ob_St => pu_putX (b := 10) (σ := s) (w := 0) (lo := 1) (hi := 11) (v := A) 0 rfl (by omega) rfl rfl (by omega) (by omega) (by omega)
  have pB := fun s : ob_St => pu_putX (b := 10) (σ := s) (w := 1) (lo := 0) (hi := 9) (v := B) 1 rfl (by omega) rfl rfl (by omega) (by omega) (by omega)
  have pC := fun s : ob_St => pu_putX (b := 10) (σ := s) (w := 2) (lo := 0) (hi := 40) (v := C) 2 rfl (by omega) rfl rfl (by omega) (by omega) (by omega)
  have pD := fun s : ob_St => pu_putX (b := 10) (σ := s) (w := 3) (lo := 1) (hi := 20) (v := D) 3 rfl (by omega) rfl rfl (by omega) (by omega) (by omega)
  obtain ⟨x1, e1⟩ : ∃ z, z = ob_up σx (10 + 8) 0 (nI A) := ⟨_, rfl⟩
  obtain ⟨x2, e2⟩ : ∃ z, z = ob_up x1 (10 + 8) 1 (nI B) := ⟨_, rfl⟩
  obtain ⟨x3, e3⟩ : ∃ z, z = ob_up x2 (10 + 8) 2 (nI C) := ⟨_, rfl⟩
  obtain ⟨x4, e4⟩ : ∃ z, z = ob_up x3 (10 + 8) 3 (nI D) := ⟨_, rfl⟩
  have X1 : pu_X 10 x1 (pu_upK K 8 0 A) := by rw [e1]; exact pu_X_up (b := 10) (f := 8) hX (by omega)
  have X2 : pu_X 10 x2 (pu_upK (pu_upK K 8 0 A) 8 1 B) := by rw [e2]; exact pu_X_up (b := 10) (f := 8) X1 (by omega)
  have X3 : pu_X 10 x3 (pu_upK (pu_upK (pu_upK K 8 0 A) 8 1 B) 8 2 C) := by rw [e3]; exact pu_X_up (b := 10) (f := 8) X2 (by omega)
  have X4 : pu_X 10 x4 (pu_upK (pu_upK (pu_upK (pu_upK K 8 0 A) 8 1 B) 8 2 C) 8 3 D) := by rw [e4]; exact pu_X_up (b := 10) (f := 8) X3 (by omega)
  have f1 : pu_fX σx x1 := by rw [e1]; exact pu_fX_up (pu_fX_0 _) (by omega) (by omega)
  have f2 : pu_fX σx x2 := by rw [e2]; exact pu_fX_up f1 (by omega) (by omega)
  have f3 : pu_fX σx x3 := by rw [e3]; exact pu_fX_up f2 (by omega) (by omega)
  have f4 : pu_fX σx x4 := by rw [e4]; exact pu_fX_up f3 (by omega) (by omega)
  have qA := pA σx
  have qB := pB x1
  have qC := pC x2
  have qD := pD x3
  rw [← e1] at qA
  rw [← e2, if_pos (show 0 ≤ B ∧ B ≤ 9 by omega)] at qB
  rw [← e3] at qC
  rw [← e4] at qD
  by_cases g1 : 1 ≤ A ∧ A ≤ 11
  · rw [if_pos g1] at qA wA
    by_cases g2 : C ≤ 40
    · rw [if_pos (by omega)] at qC
      by_cases g3 : 1 ≤ D ∧ D ≤ 20
      · rw [if_pos g3] at qD wD
        obtain ⟨m1, u1⟩ : ∃ z, z = ob_up σ1 7 0 (nI A) := ⟨_, rfl⟩
        obtain ⟨m2, u2⟩ : ∃ z, z = ob_up m1 7 1 (nI B) := ⟨_, rfl⟩
        obtain ⟨m3, u3⟩ : ∃ z, z = ob_up m2 7 2 (nI C) := ⟨_, rfl⟩
        obtain ⟨m4, u4⟩ : ∃ z, z = ob_up m3 7 3 (nI D) := ⟨_, rfl⟩
        have M1 : pu_M m1 (pu_upK K 8 0 A) := by rw [u1]; exact pu_M_upB d4
        have M2 : pu_M m2 (pu_upK (pu_upK K 8 0 A) 8 1 B) := by rw [u2]; exact pu_M_upB M1
        have M3 : pu_M m3 (pu_upK (pu_upK (pu_upK K 8 0 A) 8 1 B) 8 2 C) := by rw [u3]; exact pu_M_upB M2
        have M4 : pu_M m4 (pu_upK (pu_upK (pu_upK (pu_upK K 8 0 A) 8 1 B) 8 2 C) 8 3 D) := by rw [u4]; exact pu_M_upB M3
        have y1 : ∀ q, q ≠ 7 → m1 q = σ1 q := fun q hq => by rw [u1, pu_un _ _ _ _ hq]
        have y2 : ∀ q, q ≠ 7 → m2 q = σ1 q := fun q hq => by rw [u2, pu_un _ _ _ _ hq, y1 q hq]
        have y3 : ∀ q, q ≠ 7 → m3 q = σ1 q := fun q hq => by rw [u3, pu_un _ _ _ _ hq, y2 q hq]
        have y4 : ∀ q, q ≠ 7 → m4 q = σ1 q := fun q hq => by rw [u4, pu_un _ _ _ _ hq, y3 q hq]
        have k1 := pu_ok_box hK 0 A (by omega) (by omega) (by omega) (by omega) (by omega) (by omega)
        have k2 := pu_ok_box k1 1 B (by omega) (by omega) (by omega) (by omega) (by omega) (by omega)
        have k3 := pu_ok_box k2 2 C (by omega) (by omega) (by omega) (by omega) (by omega) (by omega)
        have k4 := pu_ok_box k3 3 D (by omega) (by omega) (by omega) (by omega) (by omega) (by omega)
        refine Or.inl ⟨_, x4, m4, ?_, ?_, k4, ho, X4, f4, M4, ⟨fun q q1 q2 => by rw [y4 q (by omega)]; exact d5.1 q q1 q2, fun j j1 j2 => by rw [y4 0 (by omega)]; exact d5.2 j j1 j2⟩, by rw [y4 0 (by omega), el]; exact d2⟩
        · unfold f_X9_tellTo
          rw [pu_bd' _ (pu_letX hL hs ht hi), hc,  if_pos (show nI 98 = (98 : Int32) from rfl), pu_bd' _ (nA σx rfl rfl), pu_bd' _ qA, if_neg (by decide), pu_bd' _ (nB x1 (f1 28 (by omega)) (f1 29 (by omega))), pu_bd' _ qB, if_neg (by decide), pu_bd' _ (nC x2 (f2 28 (by omega)) (f2 29 (by omega))), pu_bd' _ qC, if_neg (by decide), pu_bd' _ (nD x3 (f3 28 (by omega)) (f3 29 (by omega))), pu_bd' _ qD, if_neg (by decide)]
          rfl
        · unfold f_X11_statement
          rw [pu_bd' _ (pu_isN hL hb hW 100 (y := 100) rfl (by omega) (fun w => by omega)), if_pos rfl, pu_bd' _ (pu_isY hL hW (s := 98) (y := 98) rfl hi hc), if_neg (by decide), pu_bd' _ d1', if_neg (by decide), if_neg (by decide), pu_bd' _ (mA σ1 rfl), pu_bd' _ wA, if_neg (by decide), pu_bd' _ (mC σ1 rfl), if_neg (show ¬ (40 : Int32) < nI C from Int32.not_lt.mpr (nI_le (b := 40) g2 (by omega))), pu_bd' _ (mD σ1 rfl), pu_bd' _ wD, if_neg (by decide), pu_bd' _ (mA σ1 rfl), pu_S6_0, ← u1, pu_L7_2, y1 10 (by omega), v2, pu_S6_1, ← u2, pu_bd' _ (mC m2 (y2 10 (by omega))), pu_S6_2, ← u3, pu_bd' _ (mD m3 (y3 10 (by omega))), pu_S6_3, ← u4]
      · rw [if_neg g3] at qD wD
        refine Or.inr ⟨x3, σ1, ?_, ?_, f3, d5⟩
        · unfold f_X9_tellTo
          rw [pu_bd' _ (pu_letX hL hs ht hi), hc,  if_pos (show nI 98 = (98 : Int32) from rfl), pu_bd' _ (nA σx rfl rfl), pu_bd' _ qA, if_neg (by decide), pu_bd' _ (nB x1 (f1 28 (by omega)) (f1 29 (by omega))), pu_bd' _ qB, if_neg (by decide), pu_bd' _ (nC x2 (f2 28 (by omega)) (f2 29 (by omega))), pu_bd' _ qC, if_neg (by decide), pu_bd' _ (nD x3 (f3 28 (by omega)) (f3 29 (by omega))), pu_bd' _ qD, if_pos rfl]
          rfl
        · unfold f_X11_statement
          rw [pu_bd' _ (pu_isN hL hb hW 100 (y := 100) rfl (by omega) (fun w => by omega)), if_pos rfl, pu_bd' _ (pu_isY hL hW (s := 98) (y := 98) rfl hi hc), if_neg (by decide), pu_bd' _ d1', if_neg (by decide), if_neg (by decide), pu_bd' _ (mA σ1 rfl), pu_bd' _ wA, if_neg (by decide), pu_bd' _ (mC σ1 rfl), if_neg (show ¬ (40 : Int32) < nI C from Int32.not_lt.mpr (nI_le (b := 40) g2 (by omega))), pu_bd' _ (mD σ1 rfl), pu_bd' _ wD, if_pos rfl]
    · rw [if_neg (by omega)] at qC
      refine Or.inr ⟨x2, σ1, ?_, ?_, f2, d5⟩
      · unfold f_X9_tellTo
        rw [pu_bd' _ (pu_letX hL hs ht hi), hc,  if_pos (show nI 98 = (98 : Int32) from rfl), pu_bd' _ (nA σx rfl rfl), pu_bd' _ qA, if_neg (by decide), pu_bd' _ (nB x1 (f1 28 (by omega)) (f1 29 (by omega))), pu_bd' _ qB, if_neg (by decide), pu_bd' _ (nC x2 (f2 28 (by omega)) (f2 29 (by omega))), pu_bd' _ qC, if_pos rfl]
        rfl
      · unfold f_X11_statement
        rw [pu_bd' _ (pu_isN hL hb hW 100 (y := 100) rfl (by omega) (fun w => by omega)), if_pos rfl, pu_bd' _ (pu_isY hL hW (s := 98) (y := 98) rfl hi hc), if_neg (by decide), pu_bd' _ d1', if_neg (by decide), if_neg (by decide), pu_bd' _ (mA σ1 rfl), pu_bd' _ wA, if_neg (by decide), pu_bd' _ (mC σ1 rfl), if_pos (show (40 : Int32) < nI C from (nI_ltI (a := 40) (by omega) (by omega)).mpr (by omega))]
  · rw [if_neg g1] at qA wA
    refine Or.inr ⟨σx, σ1, ?_, ?_, pu_fX_0 _, d5⟩
    · unfold f_X9_tellTo
      rw [pu_bd' _ (pu_letX hL hs ht hi), hc,  if_pos (show nI 98 = (98 : Int32) from rfl), pu_bd' _ (nA σx rfl rfl), pu_bd' _ qA, if_pos rfl]
      rfl
    · unfold f_X11_statement
      rw [pu_bd' _ (pu_isN hL hb hW 100 (y := 100) rfl (by omega) (fun w => by omega)), if_pos rfl, pu_bd' _ (pu_isY hL hW (s := 98) (y := 98) rfl hi hc), if_neg (by decide), pu_bd' _ d1', if_neg (by decide), if_neg (by decide), pu_bd' _ (mA σ1 rfl), pu_bd' _ wA, if_pos rfl]
end PUP
