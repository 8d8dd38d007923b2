/-! FITS: the trying of all orders, side by side -/
section PUB3
variable {K Ko : pu_K} {hh : Nat} {T R : List Nat} {ρ : Nat → Int32}
theorem pu_judgeO {σx σm : ob_St} {o g : Nat → Nat} (hK : pu_ok K) (ho : pu_ord K o) (hx0 : σx 1 0 = nI (K 0 0)) (hx48 : ∀ j, j < K 0 0 → σx 48 j = nI (o j)) (hm0 : σm 0 0 = nI (K 0 0)) (hm6 : ∀ j, j < K 0 0 → σm 6 j = nI (o j)) (hg : ∀ d, d < K 0 0 → σx 43 d = nI (g d) ∧ σm 16 d = nI (g d)) (hx9 : σx 0 9 = nI R.length) (hx : pu_list (σx 50) R) (hm9 : σm 0 13 = nI R.length) (hm : pu_list (σm 11) R) (hR : R.length ≤ 12) : ∀ (k i n : Nat), i + k = R.length → k < n → ∃ r, L_X10_firstNotSo_15 48 n σx (nI i) = some (r, σx) ∧ L_X11_wrong_8 n σm (nI i) = some (r, σm) := by
  have hd6 := hK.1
  intro k
  induction k with
  | zero =>
    intro i n h1 h2
    obtain ⟨n, rfl⟩ : ∃ z, n = z + 1 := ⟨n - 1, by omega⟩
    exact ⟨-9, by rw [L_X10_firstNotSo_15, hx9, if_pos (nI_le (by omega) (by omega))], by rw [L_X11_wrong_8, hm9, if_pos (nI_le (by omega) (by omega))]⟩
  | succ k ih =>
    intro i n h1 h2
    obtain ⟨n, rfl⟩ : ∃ z, n = z + 1 := ⟨n - 1, by omega⟩
    have gR : ¬ nI R.length ≤ nI i := nI_ge (by omega) (by omega)
    rw [L_X10_firstNotSo_15, hx9, if_neg gR, hx0, L_X11_wrong_8, hm9, if_neg gR, hm0]
    by_cases c : K 0 0 ≤ i
    · exact ⟨nI i, by rw [if_pos (nI_le c (by omega))], by rw [if_pos (nI_le c (by omega))]⟩
    · have hi : i < K 0 0 := by omega
      have hoi := ho.1 i hi
      obtain ⟨g1, g2⟩ := hg _ hoi
      rw [if_neg (nI_ge hi (by omega)), if_neg (nI_ge hi (by omega)), pu_ld (show i < 6 by omega) (by omega), hx48 i hi, pu_ld (show o i < 6 by omega) (by omega), g1, pu_ld (show i < 12 by omega) (by omega), hx i (by omega), pu_ld (show i < 6 by omega) (by omega), hm6 i hi, pu_ld (show o i < 6 by omega) (by omega), g2, pu_ld (show i < 12 by omega) (by omega), hm i (by omega)]
      by_cases c2 : nI (g (o i)) = nI (R.getD i 0)
      · rw [if_pos c2, if_pos c2, nI_1]
        exact ih (i + 1) n (by omega) (by omega)
      · rw [if_neg c2, if_neg c2]
        exact ⟨nI i, rfl, rfl⟩
/-- one order held against the ROW -/
theorem pu_tryF {c : Nat} {σx σm : ob_St} (hK : pu_ok K) (hR : R.length ≤ 12) (ho : pu_ord K (pu_oc c)) (hAX : pu_AX K Ko hh T R ρ c σx) (hAM : pu_AM K Ko hh T R ρ c σm) : ∃ r τx τm, f_X10_firstNotSo 48 σx = some (r, τx) ∧ f_X11_wrong σm = some (r, τm) ∧ pu_AX K Ko hh T R ρ c τx ∧ pu_AM K Ko hh T R ρ c τm ∧ τx 49 = σx 49 ∧ τm 17 = σm 17 := by
  obtain ⟨τx, x1, x2, x3, x4⟩ := pu_AXev hK ho hAX
  obtain ⟨τm, m1, m2, m3, m4⟩ := pu_AMev hK ho hAM
  have hd6 := hK.1
  obtain ⟨r, r1, r2⟩ := pu_judgeO hK ho x2.1.1.1 x2.2.2 m2.1.1 m2.2.2.1 (fun d hd => ⟨x3.2.1 d hd (by omega), m3.2.1 d hd (by omega)⟩) x2.1.2.2.2.2.2.1 x2.1.2.2.2.2.2.2.1 m2.2.2.2.2.2.2.2.1 m2.2.2.2.2.2.2.2.2.1 hR R.length 0 1000 (by omega) (by omega)
  refine ⟨r, τx, τm, ?_, ?_, x2, m2, x4, m4⟩
  · unfold f_X10_firstNotSo
    rw [pu_bd' _ x1]
    exact r1
  · unfold f_X11_wrong
    rw [pu_bd' _ m1]
    exact r2
noncomputable def pu_fe (v1 N : Int32) (σ6 : ob_St) : Option (Int32 × ob_St) :=
  if (0 : Int32) ≤ v1 then
    if N = 0 then
      some ((-9), σ6)
    else
      ob_ld σ6 17 6 v1 fun v_7 =>
      some (v_7, σ6)
  else
    some (N, σ6)
def pu_fq (K Ko : pu_K) (hh : Nat) (T R : List Nat) (ρ : Nat → Int32) (v1 : Int32) (fx fm : Option (Int32 × ob_St)) : Prop := ∃ N τx τm, fx = some (N, τx) ∧ fm = pu_fe v1 N τm ∧ pu_RX τx K Ko hh T R ρ ∧ pu_RM τm K Ko hh T R ρ ∧ (N ≠ 0 → pu_F K τx τm)
theorem pu_fitsS (hK : pu_ok K) (hR : R.length ≤ 12) {c i m n n' : Nat} {v1 : Int32} {σx σm : ob_St} (ho : pu_ord K (pu_oc c))
    (contA : ∀ (m' : Nat) (σx2 σm2 : ob_St), m' ≤ i + 1 → pu_AX K Ko hh T R ρ c σx2 → pu_AM K Ko hh T R ρ c σm2 → (nI m' ≠ 0 → pu_F K σx2 σm2) → pu_fq K Ko hh T R ρ v1 (J_X10_findFitting_72_20 (fun σ v1 v2 v3 => L_X10_findFitting_20 n σ v1 v2 v3) σx2 (nI m') (nI i)) (J_X11_fits_94_42 (fun σ v1 v2 v3 => L_X11_fits_42 n' σ v1 v2 v3) σm2 v1 (nI m')))
    (hi : i < 720) (hm : m ≤ i) (hF : nI m ≠ 0 → pu_F K σx σm) (hAX : pu_AX K Ko hh T R ρ c σx) (hAM : pu_AM K Ko hh T R ρ c σm) :
    pu_fq K Ko hh T R ρ v1 (L_X10_findFitting_20 (n + 1) σx (nI m) 1 (nI i)) (L_X11_fits_42 (n' + 1) σm v1 (nI m) 1) := by
  have hd6 := hK.1
  obtain ⟨r, τx, τm, t1, t2, t3, t4, t5, t6⟩ := pu_tryF hK hR ho hAX hAM
  have hF2 : nI m ≠ 0 → pu_F K τx τm := fun q j hj => by rw [t5, t6]; exact hF q j hj
  rw [L_X10_findFitting_20, L_X11_fits_42, if_neg (show ¬ (720 : Int32) ≤ nI i from nI_ge (b := 720) hi (by omega)), if_neg (by decide), if_neg (by decide), pu_bd' _ t1, pu_bd' _ t2]
  by_cases r9 : r = -9
  · rw [if_pos r9, if_pos r9]
    by_cases m0 : nI m = 0
    · rw [if_pos m0, if_pos m0]
      obtain ⟨ux, u1, u2, u3⟩ := pu_AXcp hK t3
      obtain ⟨um, w1, w2, w3⟩ := pu_AMcpF (v1 := v1) (v2 := nI m) hK (K 0 0) 0 1000 τm (by omega) (by omega) t4 (fun j h => absurd h (Nat.not_lt_zero _))
      have w1' : L_X11_fits_62 1000 τm v1 (nI m) 0 = some ((), um) := w1
      unfold J_X10_findFitting_69_20 J_X11_fits_91_42
      rw [u1, pu_bd' _ w1', nI_1]
      exact contA (m + 1) ux um (by omega) u2 w2 (fun _ j hj => by rw [u3 j hj, w3 j hj])
    · rw [if_neg m0, if_neg m0]
      unfold J_X10_findFitting_69_20 J_X11_fits_91_42
      rw [nI_1]
      exact contA (m + 1) τx τm (by omega) t3 t4 (fun _ => hF2 m0)
  · rw [if_neg r9, if_neg r9]
    exact contA m τx τm (by omega) t3 t4 hF2
theorem pu_fitsL (hK : pu_ok K) (hR : R.length ≤ 12) {v1 : Int32} : ∀ (l : List Nat) (c i m n n' : Nat) (σx σm : ob_St), pu_chk (K 0 0) l c = true → i + l.length ≤ 719 → l.length + 1 < n → l.length + 1 < n' → m ≤ i → (nI m ≠ 0 → pu_F K σx σm) → pu_AX K Ko hh T R ρ c σx → pu_AM K Ko hh T R ρ c σm →
    pu_fq K Ko hh T R ρ v1 (L_X10_findFitting_20 n σx (nI m) 1 (nI i)) (L_X11_fits_42 n' σm v1 (nI m) 1) := by
  intro l
  induction l with
  | nil =>
    intro c i m n n' σx σm hc hi hn hn' hm hF hAX hAM
    obtain ⟨n, rfl⟩ : ∃ z, n = z + 2 := ⟨n - 2, by omega⟩
    obtain ⟨n', rfl⟩ : ∃ z, n' = z + 2 := ⟨n' - 2, by omega⟩
    rw [pu_chk, Bool.and_eq_true, decide_eq_true_eq] at hc
    refine pu_fitsS hK hR (pu_vl_ord hc.1) (fun m' σx2 σm2 a0 a1 a2 a3 => ?_) (by omega) hm hF hAX hAM
    obtain ⟨τm, t1, t2, t3⟩ := pu_AMag a2
    refine ⟨nI m', σx2, τm, ?_, ?_, a1.1, t2, fun q j hj => by rw [t3]; exact a3 q j hj⟩
    · unfold J_X10_findFitting_72_20
      rw [pu_bd' _ ((pu_AXnx hK a1).1 hc.2)]
      show L_X10_findFitting_20 (n + 1) σx2 (nI m') 0 (nI i + 1) = _
      rw [L_X10_findFitting_20]
      by_cases q : (720 : Int32) ≤ nI i + 1
      · rw [if_pos q]
      · rw [if_neg q, if_pos rfl]
    · unfold J_X11_fits_94_42
      rw [pu_bd' _ ((pu_AMnx hK a2).1 hc.2)]
      show L_X11_fits_42 (n' + 1) σm2 v1 (nI m') 0 = _
      rw [L_X11_fits_42, if_pos rfl, pu_bd' _ t1]
      rfl
  | cons c2 l ih =>
    intro c i m n n' σx σm hc hi hn hn' hm hF hAX hAM
    rw [List.length_cons] at hi hn hn'
    obtain ⟨n, rfl⟩ : ∃ z, n = z + 1 := ⟨n - 1, by omega⟩
    obtain ⟨n', rfl⟩ : ∃ z, n' = z + 1 := ⟨n' - 1, by omega⟩
    rw [pu_chk, Bool.and_eq_true, Bool.and_eq_true] at hc
    refine pu_fitsS hK hR (pu_vl_ord hc.1.1) (fun m' σx2 σm2 a0 a1 a2 a3 => ?_) (by omega) hm hF hAX hAM
    obtain ⟨τx, s1, s2, s3⟩ := (pu_AXnx hK a1).2 c2 hc.1.2
    obtain ⟨τm, t1, t2, t3⟩ := (pu_AMnx hK a2).2 c2 hc.1.2
    have nx := ih c2 (i + 1) m' n n' τx τm hc.2 (by omega) (by omega) (by omega) a0 (fun q j hj => by rw [s3, t3]; exact a3 q j hj) s2 t2
    unfold J_X10_findFitting_72_20 J_X11_fits_94_42
    rw [pu_bd' _ s1, pu_bd' _ t1, nI_1]
    exact nx
end PUB3
theorem pu_op_fits {σx σm : ob_St} (a : Int32) (h : ob_RR σx σm) : ob_ok2 ob_RR (f_X10_fits σx a) (f_X11_fits σm a) := by
  obtain ⟨K, Ko, hh, T, R, ρ, hC, hX, hM⟩ := id h
  have hK := hC.1
  have hd6 := hK.1
  by_cases h1 : -1 ≤ a
  · by_cases h2 : a < nI (K 0 0)
    · obtain ⟨τx, s1, s2⟩ := pu_startX hK hX
      obtain ⟨τ0, τm, t1, t2, t3⟩ := pu_startM hK hM
      obtain ⟨l, l1, l2⟩ := pu_chks hK.1
      obtain ⟨N, ux, um, b1, b2, b3, b4, b5⟩ := pu_fitsL (v1 := a) hK hC.2.2.2.2.2.2.1 l pu_c0 0 0 1000 1000 τx τm l1 (by omega) (by omega) (by omega) (Nat.le_refl _) (fun q => absurd rfl q) s2 t3
      have e1 : f_X10_findFitting σx = some (N, ux) := by
        unfold f_X10_findFitting
        rw [pu_bd' _ s1]
        exact b1
      have e2 : f_X11_fits σm a = pu_fe a N um := by
        unfold f_X11_fits
        rw [if_pos h1, hM.1.1, if_pos h2, pu_bd' _ t1, pu_bd' _ t2]
        exact b2
      have e3 : f_X10_fits σx a = if (0 : Int32) ≤ a then (if N = 0 then some ((-9), ux) else ob_ld ux 49 6 a fun v_3 => some (v_3, ux)) else some (N, ux) := by
        unfold f_X10_fits
        rw [if_pos h1, hX.1.1, if_pos h2, pu_bd' _ e1]
      rw [e2, e3]
      unfold pu_fe
      by_cases h3 : 0 ≤ a
      · rw [if_pos h3, if_pos h3]
        by_cases h4 : N = 0
        · rw [if_pos h4, if_pos h4]
          exact ⟨-9, ux, um, rfl, rfl, K, Ko, hh, T, R, ρ, hC, b3, b4⟩
        · rw [if_neg h4, if_neg h4]
          obtain ⟨n, hn, rfl⟩ := pu_num (by omega) ⟨h3, h2⟩
          refine ⟨ux 49 n, ux, um, by rw [pu_ld (by omega) (by omega)], by rw [pu_ld (by omega) (by omega), b5 h4 n hn], K, Ko, hh, T, R, ρ, hC, b3, b4⟩
      · rw [if_neg h3, if_neg h3]
        exact ⟨N, ux, um, rfl, rfl, K, Ko, hh, T, R, ρ, hC, b3, b4⟩
    · exact pu_ok_ref 0 (by omega) rfl rfl h (by unfold f_X10_fits; rw [if_pos h1, hX.1.1, if_neg h2]) (by unfold f_X11_fits; rw [if_pos h1, hM.1.1, if_neg h2])
  · exact pu_ok_ref 3 (by omega) rfl rfl h (by unfold f_X10_fits; rw [if_neg h1]) (by unfold f_X11_fits; rw [if_neg h1])
