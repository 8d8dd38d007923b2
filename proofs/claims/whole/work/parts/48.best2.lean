/-! BEST: the trying of all orders, side by side -/
noncomputable def pu_wo (K : pu_K) (o : Nat → Nat) (w : Nat) : Int32 := pu_tot K (pu_line K o 7) (pu_u K (pu_line K o 7) 7) w
section PUB2
variable {K Ko : pu_K} {hh : Nat} {T R : List Nat} {ρ : Nat → Int32}
def pu_bq (K Ko : pu_K) (hh : Nat) (T R : List Nat) (ρ : Nat → Int32) (fx fm : Option (Int32 × ob_St)) : Prop := ∃ r τx τm, fx = some (r, τx) ∧ fm = some (r, τm) ∧ pu_RX τx K Ko hh T R ρ ∧ pu_RM τm K Ko hh T R ρ ∧ pu_F K τx τm
def pu_wma (w : Nat) : Int32 := if w = 2 ∨ w = 7 then 1 else 0
theorem pu_bestS (hK : pu_ok K) {w c i n n' : Nat} {v an : Int32} {σx σm : ob_St} (hw : w ≤ 7) (ho : pu_ord K (pu_oc c))
    (contA : ∀ (v' : Int32) (σx2 σm2 : ob_St), pu_AX K Ko hh T R ρ c σx2 → pu_AM K Ko hh T R ρ c σm2 → pu_F K σx2 σm2 → pu_bq K Ko hh T R ρ (J_X10_findBest_127_39 (fun σ v1 v2 v3 v4 v5 => L_X10_findBest_39 n σ v1 v2 v3 v4 v5) σx2 (nI w) (pu_wma w) v' (nI i)) (J_X11_bestOf_104_19 (fun σ v1 v2 v3 v4 => L_X11_bestOf_19 n' σ v1 v2 v3 v4) σm2 (nI w) 1 v'))
    (hi : i < 720) (hB : (i = 0 ∧ an = 0) ∨ (0 < i ∧ an = 1 ∧ pu_F K σx σm)) (hAX : pu_AX K Ko hh T R ρ c σx) (hAM : pu_AM K Ko hh T R ρ c σm) :
    pu_bq K Ko hh T R ρ (L_X10_findBest_39 (n + 1) σx (nI w) (pu_wma w) v 1 (nI i)) (L_X11_bestOf_19 (n' + 1) σm (nI w) an v 1) := by
  have hd6 := hK.1
  obtain ⟨τx, x1, x2, x3, x4⟩ := pu_AXev hK ho hAX
  obtain ⟨τm, m1, m2, m3, m4⟩ := pu_AMev hK ho hAM
  have tx : τx 46 w = pu_wo K (pu_oc c) w := pu_totX hd6 x3 hw
  have tm : f_X11_totalOf τm (nI w) = some (pu_wo K (pu_oc c) w, τm) := pu_totM m2.1 hK ho m3 hw
  -- a better one
  have contB : pu_bq K Ko hh T R ρ (J_X10_findBest_106_39 (fun σ v1 v2 v3 v4 v5 => L_X10_findBest_39 n σ v1 v2 v3 v4 v5) τx (nI w) (pu_wma w) (nI i) (pu_wo K (pu_oc c) w)) (J_X11_bestOf_67_19 (fun σ v1 v2 v3 v4 => L_X11_bestOf_19 n' σ v1 v2 v3 v4) τm (nI w) (pu_wo K (pu_oc c) w)) := by
    obtain ⟨ux, u1, u2, u3⟩ := pu_AXcp hK x2
    obtain ⟨um, w1, w2, w3⟩ := pu_AMcp (v1 := nI w) (v2 := 1) (v3 := pu_wo K (pu_oc c) w) hK (K 0 0) 0 1000 τm (by omega) (by omega) m2 (fun j h => absurd h (Nat.not_lt_zero _))
    have w1' : L_X11_bestOf_75 1000 τm (nI w) 1 (pu_wo K (pu_oc c) w) 0 = some ((), um) := w1
    unfold J_X10_findBest_106_39 J_X11_bestOf_67_19
    rw [u1, pu_bd' _ w1']
    exact contA _ ux um u2 w2 (fun j hj => by rw [u3 j hj, w3 j hj])
  rw [L_X10_findBest_39, L_X11_bestOf_19, if_neg (show ¬ (720 : Int32) ≤ nI i from nI_ge (b := 720) hi (by omega)), if_neg (by decide), if_neg (by decide), pu_bd' _ x1, pu_ld (by omega) (by omega), tx, pu_bd' _ m1, pu_bd' _ tm]
  rcases hB with ⟨h1, h2⟩ | ⟨h1, h2, h3⟩
  · have e0 : nI i = 0 := by rw [h1]; rfl
    rw [h2, if_pos e0, if_pos rfl]
    exact contB
  · have hF : pu_F K τx τm := fun j hj => by rw [x4, m4]; exact h3 j hj
    have e0 : ¬ nI i = 0 := fun q => by
      have := (nI_eq (b := 0) (by omega) (by omega)).mp q
      omega
    rw [h2, if_neg e0, if_neg (show ¬ (1 : Int32) = 0 by decide)]
    have most : w = 2 ∨ w = 7 → pu_bq K Ko hh T R ρ (if pu_wo K (pu_oc c) w ≤ v then J_X10_findBest_127_39 (fun σ v1 v2 v3 v4 v5 => L_X10_findBest_39 n σ v1 v2 v3 v4 v5) τx (nI w) (pu_wma w) v (nI i) else J_X10_findBest_106_39 (fun σ v1 v2 v3 v4 v5 => L_X10_findBest_39 n σ v1 v2 v3 v4 v5) τx (nI w) (pu_wma w) (nI i) (pu_wo K (pu_oc c) w)) (J_X11_bestOf_52_19 (fun σ v1 v2 v3 v4 => L_X11_bestOf_19 n' σ v1 v2 v3 v4) τm (nI w) 1 v (pu_wo K (pu_oc c) w)) := by
      intro _
      unfold J_X11_bestOf_52_19
      by_cases l : pu_wo K (pu_oc c) w ≤ v
      · rw [if_pos l, if_pos l]
        exact contA v τx τm x2 m2 hF
      · rw [if_neg l, if_neg l]
        exact contB
    by_cases w2 : w = 2
    · have e1 : ¬ pu_wma w = 0 := by
        unfold pu_wma
        rw [if_pos (Or.inl w2)]
        decide
      rw [if_neg e1, if_pos (show nI w = (2 : Int32) by rw [w2]; rfl)]
      exact most (Or.inl w2)
    · rw [if_neg (show ¬ nI w = (2 : Int32) from fun q => w2 ((nI_eq (b := 2) (by omega) (by omega)).mp q))]
      by_cases w7 : w = 7
      · have e1 : ¬ pu_wma w = 0 := by
          unfold pu_wma
          rw [if_pos (Or.inr w7)]
          decide
        rw [if_neg e1, if_pos (show nI w = (7 : Int32) by rw [w7]; rfl)]
        exact most (Or.inr w7)
      · have e1 : pu_wma w = 0 := by
          unfold pu_wma
          rw [if_neg (by omega)]
        rw [if_pos e1, if_neg (show ¬ nI w = (7 : Int32) from fun q => w7 ((nI_eq (b := 7) (by omega) (by omega)).mp q))]
        by_cases l : v ≤ pu_wo K (pu_oc c) w
        · rw [if_pos l, if_pos l]
          exact contA v τx τm x2 m2 hF
        · rw [if_neg l, if_neg l]
          exact contB
theorem pu_bestL (hK : pu_ok K) {w : Nat} (hw : w ≤ 7) : ∀ (l : List Nat) (c i n n' : Nat) (v an : Int32) (σx σm : ob_St), pu_chk (K 0 0) l c = true → i + l.length ≤ 719 → l.length + 1 < n → l.length + 1 < n' → ((i = 0 ∧ an = 0) ∨ (0 < i ∧ an = 1 ∧ pu_F K σx σm)) → pu_AX K Ko hh T R ρ c σx → pu_AM K Ko hh T R ρ c σm →
    pu_bq K Ko hh T R ρ (L_X10_findBest_39 n σx (nI w) (pu_wma w) v 1 (nI i)) (L_X11_bestOf_19 n' σm (nI w) an v 1) := by
  intro l
  induction l with
  | nil =>
    intro c i n n' v an σx σm hc hi hn hn' hB hAX hAM
    obtain ⟨n, rfl⟩ : ∃ z, n = z + 2 := ⟨n - 2, by omega⟩
    obtain ⟨n', rfl⟩ : ∃ z, n' = z + 2 := ⟨n' - 2, by omega⟩
    rw [pu_chk, Bool.and_eq_true, decide_eq_true_eq] at hc
    refine pu_bestS hK hw (pu_vl_ord hc.1) (fun v' σx2 σm2 a1 a2 a3 => ?_) (by omega) hB hAX hAM
    obtain ⟨τm, t1, t2, t3⟩ := pu_AMag a2
    refine ⟨v', σx2, τm, ?_, ?_, a1.1, t2, fun j hj => by rw [t3]; exact a3 j hj⟩
    · unfold J_X10_findBest_127_39
      rw [pu_bd' _ ((pu_AXnx hK a1).1 hc.2)]
      show L_X10_findBest_39 (n + 1) σx2 (nI w) (pu_wma w) v' 0 (nI i + 1) = _
      rw [L_X10_findBest_39]
      by_cases q : (720 : Int32) ≤ nI i + 1
      · rw [if_pos q]
      · rw [if_neg q, if_pos rfl]
    · unfold J_X11_bestOf_104_19
      rw [pu_bd' _ ((pu_AMnx hK a2).1 hc.2)]
      show L_X11_bestOf_19 (n' + 1) σm2 (nI w) 1 v' 0 = _
      rw [L_X11_bestOf_19, if_pos rfl, pu_bd' _ t1]
  | cons c2 l ih =>
    intro c i n n' v an σx σm hc hi hn hn' hB hAX hAM
    rw [List.length_cons] at hi hn hn'
    obtain ⟨n, rfl⟩ : ∃ z, n = z + 1 := ⟨n - 1, by omega⟩
    obtain ⟨n', rfl⟩ : ∃ z, n' = z + 1 := ⟨n' - 1, by omega⟩
    rw [pu_chk, Bool.and_eq_true, Bool.and_eq_true] at hc
    refine pu_bestS hK hw (pu_vl_ord hc.1.1) (fun v' σx2 σm2 a1 a2 a3 => ?_) (by omega) hB hAX hAM
    obtain ⟨τx, s1, s2, s3⟩ := (pu_AXnx hK a1).2 c2 hc.1.2
    obtain ⟨τm, t1, t2, t3⟩ := (pu_AMnx hK a2).2 c2 hc.1.2
    have nx := ih c2 (i + 1) n n' v' 1 τx τm hc.2 (by omega) (by omega) (by omega) (Or.inr ⟨by omega, rfl, fun j hj => by rw [s3, t3]; exact a3 j hj⟩) s2 t2
    unfold J_X10_findBest_127_39 J_X11_bestOf_104_19
    rw [pu_bd' _ s1, pu_bd' _ t1, nI_1]
    exact nx
theorem pu_findBest (hK : pu_ok K) {w : Nat} (hw : w ≤ 7) {σx σm : ob_St} (hX : pu_RX σx K Ko hh T R ρ) (hM : pu_RM σm K Ko hh T R ρ) : pu_bq K Ko hh T R ρ (f_X10_findBest σx (nI w)) (f_X11_bestOf σm (nI w)) := by
  obtain ⟨τx, s1, s2⟩ := pu_startX hK hX
  obtain ⟨τ0, τm, t1, t2, t3⟩ := pu_startM hK hM
  obtain ⟨l, l1, l2⟩ := pu_chks hK.1
  have b := pu_bestL hK hw l pu_c0 0 1000 1000 0 0 τx τm l1 (by omega) (by omega) (by omega) (Or.inl ⟨rfl, rfl⟩) s2 t3
  have e2 : f_X11_bestOf σm (nI w) = L_X11_bestOf_19 1000 τm (nI w) 0 0 1 := by
    unfold f_X11_bestOf
    rw [pu_bd' _ t1, pu_bd' _ t2]
  have e16 : J_X10_findBest_16 σx (nI w) (pu_wma w) = L_X10_findBest_39 1000 τx (nI w) (pu_wma w) 0 1 0 := by
    unfold J_X10_findBest_16
    rw [pu_bd' _ s1]
  have e1 : f_X10_findBest σx (nI w) = J_X10_findBest_16 σx (nI w) (pu_wma w) := by
    unfold f_X10_findBest J_X10_findBest_11 pu_wma
    by_cases w2 : w = 2
    · rw [if_pos (show nI w = (2 : Int32) by rw [w2]; rfl), if_pos (Or.inl w2)]
    · rw [if_neg (show ¬ nI w = (2 : Int32) from fun q => w2 ((nI_eq (b := 2) (by omega) (by omega)).mp q))]
      by_cases w7 : w = 7
      · rw [if_pos (show nI w = (7 : Int32) by rw [w7]; rfl), if_pos (Or.inr w7)]
      · rw [if_neg (show ¬ nI w = (7 : Int32) from fun q => w7 ((nI_eq (b := 7) (by omega) (by omega)).mp q)), if_neg (by omega)]
  rw [e1, e16, e2]
  exact b
end PUB2
theorem pu_op_best {σx σm : ob_St} (a : Int32) (h : ob_RR σx σm) : ob_ok2 ob_RR (f_X10_best σx a) (f_X11_best σm a) := by
  obtain ⟨K, Ko, hh, T, R, ρ, hC, hX, hM⟩ := id h
  have x1 := pu_isTotal σx a
  have m1 := pu_within (σ := σm) (x := a) (a := 0) (b := 7)
  by_cases hd : 0 ≤ a ∧ a ≤ 7
  · rw [if_pos hd] at x1 m1
    obtain ⟨w, hw, rfl⟩ := pu_ltl (n := 7) (by decide) hd.1 hd.2
    obtain ⟨r, τx, τm, s1, s2, s3, s4, s5⟩ := pu_findBest hC.1 hw hX hM
    refine ⟨r, τx, τm, ?_, ?_, K, Ko, hh, T, R, ρ, hC, s3, s4⟩
    · unfold f_X10_best
      rw [pu_bd' _ x1, if_neg (by decide), pu_bd' _ s1]
    · unfold f_X11_best
      rw [pu_bd' _ m1, if_neg (by decide), pu_bd' _ s2]
  · rw [if_neg hd] at x1 m1
    exact pu_ok_refA 1 (by omega) rfl rfl h (by unfold f_X10_best; rw [pu_bd' _ x1, if_pos rfl]) (by unfold f_X11_best; rw [pu_bd' _ m1, if_pos rfl])
theorem pu_op_bestAt {σx σm : ob_St} (a b : Int32) (h : ob_RR σx σm) : ob_ok2 ob_RR (f_X10_bestAt σx a b) (f_X11_bestAt σm a b) := by
  obtain ⟨K, Ko, hh, T, R, ρ, hC, hX, hM⟩ := id h
  have hd6 := hC.1.1
  have x1 := pu_isTotal σx a
  have m1 := pu_within (σ := σm) (x := a) (a := 0) (b := 7)
  by_cases hd : 0 ≤ a ∧ a ≤ 7
  · rw [if_pos hd] at x1 m1
    obtain ⟨w, hw, rfl⟩ := pu_ltl (n := 7) (by decide) hd.1 hd.2
    have x2 := pu_hasDish hX.1 hC.1 b
    have m2 := pu_isDish hd6 hM.1.1 b
    by_cases hb : 0 ≤ b ∧ b < nI (K 0 0)
    · rw [if_pos hb] at x2 m2
      obtain ⟨n, hn, rfl⟩ := pu_num (by omega) hb
      obtain ⟨r, τx, τm, s1, s2, s3, s4, s5⟩ := pu_findBest hC.1 hw hX hM
      refine ⟨τx 49 n, τx, τm, ?_, ?_, K, Ko, hh, T, R, ρ, hC, s3, s4⟩
      · unfold f_X10_bestAt
        rw [pu_bd' _ x1, if_neg (by decide), pu_bd' _ x2, if_neg (by decide), pu_bd' _ s1, pu_ld (by omega) (by omega)]
      · unfold f_X11_bestAt
        rw [pu_bd' _ m1, if_neg (by decide), pu_bd' _ m2, if_neg (by decide), pu_bd' _ s2, pu_ld (by omega) (by omega), s5 n hn]
    · rw [if_neg hb] at x2 m2
      exact pu_ok_ref 0 (by omega) rfl rfl h (by unfold f_X10_bestAt; rw [pu_bd' _ x1, if_neg (by decide), pu_bd' _ x2, if_pos rfl]) (by unfold f_X11_bestAt; rw [pu_bd' _ m1, if_neg (by decide), pu_bd' _ m2, if_pos rfl])
  · rw [if_neg hd] at x1 m1
    exact pu_ok_ref 1 (by omega) rfl rfl h (by unfold f_X10_bestAt; rw [pu_bd' _ x1, if_pos rfl]) (by unfold f_X11_bestAt; rw [pu_bd' _ m1, if_pos rfl])
