/-- the class's rows behind an evening -/
def pu_EvX (K : pu_K) (o : Nat → Nat) (s : Nat) (τ : ob_St) : Prop :=
  (∀ d, d < K 0 0 → τ 39 d = nI (pu_u K (pu_line K o s) s d) ∧ τ 40 d = nI (pu_sv K (pu_u K (pu_line K o s) s) d) ∧ τ 41 d = nI (pu_wm K (pu_u K (pu_line K o s) s) d) ∧ τ 42 d = nI (pu_late K (pu_u K (pu_line K o s) s) d) ∧ τ 44 d = nI (pu_std K (pu_u K (pu_line K o s) s) d) ∧ τ 45 d = nI (pu_sl K s d)) ∧
  (∀ d, d < K 0 0 → d ≠ s → τ 43 d = nI (pu_g K (pu_line K o s) d)) ∧
  τ 46 0 = nI (pu_sum (pu_late K (pu_u K (pu_line K o s) s)) (K 0 0)) ∧ τ 46 1 = nI (pu_mx (pu_late K (pu_u K (pu_line K o s) s)) (K 0 0)) ∧ τ 46 2 = nI (pu_sum (pu_wm K (pu_u K (pu_line K o s) s)) (K 0 0)) ∧ τ 46 3 = nI (pu_sum (pu_sl K s) (K 0 0)) ∧ τ 46 4 = nI (pu_sum (pu_std K (pu_u K (pu_line K o s) s)) (K 0 0)) ∧ τ 46 5 = nI (pu_dn K (pu_line K o s)) ∧ τ 46 6 = nI (pu_gn K (pu_line K o s)) ∧ τ 46 7 = nI (pu_sum (pu_wm K (pu_u K (pu_line K o s) s)) (K 0 0)) - nI (pu_sum (pu_late K (pu_u K (pu_line K o s) s)) (K 0 0)) - 5 * nI (pu_sum (pu_sl K s) (K 0 0))
theorem pu_passL {b a : Nat} {K : pu_K} {s : Nat} {st : Int32} {u : Nat → Nat} (hb : b = 1 ∨ b = 10 ∨ b = 19) (hK : pu_ok K) (hst : pu_st K st s) (hu : ∀ d, d < K 0 0 → u d ≤ 6400) :
    ∀ (k i n : Nat) (τ : ob_St), i + k = K 0 0 → k < n → pu_X b τ K → (∀ d, d < K 0 0 → τ 39 d = nI (u d)) → (∀ d, d < i → τ 40 d = nI (pu_sv K u d) ∧ τ 41 d = nI (pu_wm K u d) ∧ τ 42 d = nI (pu_late K u d) ∧ τ 44 d = nI (pu_std K u d) ∧ τ 45 d = nI (pu_slop K (K 1 d))) →
      ∃ σ', L_X1_pass_38 b a n τ st (nI i) = some ((), σ') ∧ (∀ q, q ≠ 40 → q ≠ 41 → q ≠ 42 → q ≠ 44 → q ≠ 45 → q ≠ 46 → σ' q = τ q) ∧ (∀ d, d < K 0 0 → σ' 40 d = nI (pu_sv K u d) ∧ σ' 41 d = nI (pu_wm K u d) ∧ σ' 42 d = nI (pu_late K u d) ∧ σ' 44 d = nI (pu_std K u d) ∧ σ' 45 d = nI (pu_sl K s d)) ∧
      σ' 46 0 = nI (pu_sum (pu_late K u) (K 0 0)) ∧ σ' 46 1 = nI (pu_mx (pu_late K u) (K 0 0)) ∧ σ' 46 2 = nI (pu_sum (pu_wm K u) (K 0 0)) ∧ σ' 46 3 = nI (pu_sum (pu_sl K s) (K 0 0)) ∧ σ' 46 4 = nI (pu_sum (pu_std K u) (K 0 0)) ∧ σ' 46 5 = τ 46 5 ∧ σ' 46 6 = τ 46 6 ∧ σ' 46 7 = nI (pu_sum (pu_wm K u) (K 0 0)) - nI (pu_sum (pu_late K u) (K 0 0)) - 5 * nI (pu_sum (pu_sl K s) (K 0 0)) := by
  have hd6 := hK.1
  have hlt : ∀ j, j < K 0 0 → pu_late K u j ≤ 10000 := fun j hj => by
    have := hu j hj
    unfold pu_late
    omega
  intro k
  induction k with
  | zero =>
    intro i n τ hi hn hX h39 hr
    obtain ⟨n, rfl⟩ : ∃ z, n = z + 1 := ⟨n - 1, by omega⟩
    have hiK : i = K 0 0 := by omega
    subst hiK
    by_cases hs : s < K 0 0
    · have hstE : st = nI s := by
        rcases hst with ⟨-, q⟩ | ⟨q, -⟩
        · omega
        · exact q
      obtain ⟨τ1, d1⟩ : ∃ z, z = ob_up τ 45 s (nI (pu_slop K (K 1 s) + 2)) := ⟨_, rfl⟩
      have n1 : ∀ q, q ≠ 45 → τ1 q = τ q := fun q h => by rw [d1]; exact pu_un _ _ _ _ h
      have r45 : ∀ d, d < K 0 0 → τ1 45 d = nI (pu_sl K s d) := by
        intro d hd
        rw [d1]
        by_cases c : d = s
        · subst c
          rw [pu_uss, pu_sl, if_pos rfl]
        · rw [pu_usn _ _ _ _ c, (hr d hd).2.2.2.2, pu_sl, if_neg c]
          rfl
      obtain ⟨σ', z1, z2, z3, z4, z5, z6, z7, z8, z9, z10⟩ := pu_sumUp (b := b) (σ := τ1) (d := K 0 0) (lt := pu_late K u) (wm := pu_wm K u) (sl := pu_sl K s) (sd := pu_std K u) hb (by rw [n1 b (by omega)]; exact hX.1) hd6 (fun j hj => by rw [n1 42 (by decide)]; exact (hr j hj).2.2.1) hlt (fun j hj => by rw [n1 41 (by decide)]; exact (hr j hj).2.1) r45 (fun j hj => by rw [n1 44 (by decide)]; exact (hr j hj).2.2.2.1)
      refine ⟨σ', ?_, ?_, ?_, z3, z4, z5, z6, z7, by rw [z8, n1 _ (by decide)], by rw [z9, n1 _ (by decide)], z10⟩
      · rw [L_X1_pass_38, hX.1, if_pos (nI_le (Nat.le_refl _) (by omega)), pu_bd' _ (pu_hasDish hX hK st), if_pos ((pu_st_has hK hst).mpr hs), if_neg (by decide), hstE, pu_ld (by omega) (by omega), (hr s hs).2.2.2.2, show (2 : Int32) = nI 2 from rfl, nI_add, pu_sd (by omega) (by omega), ← d1, pu_bd' _ z1]
      · intro q q0 q1 q2 q4 q5 q6
        rw [z2 q q6, n1 q q5]
      · intro d hd
        have hrd := hr d hd
        refine ⟨?_, ?_, ?_, ?_, ?_⟩
        · rw [z2 _ (by decide), n1 _ (by decide)]; exact hrd.1
        · rw [z2 _ (by decide), n1 _ (by decide)]; exact hrd.2.1
        · rw [z2 _ (by decide), n1 _ (by decide)]; exact hrd.2.2.1
        · rw [z2 _ (by decide), n1 _ (by decide)]; exact hrd.2.2.2.1
        · rw [z2 _ (by decide)]; exact r45 d hd
    · have hsl : ∀ d, d < K 0 0 → pu_slop K (K 1 d) = pu_sl K s d := by
        intro d hd
        rw [pu_sl, if_neg (by omega)]
        rfl
      obtain ⟨σ', z1, z2, z3, z4, z5, z6, z7, z8, z9, z10⟩ := pu_sumUp (b := b) (σ := τ) (d := K 0 0) (lt := pu_late K u) (wm := pu_wm K u) (sl := pu_sl K s) (sd := pu_std K u) hb hX.1 hd6 (fun j hj => (hr j hj).2.2.1) hlt (fun j hj => (hr j hj).2.1) (fun j hj => by rw [(hr j hj).2.2.2.2, hsl j hj]) (fun j hj => (hr j hj).2.2.2.1)
      refine ⟨σ', ?_, ?_, ?_, z3, z4, z5, z6, z7, z8, z9, z10⟩
      · rw [L_X1_pass_38, hX.1, if_pos (nI_le (Nat.le_refl _) (by omega)), pu_bd' _ (pu_hasDish hX hK st), if_neg (fun q => hs ((pu_st_has hK hst).mp q)), if_pos rfl, pu_bd' _ z1]
      · intro q q0 q1 q2 q4 q5 q6
        rw [z2 q q6]
      · intro d hd
        have hrd := hr d hd
        refine ⟨?_, ?_, ?_, ?_, ?_⟩
        · rw [z2 _ (by decide)]; exact hrd.1
        · rw [z2 _ (by decide)]; exact hrd.2.1
        · rw [z2 _ (by decide)]; exact hrd.2.2.1
        · rw [z2 _ (by decide)]; exact hrd.2.2.2.1
        · rw [z2 _ (by decide), hrd.2.2.2.2, hsl d hd]
  | succ k ih =>
    intro i n τ hi hn hX h39 hr
    obtain ⟨n, rfl⟩ : ∃ z, n = z + 1 := ⟨n - 1, by omega⟩
    obtain ⟨τ1, s1, s2, s3, s40, s41, s42, s44, s45⟩ := pu_serve hb hK hX (x := i) (by omega) (u := u) (hu i (by omega)) (h39 i (by omega))
    have hX1 : pu_X b τ1 K := pu_X_keep hX (fun q hq => s2 _ (by omega) (by omega) (by omega) (by omega) (by omega))
    obtain ⟨σ', z1, z2, z3, z4, z5, z6, z7, z8, z9, z10, z11⟩ := ih (i + 1) n τ1 (by omega) (by omega) hX1 (fun d hd => by rw [s2 39 (by decide) (by decide) (by decide) (by decide) (by decide)]; exact h39 d hd) (fun d hd => by
      by_cases c : d = i
      · subst c
        exact ⟨s40, s41, s42, s44, s45⟩
      · have hrd := hr d (by omega)
        refine ⟨?_, ?_, ?_, ?_, ?_⟩
        · rw [s3 40 (by decide) d c]; exact hrd.1
        · rw [s3 41 (by decide) d c]; exact hrd.2.1
        · rw [s3 42 (by decide) d c]; exact hrd.2.2.1
        · rw [s3 44 (by decide) d c]; exact hrd.2.2.2.1
        · rw [s3 45 (by decide) d c]; exact hrd.2.2.2.2)
    have e46 := s2 46 (by decide) (by decide) (by decide) (by decide) (by decide)
    refine ⟨σ', ?_, ?_, z3, z4, z5, z6, z7, z8, by rw [z9, e46], by rw [z10, e46], z11⟩
    · rw [L_X1_pass_38, hX.1, if_neg (nI_ge (by omega) (by omega)), pu_bd' _ s1, nI_1]
      exact z1
    · intro q q0 q1 q2 q4 q5 q6
      rw [z2 q q0 q1 q2 q4 q5 q6, s2 q q0 q1 q2 q4 q5]
/-- an evening of the class, by an order that stands at the cell a -/
theorem pu_pass {b a : Nat} {K : pu_K} {o : Nat → Nat} {s : Nat} {st : Int32} {σ : ob_St} (hb : b = 1 ∨ b = 10 ∨ b = 19) (hK : pu_ok K) (ha : a ≠ 30 ∧ a ≠ 38) (hX : pu_X b σ K) (ho : pu_ord K o) (hoa : ∀ j, j < K 0 0 → σ a j = nI (o j)) (hst : pu_st K st s) :
    ∃ σ', f_X1_pass b a σ st = some ((), σ') ∧ (∀ q, q ≠ 30 → (q < 38 ∨ 46 < q) → σ' q = σ q) ∧ (∀ j, j ≠ 2 → σ' 30 j = σ 30 j) ∧ pu_EvX K o s σ' := by
  have hd6 := hK.1
  have h85 := hK.2.2.2.2.2.2.2.2.2.2
  obtain ⟨σ1, l1, l2, l3, l4, l5⟩ := pu_lineUp (b := b) (a := a) (d := K 0 0) (s := s) (o := o) (st := st) hd6 ha.1 ha.2 (by omega) (by omega) (fun j hj => by have := ho.1 j hj; omega) (pu_st_iff hK hst) hX.1 hoa
  have hX1 : pu_X b σ1 K := pu_X_keep hX (fun q hq => l2 _ (by omega) (by omega))
  have e81 := pu_Xf hX1 8 1 (by omega) (by omega) (by decide)
  have e85 := pu_Xf hX1 8 5 (by omega) (by omega) (by decide)
  have hll := pu_line_len hK o s
  obtain ⟨σ2, c1, c2, c3, c4, c5, c6, c7, c8⟩ := pu_carry (b := b) (K := K) (l := pu_line K o s) hb hK (pu_line_lt hK ho) hll 6 0 1000 (K 8 5) 0 σ1 hX1 l4 l5 (by rw [List.drop_zero]; exact hll) (Nat.zero_le _) (Nat.le_refl _) (by omega) (by omega)
  rw [List.drop_zero] at c3 c4 c5 c6
  have hX2 : pu_X b σ2 K := pu_X_keep hX1 (fun q hq => c2 _ (by omega) (by omega) (by omega))
  have e285 := pu_Xf hX2 8 5 (by omega) (by omega) (by decide)
  obtain ⟨D1, D2⟩ := pu_evD hK ho (s := s) (σ1 39) (σ1 43)
  obtain ⟨σ3, d3⟩ : ∃ z, z = (if s < K 0 0 then ob_up σ2 39 s (nI (K 8 5 + 60)) else σ2) := ⟨_, rfl⟩
  have n3 : ∀ q, q ≠ 39 → σ3 q = σ2 q := fun q h => by
    rw [d3]
    split
    · exact pu_un _ _ _ _ h
    · rfl
  have hX3 : pu_X b σ3 K := pu_X_keep hX2 (fun q hq => n3 _ (by omega))
  have u3 : ∀ d, d < K 0 0 → σ3 39 d = nI (pu_u K (pu_line K o s) s d) := by
    intro d hd
    rw [d3]
    by_cases c : d = s
    · subst c
      rw [if_pos hd, pu_uss, pu_u, if_pos rfl]
    · have h1 := (pu_evU hK ho hd c (σ1 39) (σ1 43)).1
      split
      · rw [pu_usn _ _ _ _ c, c3, h1]
      · rw [c3, h1]
  obtain ⟨σ4, z1, z2, z3, z4⟩ := pu_passL (b := b) (a := a) (u := pu_u K (pu_line K o s) s) hb hK hst (fun d hd => pu_u_le hK ho hd) (K 0 0) 0 1000 σ3 (by omega) (by omega) hX3 u3 (fun d hd => absurd hd (Nat.not_lt_zero d))
  refine ⟨σ4, ?_, ?_, ?_, ?_⟩
  · unfold f_X1_pass f_X1_carryAll
    rw [pu_bd' _ l1, pu_L6_1, e81, pu_L6_5, e85]
    rw [pu_lit0, pu_bd' _ c1, pu_bd' _ (pu_hasDish hX2 hK st)]
    by_cases hs : s < K 0 0
    · have hstE : st = nI s := by
        rcases hst with ⟨-, q⟩ | ⟨q, -⟩
        · omega
        · exact q
      rw [if_pos ((pu_st_has hK hst).mpr hs), if_neg (by decide), pu_L6_5, e285, show (60 : Int32) = nI 60 from rfl, nI_add]
      rw [if_pos hs] at d3
      rw [show ob_sd σ2 39 6 st (nI (K 8 5 + 60)) _ = _ from pu_sd' s hstE (by omega) (by omega), ← d3]
      exact z1
    · rw [if_neg (fun q => hs ((pu_st_has hK hst).mp q)), if_pos (show (0 : Int32) = nI 0 from rfl)]
      rw [if_neg hs] at d3
      rw [← d3]
      exact z1
  · intro q q30 hq
    rw [z2 q (by omega) (by omega) (by omega) (by omega) (by omega) (by omega), n3 q (by omega), c2 q (by omega) (by omega) (by omega), l2 q q30 (by omega)]
  · intro j hj
    rw [z2 30 (by decide) (by decide) (by decide) (by decide) (by decide) (by decide), n3 30 (by decide), c2 30 (by decide) (by decide) (by decide)]
    exact l3 j hj
  · obtain ⟨y0, y1, y2, y3, y4, y5, y6, y7⟩ := z4
    refine ⟨fun d hd => ?_, fun d hd hs => ?_, y0, y1, y2, y3, y4, ?_, ?_, y7⟩
    · rw [z2 39 (by decide) (by decide) (by decide) (by decide) (by decide) (by decide)]
      exact ⟨u3 d hd, z3 d hd⟩
    · rw [z2 43 (by decide) (by decide) (by decide) (by decide) (by decide) (by decide), n3 43 (by decide), c4]
      exact (pu_evU hK ho hd hs (σ1 39) (σ1 43)).2.1
    · rw [y5, n3 46 (by decide), c5, D1]
    · rw [y6, n3 46 (by decide), c6, D2]
