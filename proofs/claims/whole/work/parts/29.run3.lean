/-- the reference's rows behind an evening -/
def pu_EvM (K : pu_K) (o : Nat → Nat) (s : Nat) (τ : ob_St) : Prop :=
  (∀ d, d < K 0 0 → τ 15 d = nI (pu_u K (pu_line K o s) s d)) ∧ (∀ d, d < K 0 0 → d ≠ s → τ 16 d = nI (pu_g K (pu_line K o s) d)) ∧ τ 0 22 = nI (pu_dn K (pu_line K o s)) ∧ τ 0 21 = nI (pu_gn K (pu_line K o s))
theorem pu_run {K : pu_K} {o : Nat → Nat} {s : Nat} {st : Int32} {σ : ob_St} (hK : pu_ok K) (hM : pu_M0 σ K) (ho : pu_ord K o) (hO : ∀ j, j < K 0 0 → σ 6 j = nI (o j)) (hst : pu_sM K st s) :
    ∃ σ', f_X11_run σ st = some ((), σ') ∧ (∀ q, q ≠ 0 → q ≠ 15 → q ≠ 16 → σ' q = σ q) ∧ (∀ j, j ≠ 21 → j ≠ 22 → σ' 0 j = σ 0 j) ∧ pu_EvM K o s σ' := by
  have hd6 := hK.1
  obtain ⟨σ1, d1⟩ : ∃ z, z = ob_up σ 0 21 (nI 0) := ⟨_, rfl⟩
  obtain ⟨σ2, d2⟩ : ∃ z, z = ob_up σ1 0 22 (nI (K 8 5)) := ⟨_, rfl⟩
  have n1 : ∀ q, q ≠ 0 → σ1 q = σ q := fun q h => by rw [d1, pu_un _ _ _ _ h]
  have n2 : ∀ q, q ≠ 0 → σ2 q = σ q := fun q h => by rw [d2, pu_un _ _ _ _ h, n1 q h]
  have n0 : ∀ j, j ≠ 21 → j ≠ 22 → σ2 0 j = σ 0 j := fun j h1 h2 => by rw [d2, pu_usn _ _ _ _ h2, d1, pu_usn _ _ _ _ h1]
  have hM2 : pu_M0 σ2 K := pu_M0_keep hM (n0 0 (by decide) (by decide)) (fun q h1 h2 => n2 q (by omega))
  have hS : pu_SI K o s 0 σ2 := fun ⟨j, hj, _⟩ => absurd hj (Nat.not_lt_zero j)
  have hll := pu_line_len hK o s
  obtain ⟨σ', r1, r2, r3, r4, r5, r6, r7⟩ := pu_runL hK ho hst (K 0 0) (K 0 0) 6 0 1000 (K 8 5) 0 σ2 (Nat.le_refl _) (by omega) (by omega) (by rw [← pu_seg_line]; exact hll) hM2 (fun j hj => by rw [n2 6 (by decide)]; exact hO j hj) (by rw [d2, pu_usn _ _ _ _ (by decide), d1, pu_uss]) (by rw [d2, pu_uss]) hS
  rw [← pu_seg_line] at r4 r5 r6
  obtain ⟨D1, D2⟩ := pu_evD hK ho (s := s) (σ2 15) (σ2 16)
  refine ⟨σ', ?_, fun q q0 q1 q2 => by rw [r2 q q0 q1 q2, n2 q q0], fun j j1 j2 => by rw [r3 j j1 j2, n0 j j1 j2], fun d hd => ?_, fun d hd hs => ?_, by rw [r5, D1], by rw [r6, D2]⟩
  · unfold f_X11_run
    rw [pu_pf, pu_lit0, ← d1, pu_L6_5, n1 7 (by decide), hM.2.2.1 5 (by omega), pu_pf, ← d2]
    exact r1
  · by_cases hs : d = s
    · obtain ⟨j, hj, hjd⟩ := ho.2 d hd
      rw [hs, (r7 ⟨j, hj, by rw [← hs]; exact hjd⟩).1, pu_u, if_pos rfl]
    · rw [(r4 d hs).1]
      exact (pu_evU hK ho hd hs (σ2 15) (σ2 16)).1
  · rw [(r4 d hs).2]
    exact (pu_evU hK ho hd hs (σ2 15) (σ2 16)).2.1
/-! what the reference reads off its rows -/
theorem pu_beginM {σ : ob_St} {K : pu_K} (h : pu_M0 σ K) {c : Nat} (hc : c < 5) : f_X11_begin σ (nI c) = some (nI (pu_begin K c), σ) := by
  unfold f_X11_begin
  rw [pu_ld hc (by omega), h.2.2.2 c hc, show (100 : Int32) = nI 100 from rfl, pk_mul, nI_add]
  rfl
theorem pu_beg_le {K : pu_K} (hK : pu_ok K) {d : Nat} (hd : d < 6) : pu_begin K (K 5 d) ≤ 600 ∧ K 5 d < 5 := by
  have h5 := (hK.2.1 d hd).2.2.2.2.1
  have h7 := hK.2.2.2.2.1 (K 5 d) (by omega)
  unfold pu_begin
  omega
theorem pu_servM {σ : ob_St} {K : pu_K} (h : pu_M0 σ K) (hK : pu_ok K) {d : Nat} {u : Nat → Nat} (hd : d < 6) (hu : u d ≤ 6400) (h15 : σ 15 d = nI (u d)) : f_X11_servedOf σ (nI d) = some (nI (pu_sv K u d), σ) := by
  obtain ⟨b1, b2⟩ := pu_beg_le hK hd
  unfold f_X11_servedOf
  rw [pu_ld hd (by omega), h15, pu_ld hd (by omega), h.2.1 5 (by omega) (by omega) d hd, pu_bd' _ (pu_beginM h b2), pu_max (by omega) (by omega)]
  rfl
theorem pu_lateM {σ : ob_St} {K : pu_K} (h : pu_M0 σ K) (hK : pu_ok K) {d : Nat} {u : Nat → Nat} (hd : d < 6) (hu : u d ≤ 6400) (h15 : σ 15 d = nI (u d)) : f_X11_lateOf σ (nI d) = some (nI (pu_late K u d), σ) := by
  obtain ⟨b1, b2⟩ := pu_beg_le hK hd
  unfold f_X11_lateOf
  rw [pu_ld hd (by omega), h15, pu_ld hd (by omega), h.2.1 5 (by omega) (by omega) d hd, pu_bd' _ (pu_beginM h b2), pu_max0 (by omega) (by omega)]
  rfl
theorem pu_stdM {σ : ob_St} {K : pu_K} (h : pu_M0 σ K) (hK : pu_ok K) {d : Nat} {u : Nat → Nat} (hd : d < 6) (hu : u d ≤ 6400) (h15 : σ 15 d = nI (u d)) : f_X11_stoodOf σ (nI d) = some (nI (pu_std K u d), σ) := by
  unfold f_X11_stoodOf
  rw [pu_bd' _ (pu_servM h hK hd hu h15), pu_ld hd (by omega), h15, pk_sub (show u d ≤ pu_sv K u d by unfold pu_sv; omega)]
  rfl
theorem pu_slopM {σ : ob_St} {K : pu_K} (h : pu_M0 σ K) (hK : pu_ok K) {d : Nat} (hd : d < 6) : f_X11_slops σ (nI d) = some (nI (pu_slop K (K 1 d)), σ) := by
  have hk := (hK.2.1 d hd).1
  have h4 : ∀ z, (4 : Int32) * nI z = nI (4 * z) := fun z => by rw [show (4 : Int32) = nI 4 from rfl, pk_mul]
  unfold f_X11_slops
  rw [pu_ld hd (by omega), h.2.1 1 (by omega) (by omega) d hd]
  simp only [pu_L6_4, h.2.2.1 4 (by omega), h4, nI_1]
  generalize K 1 d = k at hk ⊢
  rcases (show k = 0 ∨ k = 1 ∨ k = 2 ∨ k = 3 ∨ k = 4 ∨ k = 5 by omega) with rfl | rfl | rfl | rfl | rfl | rfl <;> rfl
theorem pu_coolM {σ : ob_St} {K : pu_K} (h : pu_M0 σ K) (hK : pu_ok K) {d n : Nat} (hd : d < 6) (hn : n < 2 ^ 30) : f_X11_cools σ (nI d) (nI n) = some (nI (pu_cool (K 1 d) n), σ) := by
  have hk := (hK.2.1 d hd).1
  have h10 : nI n / 10 = nI (n / 10) := pk_div (d := 10) (by omega) (by omega) (by omega)
  have h2 : nI (n / 10) / 2 = nI (n / 10 / 2) := pk_div (d := 2) (by omega) (by omega) (by omega)
  have h1 : nI (n / 10) + 1 = nI (n / 10 + 1) := nI_1 _
  unfold f_X11_cools J_X11_cools_36
  rw [pu_ld hd (by omega), h.2.1 1 (by omega) (by omega) d hd, h10, h2, h1]
  generalize K 1 d = k at hk ⊢
  rcases (show k = 0 ∨ k = 1 ∨ k = 2 ∨ k = 3 ∨ k = 4 ∨ k = 5 by omega) with rfl | rfl | rfl | rfl | rfl | rfl <;> rfl
theorem pu_cool_le (k n : Nat) : pu_cool k n ≤ n / 10 + 1 := by
  unfold pu_cool
  split <;> omega
theorem pu_warmM {σ : ob_St} {K : pu_K} (h : pu_M0 σ K) (hK : pu_ok K) {d : Nat} {u : Nat → Nat} (hd : d < 6) (hu : u d ≤ 6400) (h15 : σ 15 d = nI (u d)) : f_X11_warmOf σ (nI d) = some (nI (pu_wm K u d), σ) := by
  obtain ⟨b1, b2⟩ := pu_beg_le hK hd
  have h3 := (hK.2.1 d hd).2.2.1
  have hsv : pu_sv K u d ≤ 7000 := by unfold pu_sv; omega
  have hcl := pu_cool_le (K 1 d) (pu_sv K u d)
  unfold f_X11_warmOf
  rw [pu_ld hd (by omega), h.2.1 3 (by omega) (by omega) d hd, pu_bd' _ (pu_servM h hK hd hu h15), pu_bd' _ (pu_coolM h hK hd (by omega)), pu_max0 (by omega) (by omega)]
  rfl
/-- WORTH, as the reference sums it -/
def pu_w7 (w l s : Nat → Nat) : Nat → Int32
  | 0 => 0
  | n + 1 => pu_w7 w l s n + ((nI (w n) - nI (l n)) - 5 * nI (s n))
theorem pu_w7_eq (w l s : Nat → Nat) : ∀ n, pu_w7 w l s n = nI (pu_sum w n) - nI (pu_sum l n) - 5 * nI (pu_sum s n) := by
  intro n
  induction n with
  | zero =>
    show (0 : Int32) = nI 0 - nI 0 - 5 * nI 0
    decide
  | succ n ih =>
    rw [pu_w7, ih, pu_sum, pu_sum, pu_sum, ← nI_add, ← nI_add, ← nI_add]
    grind
def pu_tot (K : pu_K) (l : List Nat) (u : Nat → Nat) (w : Nat) : Int32 := match w with
  | 0 => nI (pu_sum (pu_late K u) (K 0 0))
  | 1 => nI (pu_mx (pu_late K u) (K 0 0))
  | 2 => nI (pu_sum (pu_wm K u) (K 0 0))
  | 3 => nI (pu_sum (fun d => pu_slop K (K 1 d)) (K 0 0))
  | 4 => nI (pu_sum (pu_std K u) (K 0 0))
  | 5 => nI (pu_dn K l)
  | 6 => nI (pu_gn K l)
  | _ => nI (pu_sum (pu_wm K u) (K 0 0)) - nI (pu_sum (pu_late K u) (K 0 0)) - 5 * nI (pu_sum (fun d => pu_slop K (K 1 d)) (K 0 0))
theorem pu_totM {σ : ob_St} {K : pu_K} {o : Nat → Nat} {s : Nat} (h : pu_M0 σ K) (hK : pu_ok K) (ho : pu_ord K o) (hE : pu_EvM K o s σ) {w : Nat} (hw : w ≤ 7) : f_X11_totalOf σ (nI w) = some (pu_tot K (pu_line K o s) (pu_u K (pu_line K o s) s) w, σ) := by
  have hd6 := hK.1
  have hu : ∀ d, d < K 0 0 → pu_u K (pu_line K o s) s d ≤ 6400 := fun d hd => pu_u_le hK ho hd
  generalize hug : pu_u K (pu_line K o s) s = u at hu ⊢
  have h15 : ∀ d, d < K 0 0 → σ 15 d = nI (u d) := fun d hd => by rw [← hug]; exact hE.1 d hd
  have hlt : ∀ d, d < K 0 0 → pu_late K u d ≤ 10000 := fun d hd => by
    have := hu d hd
    unfold pu_late
    omega
  have key : ∀ (k i n : Nat) (acc fin : Int32), i + k = K 0 0 → k < n → (∀ i, i < K 0 0 → True) → (w = 0 → acc = nI (pu_sum (pu_late K u) i)) → (w = 1 → acc = nI (pu_mx (pu_late K u) i)) → (w = 2 → acc = nI (pu_sum (pu_wm K u) i)) → (w = 3 → acc = nI (pu_sum (fun d => pu_slop K (K 1 d)) i)) → (w = 4 → acc = nI (pu_sum (pu_std K u) i)) → (w = 7 → acc = pu_w7 (pu_wm K u) (pu_late K u) (fun d => pu_slop K (K 1 d)) i) →
      L_X11_totalOf_4 n σ (nI w) acc (nI i) = some (pu_tot K (pu_line K o s) u w, σ) := by
    intro k
    induction k with
    | zero =>
      intro i n acc fin hi hn _ a0 a1 a2 a3 a4 a7
      obtain ⟨n, rfl⟩ : ∃ z, n = z + 1 := ⟨n - 1, by omega⟩
      have hiK : i = K 0 0 := by omega
      subst hiK
      rw [L_X11_totalOf_4, h.1, if_pos (nI_le (Nat.le_refl _) (by omega))]
      rcases (show w = 0 ∨ w = 1 ∨ w = 2 ∨ w = 3 ∨ w = 4 ∨ w = 5 ∨ w = 6 ∨ w = 7 by omega) with rfl | rfl | rfl | rfl | rfl | rfl | rfl | rfl
      · rw [if_neg (by decide), if_neg (by decide), a0 rfl]; rfl
      · rw [if_neg (by decide), if_neg (by decide), a1 rfl]; rfl
      · rw [if_neg (by decide), if_neg (by decide), a2 rfl]; rfl
      · rw [if_neg (by decide), if_neg (by decide), a3 rfl]; rfl
      · rw [if_neg (by decide), if_neg (by decide), a4 rfl]; rfl
      · rw [if_pos (by decide), hE.2.2.1]; rfl
      · rw [if_neg (by decide), if_pos (by decide), hE.2.2.2]; rfl
      · rw [if_neg (by decide), if_neg (by decide), a7 rfl, pu_w7_eq]; rfl
    | succ k ih =>
      intro i n acc fin hi hn hT a0 a1 a2 a3 a4 a7
      obtain ⟨n, rfl⟩ : ∃ z, n = z + 1 := ⟨n - 1, by omega⟩
      have hiK : i < K 0 0 := by omega
      have hm := pu_mx_le (f := pu_late K u) (B := 10000) i (fun j hj => hlt j (by omega))
      have hl := hlt i hiK
      have bL := pu_lateM h hK (d := i) (by omega) (hu i hiK) (h15 i hiK)
      have bW := pu_warmM h hK (d := i) (by omega) (hu i hiK) (h15 i hiK)
      have bS := pu_slopM h hK (d := i) (by omega)
      have bT := pu_stdM h hK (d := i) (by omega) (hu i hiK) (h15 i hiK)
      rw [L_X11_totalOf_4, h.1, if_neg (nI_ge hiK (by omega)), nI_1]
      rcases (show w = 0 ∨ w = 1 ∨ w = 2 ∨ w = 3 ∨ w = 4 ∨ w = 5 ∨ w = 6 ∨ w = 7 by omega) with rfl | rfl | rfl | rfl | rfl | rfl | rfl | rfl
      · rw [if_pos (by decide), pu_bd' _ bL, pu_nm, a0 rfl, nI_add]
        exact ih (i + 1) n _ fin (by omega) (by omega) hT (fun _ => rfl) (fun q => absurd q (by decide)) (fun q => absurd q (by decide)) (fun q => absurd q (by decide)) (fun q => absurd q (by decide)) (fun q => absurd q (by decide))
      · rw [if_neg (by decide), if_pos (by decide), pu_bd' _ bL, pu_nm, a1 rfl, pu_max (by omega) (by omega)]
        exact ih (i + 1) n _ fin (by omega) (by omega) hT (fun q => absurd q (by decide)) (fun _ => rfl) (fun q => absurd q (by decide)) (fun q => absurd q (by decide)) (fun q => absurd q (by decide)) (fun q => absurd q (by decide))
      · rw [if_neg (by decide), if_neg (by decide), if_pos (by decide), pu_bd' _ bW, pu_nm, a2 rfl, nI_add]
        exact ih (i + 1) n _ fin (by omega) (by omega) hT (fun q => absurd q (by decide)) (fun q => absurd q (by decide)) (fun _ => rfl) (fun q => absurd q (by decide)) (fun q => absurd q (by decide)) (fun q => absurd q (by decide))
      · rw [if_neg (by decide), if_neg (by decide), if_neg (by decide), if_pos (by decide), pu_bd' _ bS, pu_nm, a3 rfl, nI_add]
        exact ih (i + 1) n _ fin (by omega) (by omega) hT (fun q => absurd q (by decide)) (fun q => absurd q (by decide)) (fun q => absurd q (by decide)) (fun _ => rfl) (fun q => absurd q (by decide)) (fun q => absurd q (by decide))
      · rw [if_neg (by decide), if_neg (by decide), if_neg (by decide), if_neg (by decide), if_pos (by decide), pu_bd' _ bT, pu_nm, a4 rfl, nI_add]
        exact ih (i + 1) n _ fin (by omega) (by omega) hT (fun q => absurd q (by decide)) (fun q => absurd q (by decide)) (fun q => absurd q (by decide)) (fun q => absurd q (by decide)) (fun _ => rfl) (fun q => absurd q (by decide))
      · rw [if_neg (by decide), if_neg (by decide), if_neg (by decide), if_neg (by decide), if_neg (by decide), if_pos (by decide)]
        exact ih (i + 1) n _ fin (by omega) (by omega) hT (fun q => absurd q (by decide)) (fun q => absurd q (by decide)) (fun q => absurd q (by decide)) (fun q => absurd q (by decide)) (fun q => absurd q (by decide)) (fun q => absurd q (by decide))
      · rw [if_neg (by decide), if_neg (by decide), if_neg (by decide), if_neg (by decide), if_neg (by decide), if_neg (by decide), if_pos (by decide)]
        exact ih (i + 1) n _ fin (by omega) (by omega) hT (fun q => absurd q (by decide)) (fun q => absurd q (by decide)) (fun q => absurd q (by decide)) (fun q => absurd q (by decide)) (fun q => absurd q (by decide)) (fun q => absurd q (by decide))
      · rw [if_neg (by decide), if_neg (by decide), if_neg (by decide), if_neg (by decide), if_neg (by decide), if_neg (by decide), if_neg (by decide), if_pos (by decide), pu_bd' _ bW, pu_bd' _ bL, pu_bd' _ bS, pu_nm, a7 rfl]
        exact ih (i + 1) n _ fin (by omega) (by omega) hT (fun q => absurd q (by decide)) (fun q => absurd q (by decide)) (fun q => absurd q (by decide)) (fun q => absurd q (by decide)) (fun q => absurd q (by decide)) (fun _ => rfl)
  unfold f_X11_totalOf
  rw [pu_lit0]
  exact key (K 0 0) 0 1000 (nI 0) 0 (by omega) (by omega) (fun _ _ => trivial) (fun _ => rfl) (fun _ => rfl) (fun _ => rfl) (fun _ => rfl) (fun _ => rfl) (fun _ => rfl)
