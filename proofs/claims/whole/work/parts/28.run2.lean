theorem pu_ev_pt {K : pu_K} : ∀ (f : Nat) (l : List Nat) (t n d : Nat) (U G U' G' : Nat → Int32), U d = U' d → G d = G' d → (pu_ev K f l t n U G).2.2.1 d = (pu_ev K f l t n U' G').2.2.1 d ∧ (pu_ev K f l t n U G).2.2.2 d = (pu_ev K f l t n U' G').2.2.2 d := by
  intro f
  induction f with
  | zero => intro l t n d U G U' G' h1 h2; exact ⟨h1, h2⟩
  | succ f ih =>
    intro l t n d U G U' G' h1 h2
    cases l with
    | nil => exact ⟨h1, h2⟩
    | cons x ys =>
      simp only [pu_ev]
      exact ih _ _ _ d _ _ _ _ (by rw [h1]) (by rw [h2])
theorem pu_ev_cp {K : pu_K} : ∀ (f : Nat) (l : List Nat) (t n : Nat) (U G U' G' : Nat → Int32), (pu_ev K f l t n U G).1 = (pu_ev K f l t n U' G').1 ∧ (pu_ev K f l t n U G).2.1 = (pu_ev K f l t n U' G').2.1 := by
  intro f
  induction f with
  | zero => intro l t n U G U' G'; exact ⟨rfl, rfl⟩
  | succ f ih =>
    intro l t n U G U' G'
    cases l with
    | nil => exact ⟨rfl, rfl⟩
    | cons x ys =>
      simp only [pu_ev]
      exact ih _ _ _ _ _ _ _
theorem pu_setM {K : pu_K} {o : Nat → Nat} {s t e : Nat} {st : Int32} (hK : pu_ok K) (ho : pu_ord K o) (hst : pu_sM K st s) (he : e ≤ K 0 0) :
    ∀ (k i n : Nat) (σ : ob_St), i + k = e → k < n → (∀ j, j < K 0 0 → σ 6 j = nI (o j)) → ∃ σ', L_X11_run_271 n σ st (nI e) (nI t) (nI i) = some ((), σ') ∧ (∀ q, q ≠ 15 → σ' q = σ q) ∧ (∀ d, σ' 15 d = if d ∈ pu_seg o s i k then nI t else σ 15 d) := by
  have hd6 := hK.1
  intro k
  induction k with
  | zero =>
    intro i n σ hi hn hO
    obtain ⟨n, rfl⟩ : ∃ z, n = z + 1 := ⟨n - 1, by omega⟩
    refine ⟨σ, ?_, fun _ _ => rfl, fun _ => rfl⟩
    rw [L_X11_run_271, if_pos (nI_le (by omega) (by omega))]
  | succ k ih =>
    intro i n σ hi hn hO
    obtain ⟨n, rfl⟩ : ∃ z, n = z + 1 := ⟨n - 1, by omega⟩
    have hiD : i < K 0 0 := by omega
    have hoi := ho.1 i hiD
    have hx6 : o i < 6 := by omega
    rw [L_X11_run_271, if_neg (nI_ge (by omega) (by omega)), pu_ld (by omega) (by omega), hO i hiD]
    by_cases hs : o i = s
    · rw [if_pos ((pu_sM_iff hK hst _ hx6).mpr hs), nI_1, pu_segS k hs]
      exact ih (i + 1) n σ (by omega) (by omega) hO
    · rw [if_neg (fun q => hs ((pu_sM_iff hK hst _ hx6).mp q)), pu_ld (by omega) (by omega), hO i hiD, pu_sd hx6 (by omega), nI_1, pu_segN k hs]
      obtain ⟨σ', e1, e2, e3⟩ := ih (i + 1) n (ob_up σ 15 (o i) (nI t)) (by omega) (by omega) (fun j hj => by rw [pu_un _ _ _ _ (by decide)]; exact hO j hj)
      refine ⟨σ', e1, fun q hq => by rw [e2 q hq, pu_un _ _ _ _ hq], fun d => ?_⟩
      rw [e3 d]
      by_cases m1 : d ∈ pu_seg o s (i + 1) k
      · rw [if_pos m1, if_pos (List.mem_cons_of_mem _ m1)]
      · rw [if_neg m1]
        by_cases m2 : d = o i
        · rw [if_pos (by rw [m2]; exact List.mem_cons_self), m2, pu_uss]
        · rw [if_neg (by rw [List.mem_cons]; exact fun q => q.elim m2 m1), pu_usn _ _ _ _ m2]
theorem pu_runL {K : pu_K} {o : Nat → Nat} {s : Nat} {st : Int32} (hK : pu_ok K) (ho : pu_ord K o) (hst : pu_sM K st s) :
    ∀ (w k f i n t gn : Nat) (σ : ob_St), k ≤ w → i + k = K 0 0 → k + 1 ≤ n → (pu_seg o s i k).length ≤ f → pu_M0 σ K → (∀ j, j < K 0 0 → σ 6 j = nI (o j)) → σ 0 21 = nI gn → σ 0 22 = nI t → pu_SI K o s i σ →
      ∃ σ', L_X11_run_17 n σ st (nI i) = some ((), σ') ∧ (∀ q, q ≠ 0 → q ≠ 15 → q ≠ 16 → σ' q = σ q) ∧ (∀ j, j ≠ 21 → j ≠ 22 → σ' 0 j = σ 0 j) ∧ (∀ d, d ≠ s → σ' 15 d = (pu_ev K f (pu_seg o s i k) t gn (σ 15) (σ 16)).2.2.1 d ∧ σ' 16 d = (pu_ev K f (pu_seg o s i k) t gn (σ 15) (σ 16)).2.2.2 d) ∧ σ' 0 22 = nI (pu_ev K f (pu_seg o s i k) t gn (σ 15) (σ 16)).1 ∧ σ' 0 21 = nI (pu_ev K f (pu_seg o s i k) t gn (σ 15) (σ 16)).2.1 ∧ pu_SI K o s (K 0 0) σ' := by
  have hd6 := hK.1
  have hself := hK.2.2.2.2.2.2.1
  have h85 := hK.2.2.2.2.2.2.2.2.2.2
  have done : ∀ (f i n t gn : Nat) (σ : ob_St), i = K 0 0 → 1 ≤ n → pu_M0 σ K → σ 0 21 = nI gn → σ 0 22 = nI t → pu_SI K o s i σ → ∃ σ', L_X11_run_17 n σ st (nI i) = some ((), σ') ∧ (∀ q, q ≠ 0 → q ≠ 15 → q ≠ 16 → σ' q = σ q) ∧ (∀ j, j ≠ 21 → j ≠ 22 → σ' 0 j = σ 0 j) ∧ (∀ d, d ≠ s → σ' 15 d = (pu_ev K f (pu_seg o s i 0) t gn (σ 15) (σ 16)).2.2.1 d ∧ σ' 16 d = (pu_ev K f (pu_seg o s i 0) t gn (σ 15) (σ 16)).2.2.2 d) ∧ σ' 0 22 = nI (pu_ev K f (pu_seg o s i 0) t gn (σ 15) (σ 16)).1 ∧ σ' 0 21 = nI (pu_ev K f (pu_seg o s i 0) t gn (σ 15) (σ 16)).2.1 ∧ pu_SI K o s (K 0 0) σ' := by
    intro f i n t gn σ hi hn hM h21 h22 hS
    obtain ⟨n, rfl⟩ : ∃ z, n = z + 1 := ⟨n - 1, by omega⟩
    subst hi
    rw [pu_seg0]
    have e : pu_ev K f [] t gn (σ 15) (σ 16) = (t, gn, σ 15, σ 16) := by cases f <;> rfl
    rw [e]
    refine ⟨σ, ?_, fun _ _ _ _ => rfl, fun _ _ _ => rfl, fun _ _ => ⟨rfl, rfl⟩, h22, h21, hS⟩
    rw [L_X11_run_17, hM.1, if_pos (nI_le (Nat.le_refl _) (by omega))]
  intro w
  induction w with
  | zero =>
    intro k f i n t gn σ hk hi hn hf hM hO h21 h22 hS
    have : k = 0 := by omega
    subst this
    exact done f i n t gn σ (by omega) (by omega) hM h21 h22 hS
  | succ w ih =>
    intro k f i n t gn σ hk hi hn hf hM hO h21 h22 hS
    cases k with
    | zero => exact done f i n t gn σ (by omega) (by omega) hM h21 h22 hS
    | succ k =>
      obtain ⟨n, rfl⟩ : ∃ z, n = z + 1 := ⟨n - 1, by omega⟩
      have hiD : i < K 0 0 := by omega
      have hoi := ho.1 i hiD
      have hx6 : o i < 6 := by omega
      rw [L_X11_run_17, hM.1, if_neg (nI_ge hiD (by omega)), pu_ld (by omega) (by omega), hO i hiD]
      by_cases hs : o i = s
      · obtain ⟨σ1, d1⟩ : ∃ z, z = ob_up σ 15 (o i) (nI (K 8 5 + 60)) := ⟨_, rfl⟩
        obtain ⟨σ2, d2⟩ : ∃ z, z = ob_up σ1 16 (o i) (-9) := ⟨_, rfl⟩
        have m1 : ∀ q, q ≠ 15 → σ1 q = σ q := fun q h => by rw [d1, pu_un _ _ _ _ h]
        have m2 : ∀ q, q ≠ 16 → σ2 q = σ1 q := fun q h => by rw [d2, pu_un _ _ _ _ h]
        have hM2 : pu_M0 σ2 K := pu_M0_keep hM (by rw [m2 0 (by decide), m1 0 (by decide)]) (fun q h1 h2 => by rw [m2 q (by omega), m1 q (by omega)])
        have a1 : σ2 15 s = nI (K 8 5 + 60) := by rw [m2 15 (by decide), d1, hs, pu_uss]
        have a2 : σ2 16 s = -9 := by rw [d2, hs, pu_uss]
        rw [pu_segS k hs] at hf ⊢
        obtain ⟨σ', r1, r2, r3, r4, r5, r6, r7⟩ := ih k f (i + 1) n t gn σ2 (by omega) (by omega) (by omega) hf hM2 (fun j hj => by rw [m2 6 (by decide), m1 6 (by decide)]; exact hO j hj) (by rw [m2 0 (by decide), m1 0 (by decide)]; exact h21) (by rw [m2 0 (by decide), m1 0 (by decide)]; exact h22) (pu_SI_at a1 a2)
        refine ⟨σ', ?_, fun q q0 q1 q2 => by rw [r2 q q0 q1 q2, m2 q q2, m1 q q1], fun j j1 j2 => by rw [r3 j j1 j2, m2 0 (by decide), m1 0 (by decide)], fun d hd => ?_, ?_, ?_, r7⟩
        · rw [if_pos ((pu_sM_iff hK hst _ hx6).mpr hs), pu_ld (by omega) (by omega), hO i hiD, pu_L6_5, hM.2.2.1 5 (by omega), show (60 : Int32) = nI 60 from rfl, nI_add, pu_sd hx6 (by omega), ← d1, pu_ld (by omega) (by omega), m1 6 (by decide), hO i hiD, pu_sd hx6 (by omega), ← d2, nI_1]
          exact r1
        · have hne : d ≠ o i := by rw [hs]; exact hd
          have hp := pu_ev_pt (K := K) f (pu_seg o s (i + 1) k) t gn d (σ2 15) (σ2 16) (σ 15) (σ 16) (by rw [m2 15 (by decide), d1, pu_usn _ _ _ _ hne]) (by rw [d2, pu_usn _ _ _ _ hne, m1 16 (by decide)])
          rw [← hp.1, ← hp.2]
          exact r4 d hd
        · rw [r5, (pu_ev_cp f _ t gn (σ2 15) (σ2 16) (σ 15) (σ 16)).1]
        · rw [r6, (pu_ev_cp f _ t gn (σ2 15) (σ2 16) (σ 15) (σ 16)).2]
      · have hstn : ¬ nI (o i) = st := fun q => hs ((pu_sM_iff hK hst _ hx6).mp q)
        obtain ⟨hk1, hk2, -, hk4, -, -⟩ := hK.2.1 (o i) hx6
        have hk41 : 1 ≤ K 4 (o i) := (hK.2.2.1 (o i) hoi).1
        rw [pu_segN k hs, List.length_cons] at hf
        obtain ⟨f, rfl⟩ : ∃ z, f = z + 1 := ⟨f - 1, by omega⟩
        -- the first of the GO
        obtain ⟨σ1, d1⟩ : ∃ z, z = ob_up σ 16 (o i) (nI gn) := ⟨_, rfl⟩
        have n1 : ∀ q, q ≠ 16 → σ1 q = σ q := fun q h1 => by rw [d1, pu_un _ _ _ _ h1]
        have hM1 : pu_M0 σ1 K := pu_M0_keep hM (by rw [n1 0 (by decide)]) (fun q h1 h2 => n1 q (by omega))
        have hO1 : ∀ j, j < K 0 0 → σ1 6 j = nI (o j) := fun j hj => by rw [n1 6 (by decide)]; exact hO j hj
        have hS1 : pu_SI K o s (i + 1) σ1 := pu_SI_next hS hs (by rw [n1 15 (by decide)]) (by rw [d1, pu_usn _ _ _ _ (fun q => hs q.symm)])
        -- the others of the GO
        have fill : ∃ c σ', c ≤ k ∧ L_X11_run_90 999 σ1 st (nI (i + 1)) (nI (K 8 1 + K 2 (o i))) (nI (0 + K 4 (o i))) (nI i) (if K 1 (o i) = 5 then 1 else 0) = some ((nI (i + 1 + c), nI (K 8 1 + K 2 (o i) + pu_load K (pu_seg o s (i + 1) c))), σ') ∧ pu_seg o s (i + 1) c = (pu_seg o s (i + 1) k).take (pu_grp K (o i) (pu_seg o s (i + 1) k)) ∧ pu_seg o s (i + 1 + c) (k - c) = (pu_seg o s (i + 1) k).drop (pu_grp K (o i) (pu_seg o s (i + 1) k)) ∧ pu_Fr s (pu_seg o s (i + 1) c) gn σ1 σ' ∧ pu_SI K o s (i + 1 + c) σ' := by
          by_cases c5 : K 1 (o i) = 5
          · refine ⟨0, σ1, Nat.zero_le _, ?_, ?_, ?_, ⟨fun _ _ _ => rfl, fun _ _ => rfl, fun _ _ => rfl⟩, hS1⟩
            · rw [if_pos c5, L_X11_run_90]
              by_cases cD : K 0 0 ≤ i + 1
              · rw [hM1.1, if_pos (nI_le cD (by omega))]
                rfl
              · rw [hM1.1, if_neg (nI_ge (by omega) (by omega)), if_neg (by decide)]
                rfl
            · rw [pu_grp, if_pos c5]; rfl
            · rw [pu_grp, if_pos c5]; rfl
          · rw [if_neg c5, Nat.zero_add, show pu_grp K (o i) (pu_seg o s (i + 1) k) = pu_join K (K 4 (o i)) (pu_seg o s (i + 1) k) by rw [pu_grp, if_neg c5]]
            exact pu_fill (v5 := nI i) hK ho hst k (i + 1) 999 (K 4 (o i)) (K 8 1 + K 2 (o i)) σ1 (by omega) (by omega) hk41 (by omega) hM1 hO1 (by rw [n1 0 (by decide)]; exact h21) hS1
        obtain ⟨c, σ2, c1, c2, c3, c4, c5, c6⟩ := fill
        have hM2 : pu_M0 σ2 K := pu_M0_keep hM1 (by rw [c5.1 0 (by decide) (by decide)]) (fun q h1 h2 => c5.1 q (by omega) (by omega))
        have hO2 : ∀ j, j < K 0 0 → σ2 6 j = nI (o j) := fun j hj => by rw [c5.1 6 (by decide) (by decide)]; exact hO1 j hj
        have hgrp : pu_seg o s i (c + 1) = o i :: (pu_seg o s (i + 1) k).take (pu_grp K (o i) (pu_seg o s (i + 1) k)) := by rw [pu_segN c hs, c3]
        have hmem : ∀ z ∈ pu_seg o s i (c + 1), z < 6 := by
          intro z hz
          obtain ⟨h1, -⟩ := List.mem_filter.mp hz
          obtain ⟨j, hj, rfl⟩ := List.mem_map.mp h1
          rw [List.mem_range'_1] at hj
          have := ho.1 j (by omega)
          omega
        have hlen := pu_seg_len o s i (c + 1)
        have hld := pu_load_le hK _ hmem
        have hldE : K 8 1 + K 2 (o i) + pu_load K (pu_seg o s (i + 1) c) = K 8 1 + pu_load K (pu_seg o s i (c + 1)) := by
          rw [pu_segN c hs, pu_load, pu_load, List.map_cons, List.sum_cons, Nat.add_assoc]
        rw [hldE] at c2
        obtain ⟨σ3, s1, s2, s3⟩ := pu_setM (t := t + pu_secs K (K 8 1 + pu_load K (pu_seg o s i (c + 1)))) hK ho hst (e := i + 1 + c) (by omega) (c + 1) i 1000 σ2 (by omega) (by omega) hO2
        have hM3 : pu_M0 σ3 K := pu_M0_keep hM2 (by rw [s2 0 (by decide)]) (fun q h1 h2 => s2 q (by omega))
        have a21 : σ3 0 21 = nI gn := by rw [s2 0 (by decide), c5.1 0 (by decide) (by decide), n1 0 (by decide)]; exact h21
        have a22 : σ2 0 22 = nI t := by rw [c5.1 0 (by decide) (by decide), n1 0 (by decide)]; exact h22
        obtain ⟨σ4, d4⟩ : ∃ z, z = ob_up σ3 0 22 (nI (t + pu_secs K (K 8 1 + pu_load K (pu_seg o s i (c + 1))) + pu_secs K (K 8 1))) := ⟨_, rfl⟩
        obtain ⟨σ5, d5⟩ : ∃ z, z = ob_up σ4 0 21 (nI (gn + 1)) := ⟨_, rfl⟩
        have n5 : ∀ q, q ≠ 0 → σ5 q = σ3 q := fun q h => by rw [d5, pu_un _ _ _ _ h, d4, pu_un _ _ _ _ h]
        have n50 : ∀ j, j ≠ 21 → j ≠ 22 → σ5 0 j = σ3 0 j := fun j h1 h2 => by rw [d5, pu_usn _ _ _ _ h1, d4, pu_usn _ _ _ _ h2]
        have hM5 : pu_M0 σ5 K := pu_M0_keep hM3 (n50 0 (by decide) (by decide)) (fun q h1 h2 => n5 q (by omega))
        have hS5 : pu_SI K o s (i + 1 + c) σ5 := by
          intro hq
          obtain ⟨b1, b2⟩ := c6 hq
          rw [n5 15 (by decide), n5 16 (by decide), s3 s, s2 16 (by decide), if_neg (fun h => pu_seg_ne h rfl)]
          exact ⟨b1, b2⟩
        obtain ⟨σ', r1, r2, r3, r4, r5, r6, r7⟩ := ih (k - c) f (i + 1 + c) n (t + pu_secs K (K 8 1 + pu_load K (pu_seg o s i (c + 1))) + pu_secs K (K 8 1)) (gn + 1) σ5 (by omega) (by omega) (by omega) (by rw [c4, List.length_drop]; omega) hM5 (fun j hj => by rw [n5 6 (by decide), s2 6 (by decide)]; exact hO2 j hj) (by rw [d5, pu_uss]) (by rw [d5, pu_usn _ _ _ _ (by decide), d4, pu_uss]) hS5
        have b15 : ∀ d, d ≠ s → σ5 15 d = if d ∈ pu_seg o s i (c + 1) then nI (t + pu_secs K (K 8 1 + pu_load K (pu_seg o s i (c + 1)))) else σ 15 d := fun d hd => by
          rw [n5 15 (by decide), s3 d, c5.2.1 d hd, n1 15 (by decide)]
        have b16 : ∀ d, d ≠ s → σ5 16 d = if d ∈ pu_seg o s i (c + 1) then nI gn else σ 16 d := fun d hd => by
          rw [n5 16 (by decide), s2 16 (by decide), c5.2.2 d hd, pu_segN c hs, d1]
          by_cases m1 : d ∈ pu_seg o s (i + 1) c
          · rw [if_pos m1, if_pos (List.mem_cons_of_mem _ m1)]
          · rw [if_neg m1]
            by_cases m2 : d = o i
            · rw [if_pos (by rw [m2]; exact List.mem_cons_self), m2, pu_uss]
            · rw [if_neg (by rw [List.mem_cons]; exact fun q => q.elim m2 m1), pu_usn _ _ _ _ m2]
        refine ⟨σ', ?_, fun q q0 q1 q2 => by rw [r2 q q0 q1 q2, n5 q q0, s2 q q1, c5.1 q q1 q2, n1 q q2], fun j j1 j2 => by rw [r3 j j1 j2, n50 j j1 j2, s2 0 (by decide), c5.1 0 (by decide) (by decide), n1 0 (by decide)], fun d hd => ?_, ?_, ?_, r7⟩
        · have start : L_X11_run_90 1000 σ st (nI i) (nI (K 8 1)) 0 (nI i) 0 = some ((nI (i + 1 + c), nI (K 8 1 + pu_load K (pu_seg o s i (c + 1)))), σ2) := by
            rw [show (1000 : Nat) = 999 + 1 from rfl, L_X11_run_90, hM.1, if_neg (nI_ge hiD (by omega)), if_pos rfl, pu_ld (by omega) (by omega), hO i hiD, if_neg hstn, if_pos (by decide)]
            show J_X11_run_188_90 _ σ st (nI i) (nI (K 8 1)) 0 (nI i) (nI (o i)) 0 = _
            rw [J_X11_run_188_90, if_pos rfl, pu_ld hx6 (by omega), hM.2.1 4 (by omega) (by omega) _ hx6, pu_nm, pu_ld hx6 (by omega), hM.2.1 2 (by omega) (by omega) _ hx6, pu_nm, h21, pu_sd hx6 (by omega), ← d1, pu_ld hx6 (by omega), hM1.2.1 1 (by omega) (by omega) _ hx6]
            rw [nI_1, nI_add, show (0 : Int32) + nI (K 4 (o i)) = nI (0 + K 4 (o i)) by rw [pu_lit0, nI_add]]
            by_cases c9 : K 1 (o i) = 5
            · rw [if_pos (show nI (K 1 (o i)) = (5 : Int32) by rw [c9]; rfl)]
              rw [if_pos c9] at c2
              exact c2
            · rw [if_neg (show ¬ nI (K 1 (o i)) = (5 : Int32) from fun q => c9 ((nI_eq (b := 5) (by omega) (by omega)).mp q))]
              rw [if_neg c9] at c2
              exact c2
          rw [if_neg hstn, pu_L6_1, hM.2.2.1 1 (by omega), pu_bd' _ start]
          show J_X11_run_255_17 _ σ2 st (nI (i + 1 + c)) (nI (K 8 1 + pu_load K (pu_seg o s i (c + 1)))) (nI i) = _
          rw [J_X11_run_255_17, pu_bd' _ (pu_secM hM2 hK (by omega)), pu_nm, a22, nI_add, pu_bd' _ s1, pu_L6_1, hM3.2.2.1 1 (by omega), pu_bd' _ (pu_secM hM3 hK (by omega)), nI_add, pu_pf, ← d4, pu_pf, show σ4 0 21 = nI gn by rw [d4, pu_usn _ _ _ _ (by decide)]; exact a21, nI_1, ← d5]
          exact r1
        · rw [pu_segN k hs]
          simp only [pu_ev]
          rw [← hgrp, ← c4]
          have hp := pu_ev_pt (K := K) f (pu_seg o s (i + 1 + c) (k - c)) (t + pu_secs K (K 8 1 + pu_load K (pu_seg o s i (c + 1))) + pu_secs K (K 8 1)) (gn + 1) d (σ5 15) (σ5 16) (fun d => if d ∈ pu_seg o s i (c + 1) then nI (t + pu_secs K (K 8 1 + pu_load K (pu_seg o s i (c + 1)))) else σ 15 d) (fun d => if d ∈ pu_seg o s i (c + 1) then nI gn else σ 16 d) (b15 d hd) (b16 d hd)
          rw [← hp.1, ← hp.2]
          exact r4 d hd
        · rw [r5, pu_segN k hs]
          simp only [pu_ev]
          rw [← hgrp, ← c4, (pu_ev_cp f _ _ (gn + 1) (σ5 15) (σ5 16) _ _).1]
        · rw [r6, pu_segN k hs]
          simp only [pu_ev]
          rw [← hgrp, ← c4, (pu_ev_cp f _ _ (gn + 1) (σ5 15) (σ5 16) _ _).2]
