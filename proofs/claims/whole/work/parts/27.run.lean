/-! THE REFERENCE'S EVENING -/
def pu_M0 (σ : ob_St) (K : pu_K) : Prop := σ 0 0 = nI (K 0 0) ∧ (∀ f, 1 ≤ f → f ≤ 5 → ∀ j, j < 6 → σ f j = nI (K f j)) ∧ (∀ j, j < 6 → σ 7 j = nI (K 8 j)) ∧ (∀ j, j < 5 → σ 8 j = nI (K 7 j))
def pu_sM (K : pu_K) (st : Int32) (s : Nat) : Prop := (st = -9 ∧ s = 7) ∨ (st = nI s ∧ s < K 0 0)
theorem pu_sM_iff {K : pu_K} (hK : pu_ok K) {st : Int32} {s : Nat} (h : pu_sM K st s) : ∀ x, x < 6 → (nI x = st ↔ x = s) := by
  intro x hx
  have := hK.1
  rcases h with ⟨rfl, rfl⟩ | ⟨rfl, hs⟩
  · constructor
    · intro q
      exact absurd (congrArg Int32.toInt q) (by rw [nI_toInt (by omega)]; show ¬ (x : Int) = -9; omega)
    · intro q; omega
  · exact nI_eq (by omega) (by omega)
theorem pu_M0_keep {σ τ : ob_St} {K : pu_K} (h : pu_M0 σ K) (h0 : τ 0 0 = σ 0 0) (hq : ∀ q, 1 ≤ q → q ≤ 8 → τ q = σ q) : pu_M0 τ K :=
  ⟨by rw [h0]; exact h.1, fun f h1 h2 j hj => by rw [hq f h1 (by omega)]; exact h.2.1 f h1 h2 j hj, fun j hj => by rw [hq 7 (by omega) (by omega)]; exact h.2.2.1 j hj, fun j hj => by rw [hq 8 (by omega) (by omega)]; exact h.2.2.2 j hj⟩
theorem pu_secM {σ : ob_St} {K : pu_K} (h : pu_M0 σ K) (hK : pu_ok K) {load : Nat} (hl : load ≤ 99) : f_X11_seconds σ (nI load) = some (nI (pu_secs K load), σ) := by
  obtain ⟨-, -, -, -, -, -, -, hB, hP, hH, -⟩ := hK
  unfold f_X11_seconds
  rw [pu_L6_3, h.2.2.1 3 (by omega), pu_L6_2, h.2.2.1 2 (by omega), pu_L6_4, h.2.2.1 4 (by omega), pu_abs (by omega) (by omega)]
  rw [show (4 : Int32) = nI 4 from rfl, pk_div (by omega) (by omega) (by omega), pu_lit1, nI_add, ← pu_lit1, pu_max1 (by omega) (by omega), pk_mul]
  rfl
/-- those at the places i .. of an order, but s -/
def pu_seg (o : Nat → Nat) (s i k : Nat) : List Nat := ((List.range' i k).map o).filter (fun x => decide (x ≠ s))
theorem pu_seg0 (o : Nat → Nat) (s i : Nat) : pu_seg o s i 0 = [] := rfl
theorem pu_segS {o : Nat → Nat} {s i : Nat} (k : Nat) (h : o i = s) : pu_seg o s i (k + 1) = pu_seg o s (i + 1) k := by
  unfold pu_seg
  rw [List.range'_succ, List.map_cons, List.filter_cons_of_neg (by simpa using h)]
theorem pu_segN {o : Nat → Nat} {s i : Nat} (k : Nat) (h : o i ≠ s) : pu_seg o s i (k + 1) = o i :: pu_seg o s (i + 1) k := by
  unfold pu_seg
  rw [List.range'_succ, List.map_cons, List.filter_cons_of_pos (by simpa using h)]
theorem pu_seg_len (o : Nat → Nat) (s i k : Nat) : (pu_seg o s i k).length ≤ k := by
  have h := List.length_filter_le (fun x => decide (x ≠ s)) ((List.range' i k).map o)
  rw [List.length_map, List.length_range'] at h
  exact h
theorem pu_seg_line (K : pu_K) (o : Nat → Nat) (s : Nat) : pu_line K o s = pu_seg o s 0 (K 0 0) := by
  unfold pu_line pu_seg
  rw [List.range_eq_range']
theorem pu_seg_ne {o : Nat → Nat} {s i k x : Nat} (h : x ∈ pu_seg o s i k) : x ≠ s := by
  have := (List.mem_filter.mp h).2
  simpa using this
/-- what the one by the stairs has once he was met -/
def pu_SI (K : pu_K) (o : Nat → Nat) (s : Nat) (i : Nat) (σ : ob_St) : Prop := (∃ j, j < i ∧ o j = s) → σ 15 s = nI (K 8 5 + 60) ∧ σ 16 s = -9
theorem pu_SI_at {K : pu_K} {o : Nat → Nat} {s i : Nat} {σ : ob_St} (h1 : σ 15 s = nI (K 8 5 + 60)) (h2 : σ 16 s = -9) : pu_SI K o s i σ := fun _ => ⟨h1, h2⟩
theorem pu_SI_next {K : pu_K} {o : Nat → Nat} {s i : Nat} {σ τ : ob_St} (h : pu_SI K o s i σ) (hn : o i ≠ s) (h1 : τ 15 s = σ 15 s) (h2 : τ 16 s = σ 16 s) : pu_SI K o s (i + 1) τ := by
  rintro ⟨j, hj, hjs⟩
  rw [h1, h2]
  exact h ⟨j, by
    rcases Nat.lt_or_ge j i with q | q
    · exact q
    · exact absurd (by rw [show i = j by omega]; exact hjs) hn, hjs⟩
/-- what a GO's filling changes -/
def pu_Fr (s : Nat) (g : List Nat) (gn : Nat) (σ σ' : ob_St) : Prop := (∀ q, q ≠ 15 → q ≠ 16 → σ' q = σ q) ∧ (∀ d, d ≠ s → σ' 15 d = σ 15 d) ∧ (∀ d, d ≠ s → σ' 16 d = if d ∈ g then nI gn else σ 16 d)
theorem pu_fill {K : pu_K} {o : Nat → Nat} {s gn : Nat} {st v5 : Int32} (hK : pu_ok K) (ho : pu_ord K o) (hst : pu_sM K st s) :
    ∀ (k i n p ld : Nat) (σ : ob_St), i + k = K 0 0 → k + 2 ≤ n → 1 ≤ p → p ≤ 6 * i → pu_M0 σ K → (∀ j, j < K 0 0 → σ 6 j = nI (o j)) → σ 0 21 = nI gn → pu_SI K o s i σ →
      ∃ c σ', c ≤ k ∧ L_X11_run_90 n σ st (nI i) (nI ld) (nI p) v5 0 = some ((nI (i + c), nI (ld + pu_load K (pu_seg o s i c))), σ') ∧ pu_seg o s i c = (pu_seg o s i k).take (pu_join K p (pu_seg o s i k)) ∧ pu_seg o s (i + c) (k - c) = (pu_seg o s i k).drop (pu_join K p (pu_seg o s i k)) ∧ pu_Fr s (pu_seg o s i c) gn σ σ' ∧ pu_SI K o s (i + c) σ' := by
  have hd6 := hK.1
  have hROOM := hK.2.2.2.2.2.1.2
  have h85 := hK.2.2.2.2.2.2.2.2.2.2
  intro k
  induction k with
  | zero =>
    intro i n p ld σ hi hn hp hp6 hM hO h21 hS
    obtain ⟨n, rfl⟩ : ∃ z, n = z + 1 := ⟨n - 1, by omega⟩
    refine ⟨0, σ, Nat.le_refl _, ?_, rfl, rfl, ⟨fun _ _ _ => rfl, fun _ _ => rfl, fun _ _ => rfl⟩, hS⟩
    rw [L_X11_run_90, hM.1, if_pos (nI_le (by omega) (by omega))]
    rfl
  | succ k ih =>
    intro i n p ld σ hi hn hp hp6 hM hO h21 hS
    obtain ⟨n, rfl⟩ : ∃ z, n = z + 1 := ⟨n - 1, by omega⟩
    have hiD : i < K 0 0 := by omega
    have hoi := ho.1 i hiD
    have hx6 : o i < 6 := by omega
    rw [L_X11_run_90, hM.1, if_neg (nI_ge hiD (by omega)), if_pos rfl, pu_ld (by omega) (by omega), hO i hiD]
    by_cases hs : o i = s
    · obtain ⟨σ1, d1⟩ : ∃ z, z = ob_up (ob_up σ 15 (o i) (nI (K 8 5 + 60))) 16 (o i) (-9) := ⟨_, rfl⟩
      have n1 : ∀ q, q ≠ 15 → q ≠ 16 → σ1 q = σ q := fun q h1 h2 => by rw [d1, pu_un _ _ _ _ h2, pu_un _ _ _ _ h1]
      have hM1 : pu_M0 σ1 K := pu_M0_keep hM (by rw [n1 0 (by decide) (by decide)]) (fun q h1 h2 => n1 q (by omega) (by omega))
      have a1 : σ1 15 s = nI (K 8 5 + 60) := by rw [d1, hs, pu_un _ _ _ _ (by decide), pu_uss]
      have a2 : σ1 16 s = -9 := by rw [d1, hs, pu_uss]
      obtain ⟨c, σ', c1, c2, c3, c4, c5, c6⟩ := ih (i + 1) n p ld σ1 (by omega) (by omega) hp (by omega) hM1 (fun j hj => by rw [n1 6 (by decide) (by decide)]; exact hO j hj) (by rw [n1 0 (by decide) (by decide)]; exact h21) (pu_SI_at a1 a2)
      refine ⟨c + 1, σ', by omega, ?_, ?_, ?_, ?_, ?_⟩
      · rw [if_pos ((pu_sM_iff hK hst _ hx6).mpr hs), pu_L6_5, hM.2.2.1 5 (by omega), show (60 : Int32) = nI 60 from rfl, nI_add, pu_sd hx6 (by omega), pu_sd hx6 (by omega), ← d1, nI_1, c2, pu_segS c hs, show i + 1 + c = i + (c + 1) by omega]
      · rw [pu_segS c hs, pu_segS k hs]; exact c3
      · rw [pu_segS k hs, show i + (c + 1) = i + 1 + c by omega, show k + 1 - (c + 1) = k - c by omega]; exact c4
      · rw [pu_segS c hs]
        refine ⟨fun q q1 q2 => by rw [c5.1 q q1 q2, n1 q q1 q2], fun d hd => ?_, fun d hd => ?_⟩
        · rw [c5.2.1 d hd, d1, pu_un _ _ _ _ (by decide), pu_usn _ _ _ _ (by rw [hs]; exact hd)]
        · rw [c5.2.2 d hd, d1, pu_usn _ _ _ _ (by rw [hs]; exact hd), pu_un _ _ _ _ (by decide)]
      · rw [show i + (c + 1) = i + 1 + c by omega]; exact c6
    · have hstn : ¬ nI (o i) = st := fun q => hs ((pu_sM_iff hK hst _ hx6).mp q)
      obtain ⟨hk1, hk2, -, hk4, -, -⟩ := hK.2.1 (o i) hx6
      have stop : ∀ (j1 : pu_join K p (pu_seg o s i (k + 1)) = 0), ∃ c σ', c ≤ k + 1 ∧ L_X11_run_90 n σ st (nI i) (nI ld) (nI p) v5 1 = some ((nI (i + c), nI (ld + pu_load K (pu_seg o s i c))), σ') ∧ pu_seg o s i c = (pu_seg o s i (k + 1)).take (pu_join K p (pu_seg o s i (k + 1))) ∧ pu_seg o s (i + c) (k + 1 - c) = (pu_seg o s i (k + 1)).drop (pu_join K p (pu_seg o s i (k + 1))) ∧ pu_Fr s (pu_seg o s i c) gn σ σ' ∧ pu_SI K o s (i + c) σ' := by
        intro j1
        refine ⟨0, σ, Nat.zero_le _, ?_, by rw [j1]; rfl, by rw [j1]; rfl, ⟨fun _ _ _ => rfl, fun _ _ => rfl, fun _ _ => rfl⟩, hS⟩
        obtain ⟨n, rfl⟩ : ∃ z, n = z + 1 := ⟨n - 1, by omega⟩
        rw [L_X11_run_90, hM.1, if_neg (nI_ge hiD (by omega)), if_neg (by decide)]
        rfl
      rw [if_neg hstn, if_neg (show ¬ nI p ≤ (0 : Int32) from nI_nle (by omega) (by omega)), pu_ld hx6 (by omega), hM.2.1 4 (by omega) (by omega) _ hx6, pu_L6_0, hM.2.2.1 0 (by omega), nI_add]
      by_cases c1 : K 8 0 < p + K 4 (o i)
      · rw [if_pos ((nI_ltI (by omega) (by omega)).mpr c1)]
        exact stop (by rw [pu_segN k hs, pu_join, if_pos (Or.inl c1)])
      · rw [if_neg (fun q => c1 ((nI_ltI (by omega) (by omega)).mp q)), pu_ld hx6 (by omega), hM.2.1 1 (by omega) (by omega) _ hx6]
        by_cases c2 : K 1 (o i) = 5
        · rw [if_pos (show nI (K 1 (o i)) = (5 : Int32) by rw [c2]; rfl)]
          exact stop (by rw [pu_segN k hs, pu_join, if_pos (Or.inr c2)])
        · have c2' : ¬ nI (K 1 (o i)) = (5 : Int32) := fun q => c2 ((nI_eq (b := 5) (by omega) (by omega)).mp q)
          rw [if_neg c2']
          obtain ⟨σ1, d1⟩ : ∃ z, z = ob_up σ 16 (o i) (nI gn) := ⟨_, rfl⟩
          have n1 : ∀ q, q ≠ 16 → σ1 q = σ q := fun q h1 => by rw [d1, pu_un _ _ _ _ h1]
          have hM1 : pu_M0 σ1 K := pu_M0_keep hM (by rw [n1 0 (by decide)]) (fun q h1 h2 => n1 q (by omega))
          obtain ⟨c, σ', e1, e2, e3, e4, e5, e6⟩ := ih (i + 1) n (p + K 4 (o i)) (ld + K 2 (o i)) σ1 (by omega) (by omega) (by omega) (by omega) hM1 (fun j hj => by rw [n1 6 (by decide)]; exact hO j hj) (by rw [n1 0 (by decide)]; exact h21) (pu_SI_next hS hs (by rw [n1 15 (by decide)]) (by rw [d1, pu_usn _ _ _ _ (fun q => hs q.symm)]))
          have hj : pu_join K p (pu_seg o s i (k + 1)) = pu_join K (p + K 4 (o i)) (pu_seg o s (i + 1) k) + 1 := by
            rw [pu_segN k hs, pu_join, if_neg (by omega), Nat.add_comm]
          refine ⟨c + 1, σ', by omega, ?_, ?_, ?_, ?_, ?_⟩
          · show J_X11_run_188_90 _ σ st (nI i) (nI ld) (nI p) v5 (nI (o i)) 0 = _
            rw [J_X11_run_188_90, if_pos rfl, pu_ld hx6 (by omega), hM.2.1 4 (by omega) (by omega) _ hx6, pu_nm, pu_ld hx6 (by omega), hM.2.1 2 (by omega) (by omega) _ hx6, pu_nm, h21, pu_sd hx6 (by omega), ← d1, pu_ld hx6 (by omega), hM1.2.1 1 (by omega) (by omega) _ hx6, if_neg c2', nI_1, nI_add, nI_add, e2, pu_segN c hs, pu_load, pu_load, List.map_cons, List.sum_cons, show i + 1 + c = i + (c + 1) by omega, Nat.add_assoc]
          · rw [hj, pu_segN c hs, pu_segN k hs, List.take_succ_cons, e3]
          · rw [hj, pu_segN k hs, List.drop_succ_cons, show i + (c + 1) = i + 1 + c by omega, show k + 1 - (c + 1) = k - c by omega]; exact e4
          · rw [pu_segN c hs]
            refine ⟨fun q q1 q2 => by rw [e5.1 q q1 q2, n1 q q2], fun d hd => by rw [e5.2.1 d hd, n1 15 (by decide)], fun d hd => ?_⟩
            rw [e5.2.2 d hd]
            by_cases m1 : d ∈ pu_seg o s (i + 1) c
            · rw [if_pos m1, if_pos (List.mem_cons_of_mem _ m1)]
            · rw [if_neg m1]
              by_cases m2 : d = o i
              · rw [if_pos (by rw [m2]; exact List.mem_cons_self), d1, m2, pu_uss]
              · rw [if_neg (by rw [List.mem_cons]; exact fun q => q.elim m2 m1), d1, pu_usn _ _ _ _ m2]
          · rw [show i + (c + 1) = i + 1 + c by omega]; exact e6
