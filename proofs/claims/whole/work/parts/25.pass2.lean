theorem pu_ev_in {K : pu_K} (hK : pu_ok K) : ∀ (f : Nat) (l : List Nat) (t n : Nat), l.length ≤ f → l.length ≤ 6 → (∀ x ∈ l, x < 6) →
    (∀ d, d ∈ l → ∃ u g, u ≤ t + 1000 * l.length ∧ g + 1 ≤ n + l.length ∧ ∀ U G, (pu_ev K f l t n U G).2.2.1 d = nI u ∧ (pu_ev K f l t n U G).2.2.2 d = nI g) ∧
    (∀ d, d ∉ l → ∀ U G, (pu_ev K f l t n U G).2.2.1 d = U d ∧ (pu_ev K f l t n U G).2.2.2 d = G d) ∧
    (∀ U G U' G', (pu_ev K f l t n U G).1 = (pu_ev K f l t n U' G').1 ∧ (pu_ev K f l t n U G).2.1 = (pu_ev K f l t n U' G').2.1) := by
  intro f
  induction f with
  | zero =>
    intro l t n hf _ _
    have : l = [] := List.length_eq_zero_iff.mp (by omega)
    subst this
    exact ⟨fun d hd => absurd hd List.not_mem_nil, fun _ _ _ _ => ⟨rfl, rfl⟩, fun _ _ _ _ => ⟨rfl, rfl⟩⟩
  | succ f ih =>
    intro l t n hf h6 hl
    cases l with
    | nil => exact ⟨fun d hd => absurd hd List.not_mem_nil, fun _ _ _ _ => ⟨rfl, rfl⟩, fun _ _ _ _ => ⟨rfl, rfl⟩⟩
    | cons x ys =>
      have hgl := pu_grp_le K x ys
      have hmemg : ∀ z ∈ x :: ys.take (pu_grp K x ys), z ∈ x :: ys := by
        intro z hz
        rcases List.mem_cons.mp hz with h | h
        · rw [h]; exact List.mem_cons_self
        · exact List.mem_cons_of_mem _ (List.mem_of_mem_take h)
      have hmemd : ∀ z ∈ ys.drop (pu_grp K x ys), z ∈ x :: ys := fun z hz => List.mem_cons_of_mem _ (List.mem_of_mem_drop hz)
      have hload := pu_load_le hK (x :: ys.take (pu_grp K x ys)) (fun z hz => hl z (hmemg z hz))
      have hlen : (x :: ys.take (pu_grp K x ys)).length = 1 + pu_grp K x ys := by rw [List.length_cons, List.length_take]; omega
      rw [List.length_cons] at hf h6
      have hself := hK.2.2.2.2.2.2.1
      have hs1 := pu_secs_le hK (load := K 8 1 + pu_load K (x :: ys.take (pu_grp K x ys))) (by omega)
      have hs2 := pu_secs_le hK (load := K 8 1) (by omega)
      have hdl : (ys.drop (pu_grp K x ys)).length = ys.length - pu_grp K x ys := List.length_drop
      obtain ⟨i1, i2, i3⟩ := ih (ys.drop (pu_grp K x ys)) (t + pu_secs K (K 8 1 + pu_load K (x :: ys.take (pu_grp K x ys))) + pu_secs K (K 8 1)) (n + 1) (by omega) (by omega) (fun z hz => hl z (hmemd z hz))
      refine ⟨fun d hd => ?_, fun d hd U G => ?_, fun U G U' G' => ?_⟩
      · by_cases hdr : d ∈ ys.drop (pu_grp K x ys)
        · obtain ⟨u, g, hu, hg, hq⟩ := i1 d hdr
          refine ⟨u, g, ?_, ?_, fun U G => hq _ _⟩
          · rw [List.length_cons]; omega
          · rw [List.length_cons]; omega
        · have hdg : d ∈ x :: ys.take (pu_grp K x ys) := by
            rcases List.mem_cons.mp hd with h | h
            · rw [h]; exact List.mem_cons_self
            · rw [← List.take_append_drop (pu_grp K x ys) ys] at h
              rcases List.mem_append.mp h with h | h
              · exact List.mem_cons_of_mem _ h
              · exact absurd h hdr
          refine ⟨t + pu_secs K (K 8 1 + pu_load K (x :: ys.take (pu_grp K x ys))), n, ?_, ?_, fun U G => ?_⟩
          · rw [List.length_cons]; omega
          · rw [List.length_cons]; omega
          · obtain ⟨a1, a2⟩ := i2 d hdr (fun d => if d ∈ x :: ys.take (pu_grp K x ys) then nI (t + pu_secs K (K 8 1 + pu_load K (x :: ys.take (pu_grp K x ys)))) else U d) (fun d => if d ∈ x :: ys.take (pu_grp K x ys) then nI n else G d)
            simp only [pu_ev]
            rw [a1, a2, if_pos hdg, if_pos hdg]
            exact ⟨rfl, rfl⟩
      · have hdr : d ∉ ys.drop (pu_grp K x ys) := fun h => hd (hmemd d h)
        have hdg : d ∉ x :: ys.take (pu_grp K x ys) := fun h => hd (hmemg d h)
        obtain ⟨a1, a2⟩ := i2 d hdr (fun d => if d ∈ x :: ys.take (pu_grp K x ys) then nI (t + pu_secs K (K 8 1 + pu_load K (x :: ys.take (pu_grp K x ys)))) else U d) (fun d => if d ∈ x :: ys.take (pu_grp K x ys) then nI n else G d)
        simp only [pu_ev]
        rw [a1, a2, if_neg hdg, if_neg hdg]
        exact ⟨rfl, rfl⟩
      · simp only [pu_ev]
        exact i3 _ _ _ _
/-- the line of those who go in the box -/
def pu_line (K : pu_K) (o : Nat → Nat) (s : Nat) : List Nat := ((List.range (K 0 0)).map o).filter (fun x => decide (x ≠ s))
def pu_evl (K : pu_K) (l : List Nat) : Nat × Nat × (Nat → Int32) × (Nat → Int32) := pu_ev K 6 l (K 8 5) 0 (fun _ => 0) (fun _ => 0)
def pu_dn (K : pu_K) (l : List Nat) : Nat := (pu_evl K l).1
def pu_gn (K : pu_K) (l : List Nat) : Nat := (pu_evl K l).2.1
def pu_g (K : pu_K) (l : List Nat) (d : Nat) : Nat := ((pu_evl K l).2.2.2 d).toNatClampNeg
def pu_u (K : pu_K) (l : List Nat) (s d : Nat) : Nat := if d = s then K 8 5 + 60 else ((pu_evl K l).2.2.1 d).toNatClampNeg
/-- an order: a permutation of the DISHES -/
def pu_ord (K : pu_K) (o : Nat → Nat) : Prop := (∀ j, j < K 0 0 → o j < K 0 0) ∧ ∀ x, x < K 0 0 → ∃ j, j < K 0 0 ∧ o j = x
theorem pu_line_len {K : pu_K} (hK : pu_ok K) (o : Nat → Nat) (s : Nat) : (pu_line K o s).length ≤ 6 := by
  have h := List.length_filter_le (fun x => decide (x ≠ s)) ((List.range (K 0 0)).map o)
  rw [List.length_map, List.length_range] at h
  exact Nat.le_trans h hK.1
theorem pu_line_mem {K : pu_K} {o : Nat → Nat} {s x : Nat} : x ∈ pu_line K o s ↔ (∃ j, j < K 0 0 ∧ o j = x) ∧ x ≠ s := by
  unfold pu_line
  rw [List.mem_filter, List.mem_map]
  constructor
  · rintro ⟨⟨j, hj, rfl⟩, h⟩
    exact ⟨⟨j, List.mem_range.mp hj, rfl⟩, by simpa using h⟩
  · rintro ⟨⟨j, hj, rfl⟩, h⟩
    exact ⟨⟨j, List.mem_range.mpr hj, rfl⟩, by simpa using h⟩
theorem pu_line_lt {K : pu_K} (hK : pu_ok K) {o : Nat → Nat} {s : Nat} (ho : pu_ord K o) : ∀ x ∈ pu_line K o s, x < 6 := by
  intro x hx
  obtain ⟨⟨j, hj, rfl⟩, -⟩ := pu_line_mem.mp hx
  have := ho.1 j hj
  have := hK.1
  omega
/-- who is UP when, in which GO: whatever stood in the rows before -/
theorem pu_evU {K : pu_K} (hK : pu_ok K) {o : Nat → Nat} {s d : Nat} (ho : pu_ord K o) (hd : d < K 0 0) (hs : d ≠ s) (U G : Nat → Int32) : (pu_ev K 6 (pu_line K o s) (K 8 5) 0 U G).2.2.1 d = nI (pu_u K (pu_line K o s) s d) ∧ (pu_ev K 6 (pu_line K o s) (K 8 5) 0 U G).2.2.2 d = nI (pu_g K (pu_line K o s) d) ∧ pu_u K (pu_line K o s) s d ≤ 6400 ∧ pu_g K (pu_line K o s) d ≤ 5 := by
  have hlen := pu_line_len hK o s
  obtain ⟨i1, -, -⟩ := pu_ev_in hK 6 (pu_line K o s) (K 8 5) 0 hlen hlen (pu_line_lt hK ho)
  obtain ⟨u, g, hu, hg, hq⟩ := i1 d (pu_line_mem.mpr ⟨ho.2 d hd, hs⟩)
  have h5 := hK.2.2.2.2.2.2.2.2.2.2
  have e1 : pu_u K (pu_line K o s) s d = u := by
    unfold pu_u pu_evl
    rw [if_neg hs, (hq _ _).1, nI_clamp (by omega)]
  have e2 : pu_g K (pu_line K o s) d = g := by
    unfold pu_g pu_evl
    rw [(hq _ _).2, nI_clamp (by omega)]
  rw [e1, e2]
  exact ⟨(hq U G).1, (hq U G).2, by omega, by omega⟩
theorem pu_evD {K : pu_K} (hK : pu_ok K) {o : Nat → Nat} {s : Nat} (ho : pu_ord K o) (U G : Nat → Int32) : (pu_ev K 6 (pu_line K o s) (K 8 5) 0 U G).1 = pu_dn K (pu_line K o s) ∧ (pu_ev K 6 (pu_line K o s) (K 8 5) 0 U G).2.1 = pu_gn K (pu_line K o s) := by
  have hlen := pu_line_len hK o s
  obtain ⟨-, -, i3⟩ := pu_ev_in hK 6 (pu_line K o s) (K 8 5) 0 hlen hlen (pu_line_lt hK ho)
  exact i3 _ _ _ _
theorem pu_u_le {K : pu_K} (hK : pu_ok K) {o : Nat → Nat} {s d : Nat} (ho : pu_ord K o) (hd : d < K 0 0) : pu_u K (pu_line K o s) s d ≤ 6400 := by
  by_cases hs : d = s
  · have h5 := hK.2.2.2.2.2.2.2.2.2.2
    unfold pu_u
    rw [if_pos hs]
    omega
  · exact (pu_evU hK ho hd hs (fun _ => 0) (fun _ => 0)).2.2.1
/-- a DISH by the stairs, or none -/
def pu_st (K : pu_K) (st : Int32) (s : Nat) : Prop := (st = -1 ∧ s = 7) ∨ (st = nI s ∧ s < K 0 0)
theorem pu_st_iff {K : pu_K} (hK : pu_ok K) {st : Int32} {s : Nat} (h : pu_st K st s) : ∀ x, x < 6 → (nI x = st ↔ x = s) := by
  intro x hx
  have := hK.1
  rcases h with ⟨rfl, rfl⟩ | ⟨rfl, hs⟩
  · constructor
    · intro q
      exact absurd (congrArg Int32.toInt q) (by rw [nI_toInt (by omega)]; show ¬ (x : Int) = -1; omega)
    · intro q; omega
  · exact nI_eq (by omega) (by omega)
theorem pu_st_has {K : pu_K} (hK : pu_ok K) {st : Int32} {s : Nat} (h : pu_st K st s) : (0 ≤ st ∧ st < nI (K 0 0)) ↔ s < K 0 0 := by
  have := hK.1
  rcases h with ⟨rfl, rfl⟩ | ⟨rfl, hs⟩
  · constructor
    · intro q; exact absurd q.1 (by decide)
    · intro q; omega
  · constructor
    · intro _; exact hs
    · intro _; exact ⟨nI_pos' (by omega), nI_lt hs (by omega)⟩
