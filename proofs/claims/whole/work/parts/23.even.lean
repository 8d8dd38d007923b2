/-! THE CLASS'S EVENING -/
def pu_rep (f : Nat → Int32) (l : List Nat) : Prop := ∀ j, j < l.length → f j = nI (l.getD j 0)
theorem pu_rep_add {f : Nat → Int32} {l : List Nat} (h : pu_rep f l) (x : Nat) : pu_rep (upd f l.length (nI x)) (l ++ [x]) := by
  intro j hj
  rw [List.length_append, List.length_singleton] at hj
  by_cases hjl : j = l.length
  · subst hjl
    rw [pk_us]
    simp [List.getD]
  · rw [pk_un hjl, h j (by omega)]
    simp [List.getD, List.getElem?_append_left (show j < l.length by omega)]
theorem pu_lineUp {b a : Nat} {d s : Nat} {o : Nat → Nat} {st : Int32} (hd : d ≤ 6) (ha1 : a ≠ 30) (ha2 : a ≠ 38) (hb1 : b ≠ 30) (hb2 : b ≠ 38) (ho : ∀ j, j < d → o j < 6) (hst : ∀ x, x < 6 → (nI x = st ↔ x = s)) {σ : ob_St} (h0 : σ b 0 = nI d) (hf : ∀ j, j < d → σ a j = nI (o j)) :
    ∃ σ', f_X1_lineUp b a σ st = some ((), σ') ∧ (∀ k, k ≠ 30 → k ≠ 38 → σ' k = σ k) ∧ (∀ j, j ≠ 2 → σ' 30 j = σ 30 j) ∧ σ' 30 2 = nI (((List.range d).map o).filter (fun x => decide (x ≠ s))).length ∧ pu_rep (σ' 38) (((List.range d).map o).filter (fun x => decide (x ≠ s))) := by
  have key : ∀ (k i n : Nat) (τ : ob_St) (acc : List Nat), i + k = d → k < n → acc.length ≤ i → (∀ q, q ≠ 30 → q ≠ 38 → τ q = σ q) → (∀ j, j ≠ 2 → τ 30 j = σ 30 j) → τ 30 2 = nI acc.length → pu_rep (τ 38) acc →
      ∃ σ', L_X1_lineUp_8 b a n τ st (nI i) = some ((), σ') ∧ (∀ k, k ≠ 30 → k ≠ 38 → σ' k = σ k) ∧ (∀ j, j ≠ 2 → σ' 30 j = σ 30 j) ∧ σ' 30 2 = nI (acc ++ ((List.range' i k).map o).filter (fun x => decide (x ≠ s))).length ∧ pu_rep (σ' 38) (acc ++ ((List.range' i k).map o).filter (fun x => decide (x ≠ s))) := by
    intro k
    induction k with
    | zero =>
      intro i n τ acc hi hn hal h1 h2 h3 h4
      obtain ⟨n, rfl⟩ : ∃ z, n = z + 1 := ⟨n - 1, by omega⟩
      refine ⟨τ, ?_, h1, h2, by simpa using h3, by simpa using h4⟩
      rw [L_X1_lineUp_8, h1 b hb1 hb2, h0, if_pos (nI_le (by omega) (by omega))]
    | succ k ih =>
      intro i n τ acc hi hn hal h1 h2 h3 h4
      obtain ⟨n, rfl⟩ : ∃ z, n = z + 1 := ⟨n - 1, by omega⟩
      rw [L_X1_lineUp_8, h1 b hb1 hb2, h0, if_neg (nI_ge (by omega) (by omega)), pu_ld (by omega) (by omega), h1 a ha1 ha2, hf i (by omega)]
      rw [List.range'_succ, List.map_cons]
      by_cases hs : o i = s
      · rw [if_pos ((hst _ (ho i (by omega))).mpr hs), nI_1, List.filter_cons_of_neg (by simpa using hs)]
        exact ih (i + 1) n τ acc (by omega) (by omega) (by omega) h1 h2 h3 h4
      · rw [if_neg (fun q => hs ((hst _ (ho i (by omega))).mp q)), pu_ld (by omega) (by omega), h1 a ha1 ha2, hf i (by omega), h3, pu_sd (by omega) (by omega), pu_pf, pu_un _ _ _ _ (by decide), h3, nI_1, nI_1, List.filter_cons_of_pos (by simpa using hs)]
        have h5 := ih (i + 1) n (ob_up (ob_up τ 38 acc.length (nI (o i))) 30 2 (nI (acc.length + 1))) (acc ++ [o i]) (by omega) (by omega) (by rw [List.length_append, List.length_singleton]; omega)
          (fun q q1 q2 => by rw [pu_un _ _ _ _ q1, pu_un _ _ _ _ q2]; exact h1 q q1 q2)
          (fun j hj => by rw [pu_usn _ _ _ _ hj, pu_un _ _ _ _ (by decide)]; exact h2 j hj)
          (by rw [pu_uss, List.length_append, List.length_singleton])
          (by rw [pu_un _ _ _ _ (by decide), pu_us]; exact pu_rep_add h4 (o i))
        simpa [List.append_assoc] using h5
  have h := key d 0 1000 (ob_up σ 30 2 (nI 0)) [] (by omega) (by omega) (by simp) (fun q q1 q2 => pu_un _ _ _ _ q1) (fun j hj => pu_usn _ _ _ _ hj) (by rw [pu_uss]; rfl) (fun j hj => absurd hj (Nat.not_lt_zero j))
  rw [← List.range_eq_range'] at h
  simp only [List.nil_append] at h
  unfold f_X1_lineUp
  rw [pu_pf, pu_lit0]
  exact h
theorem pu_drop {l ys : List Nat} {i x : Nat} (h : l.drop i = x :: ys) : i < l.length ∧ l.getD i 0 = x ∧ l.drop (i + 1) = ys := by
  have h1 : i < l.length := by
    rcases Nat.lt_or_ge i l.length with q | q
    · exact q
    · rw [List.drop_eq_nil_of_le q] at h; cases h
  refine ⟨h1, ?_, ?_⟩
  · rw [List.drop_eq_getElem_cons h1] at h
    have := (List.cons.inj h).1
    simp [List.getD, h1, this]
  · rw [List.drop_eq_getElem_cons h1] at h
    exact (List.cons.inj h).2
theorem pu_drop0 {l : List Nat} {i : Nat} (h : l.drop i = []) (hi : i ≤ l.length) : i = l.length := by
  have := List.drop_eq_nil_iff.mp h
  omega
theorem pu_bGo {b : Nat} {σ : ob_St} {K : pu_K} {l : List Nat} (h : pu_X b σ K) (hK : pu_ok K) (hl : ∀ x ∈ l, x < 6) (hl6 : l.length ≤ 6) (h2 : σ 30 2 = nI l.length) (h3 : pu_rep (σ 38) l) :
    ∀ (ys : List Nat) (i pl n : Nat), l.drop i = ys → i ≤ l.length → ys.length < n → pl ≤ 6 * i → L_X1_behindGo_39 b n σ (nI pl) (nI i) = some (nI (i + pu_join K pl ys), σ) := by
  intro ys
  induction ys with
  | nil =>
    intro i pl n hd hi hn hp
    obtain ⟨n, rfl⟩ : ∃ z, n = z + 1 := ⟨n - 1, by omega⟩
    have := pu_drop0 hd hi
    subst this
    rw [L_X1_behindGo_39, h2, if_pos (nI_le (Nat.le_refl _) (by omega))]
    rfl
  | cons x ys ih =>
    intro i pl n hd hi hn hp
    rw [List.length_cons] at hn
    obtain ⟨n, rfl⟩ : ∃ z, n = z + 1 := ⟨n - 1, by omega⟩
    obtain ⟨g1, g2, g3⟩ := pu_drop hd
    have hx : x < 6 := hl x (by rw [← g2]; simp [List.getD, g1])
    have e4 := pu_Xf h 4 x (by omega) (by omega) hx
    have e8 := pu_Xf h 8 0 (by omega) (by omega) (by decide)
    have hp4 := (hK.2.1 x hx).2.2.2.1
    have hk1 := (hK.2.1 x hx).1
    have hr := hK.2.2.2.2.2.1.2
    rw [L_X1_behindGo_39, h2, if_neg (nI_ge (by omega) (by omega)), pu_ld (by omega) (by omega), h3 i g1, g2, pu_ld (by omega) (by omega), e4, nI_add, pu_nm, pu_L6_0, e8]
    by_cases c1 : K 8 0 < pl + K 4 x
    · rw [if_pos ((nI_ltI (by omega) (by omega)).mpr c1), pu_join, if_pos (Or.inl c1)]
      rfl
    · rw [if_neg (fun q => c1 ((nI_ltI (by omega) (by omega)).mp q)), pu_ld (by omega) (by omega), h3 i g1, g2, pu_bd' _ (pu_kindOf h hK hx), pu_bd' _ (pu_isAlone hk1 σ)]
      by_cases c2 : K 1 x = 5
      · rw [if_pos c2, if_neg (by decide), pu_join, if_pos (Or.inr c2)]
        rfl
      · rw [if_neg c2, if_pos rfl, pu_join, if_neg (by omega), nI_1, ih (i + 1) (pl + K 4 x) n g3 (by omega) (by omega) (by omega)]
        congr 3
        omega
theorem pu_behindGo {b : Nat} {σ : ob_St} {K : pu_K} {l ys : List Nat} {i x : Nat} (h : pu_X b σ K) (hK : pu_ok K) (hl : ∀ x ∈ l, x < 6) (hl6 : l.length ≤ 6) (h2 : σ 30 2 = nI l.length) (h3 : pu_rep (σ 38) l) (hd : l.drop i = x :: ys) : f_X1_behindGo b σ (nI i) = some (nI (i + 1 + pu_grp K x ys), σ) := by
  obtain ⟨g1, g2, g3⟩ := pu_drop hd
  have hx : x < 6 := hl x (by rw [← g2]; simp [List.getD, g1])
  have e4 := pu_Xf h 4 x (by omega) (by omega) hx
  have hp4 := (hK.2.1 x hx).2.2.2.1
  have hk1 := (hK.2.1 x hx).1
  unfold f_X1_behindGo
  rw [pu_nm, pu_ld (by omega) (by omega), h3 i g1, g2, pu_bd' _ (pu_kindOf h hK hx), pu_bd' _ (pu_isAlone hk1 σ)]
  by_cases c2 : K 1 x = 5
  · rw [if_pos c2, if_neg (by decide), pu_grp, if_pos c2, nI_1]
  · rw [if_neg c2, if_pos rfl, pu_ld (by omega) (by omega), h3 i g1, g2, pu_ld (by omega) (by omega), e4, nI_1]
    have hlen : ys.length ≤ 6 := by
      rw [← g3, List.length_drop]; omega
    rw [pu_bGo h hK hl hl6 h2 h3 ys (i + 1) (K 4 x) 1000 g3 (by omega) (by omega) (by omega), pu_grp, if_neg c2]
theorem pu_take_succ {l : List Nat} {i : Nat} (h : i < l.length) : l.take (i + 1) = l.take i ++ [l.getD i 0] := by
  rw [List.take_succ]
  simp [List.getD, h]
/-- the load of a GO -/
theorem pu_loadL {b : Nat} {σ : ob_St} {K : pu_K} {l : List Nat} (h : pu_X b σ K) (hK : pu_ok K) (hl : ∀ x ∈ l, x < 6) (hl6 : l.length ≤ 6) (h3 : pu_rep (σ 38) l) (v2 v3 v4 v5 : Int32) :
    ∀ (k i n ld : Nat), i + k ≤ l.length → k < n → L_X1_carryAll_52 b n σ v2 v3 v4 v5 (nI (i + k)) (nI ld) (nI i) = some (nI (ld + pu_load K ((l.drop i).take k)), σ) := by
  intro k
  induction k with
  | zero =>
    intro i n ld hi hn
    obtain ⟨n, rfl⟩ : ∃ z, n = z + 1 := ⟨n - 1, by omega⟩
    rw [L_X1_carryAll_52, if_pos (nI_le (by omega) (by omega))]
    simp [pu_load]
  | succ k ih =>
    intro i n ld hi hn
    obtain ⟨n, rfl⟩ : ∃ z, n = z + 1 := ⟨n - 1, by omega⟩
    have hil : i < l.length := by omega
    have hx : l.getD i 0 < 6 := hl _ (by simp [List.getD, hil])
    have e2 := pu_Xf h 2 (l.getD i 0) (by omega) (by omega) hx
    rw [L_X1_carryAll_52, if_neg (nI_ge (by omega) (by omega)), pu_ld (by omega) (by omega), h3 i hil, pu_ld (by omega) (by omega), e2, nI_add, pu_nm, nI_1, show i + (k + 1) = (i + 1) + k by omega, ih (i + 1) n _ (by omega) (by omega)]
    rw [List.drop_eq_getElem_cons hil, List.take_succ_cons, pu_load, pu_load, List.map_cons, List.sum_cons, show l[i] = l.getD i 0 by simp [List.getD, hil], Nat.add_assoc]
/-- who goes is UP then, in that GO -/
theorem pu_setL {b : Nat} {l : List Nat} (hl : ∀ x ∈ l, x < 6) (hl6 : l.length ≤ 6) (v2 : Int32) (t gn : Nat) :
    ∀ (k i n : Nat) (σ : ob_St), pu_rep (σ 38) l → i + k ≤ l.length → k < n → ∃ σ', L_X1_carryAll_95 b n σ v2 (nI t) (nI gn) (nI (i + k)) (nI i) = some ((), σ') ∧ (∀ q, q ≠ 39 → q ≠ 43 → σ' q = σ q) ∧ σ' 39 = (fun d => if d ∈ (l.drop i).take k then nI t else σ 39 d) ∧ σ' 43 = (fun d => if d ∈ (l.drop i).take k then nI gn else σ 43 d) := by
  intro k
  induction k with
  | zero =>
    intro i n σ h3 hi hn
    obtain ⟨n, rfl⟩ : ∃ z, n = z + 1 := ⟨n - 1, by omega⟩
    refine ⟨σ, ?_, fun _ _ _ => rfl, by simp, by simp⟩
    rw [L_X1_carryAll_95, if_pos (nI_le (by omega) (by omega))]
  | succ k ih =>
    intro i n σ h3 hi hn
    obtain ⟨n, rfl⟩ : ∃ z, n = z + 1 := ⟨n - 1, by omega⟩
    have hil : i < l.length := by omega
    have hx : l.getD i 0 < 6 := hl _ (by simp [List.getD, hil])
    have e1 : ob_up σ 39 (l.getD i 0) (nI t) 38 = σ 38 := pu_un _ _ _ _ (by decide)
    rw [L_X1_carryAll_95, if_neg (nI_ge (by omega) (by omega)), pu_ld (by omega) (by omega), h3 i hil, pu_sd (by omega) (by omega), pu_ld (by omega) (by omega), e1, h3 i hil, pu_sd (by omega) (by omega), nI_1, show i + (k + 1) = (i + 1) + k by omega]
    obtain ⟨σ', g1, g2, g3, g4⟩ := ih (i + 1) n (ob_up (ob_up σ 39 (l.getD i 0) (nI t)) 43 (l.getD i 0) (nI gn)) (by rw [pu_un _ _ _ _ (by decide), e1]; exact h3) (by omega) (by omega)
    have ed : (l.drop i).take (k + 1) = l.getD i 0 :: (l.drop (i + 1)).take k := by
      rw [List.drop_eq_getElem_cons hil, List.take_succ_cons, show l[i] = l.getD i 0 by simp [List.getD, hil]]
    refine ⟨σ', g1, fun q q1 q2 => by rw [g2 q q1 q2, pu_un _ _ _ _ q2, pu_un _ _ _ _ q1], ?_, ?_⟩
    · rw [g3, ed, pu_un _ _ _ _ (by decide), pu_us]
      funext d
      by_cases c : d = l.getD i 0
      · subst c
        simp [pk_us]
      · simp only [pk_un c, List.mem_cons, c, false_or]
    · rw [g4, ed, pu_us, pu_un _ _ _ _ (by decide)]
      funext d
      by_cases c : d = l.getD i 0
      · subst c
        simp [pk_us]
      · simp only [pk_un c, List.mem_cons, c, false_or]
theorem pu_join_le (K : pu_K) : ∀ (xs : List Nat) (p : Nat), pu_join K p xs ≤ xs.length := by
  intro xs
  induction xs with
  | nil => intro p; exact Nat.le_refl _
  | cons x xs ih =>
    intro p
    rw [pu_join]
    split
    · exact Nat.zero_le _
    · have := ih (p + K 4 x)
      rw [List.length_cons]
      omega
theorem pu_grp_le (K : pu_K) (x : Nat) (xs : List Nat) : pu_grp K x xs ≤ xs.length := by
  unfold pu_grp
  split
  · exact Nat.zero_le _
  · exact pu_join_le K xs _
theorem pu_X_keep {b : Nat} {σ τ : ob_St} {K : pu_K} (h : pu_X b σ K) (hq : ∀ f, f ≤ 8 → τ (b + f) = σ (b + f)) : pu_X b τ K := by
  refine ⟨by have z := hq 0 (by omega); rw [Nat.add_zero] at z; rw [z]; exact h.1, fun f h1 h2 j hj => by rw [hq f h2]; exact h.2 f h1 h2 j hj⟩
theorem pu_load_le {K : pu_K} (hK : pu_ok K) : ∀ (l : List Nat), (∀ x ∈ l, x < 6) → pu_load K l ≤ 9 * l.length := by
  intro l
  induction l with
  | nil => intro _; exact Nat.le_refl _
  | cons x l ih =>
    intro h
    have h1 := (hK.2.1 x (h x List.mem_cons_self)).2.1
    have h2 := ih (fun y hy => h y (List.mem_cons_of_mem _ hy))
    rw [pu_load, List.map_cons, List.sum_cons, List.length_cons]
    rw [pu_load] at h2
    omega
theorem pu_carry {b : Nat} {K : pu_K} {l : List Nat} (hb : b = 1 ∨ b = 10 ∨ b = 19) (hK : pu_ok K) (hl : ∀ x ∈ l, x < 6) (hl6 : l.length ≤ 6) :
    ∀ (f i n t gn : Nat) (σ : ob_St), pu_X b σ K → σ 30 2 = nI l.length → pu_rep (σ 38) l → (l.drop i).length ≤ f → i ≤ l.length → gn ≤ i → l.length + 1 ≤ i + n → t ≤ 1000 * i + 400 →
      ∃ σ', L_X1_carryAll_20 b n σ (nI (K 8 1)) (nI t) (nI i) (nI gn) = some ((), σ') ∧ (∀ q, q ≠ 39 → q ≠ 43 → q ≠ 46 → σ' q = σ q) ∧ σ' 39 = (pu_ev K f (l.drop i) t gn (σ 39) (σ 43)).2.2.1 ∧ σ' 43 = (pu_ev K f (l.drop i) t gn (σ 39) (σ 43)).2.2.2 ∧ σ' 46 5 = nI (pu_ev K f (l.drop i) t gn (σ 39) (σ 43)).1 ∧ σ' 46 6 = nI (pu_ev K f (l.drop i) t gn (σ 39) (σ 43)).2.1 ∧ (pu_ev K f (l.drop i) t gn (σ 39) (σ 43)).1 ≤ 6400 ∧ (pu_ev K f (l.drop i) t gn (σ 39) (σ 43)).2.1 ≤ 6 := by
  intro f
  induction f with
  | zero =>
    intro i n t gn σ hX h2 h3 hf hi hg hn ht
    have hil : i = l.length := by rw [List.length_drop] at hf; omega
    obtain ⟨n, rfl⟩ : ∃ z, n = z + 1 := ⟨n - 1, by omega⟩
    refine ⟨ob_up (ob_up σ 46 5 (nI t)) 46 6 (nI gn), ?_, ?_⟩
    · rw [L_X1_carryAll_20, h2, if_pos (nI_le (by omega) (by omega)), J_X1_carryAll_153_20, pu_S8_5, pu_S8_6]
    · simp only [pu_ev]
      refine ⟨fun q q1 q2 q3 => by rw [pu_un _ _ _ _ q3, pu_un _ _ _ _ q3], ?_, ?_, ?_, ?_, by omega, by omega⟩
      · rw [pu_un _ _ _ _ (by decide), pu_un _ _ _ _ (by decide)]
      · rw [pu_un _ _ _ _ (by decide), pu_un _ _ _ _ (by decide)]
      · rw [pu_usn _ _ _ _ (by decide), pu_uss]
      · rw [pu_uss]
  | succ f ih =>
    intro i n t gn σ hX h2 h3 hf hi hg hn ht
    obtain ⟨n, rfl⟩ : ∃ z, n = z + 1 := ⟨n - 1, by omega⟩
    cases hd : l.drop i with
    | nil =>
      have hil := pu_drop0 hd hi
      refine ⟨ob_up (ob_up σ 46 5 (nI t)) 46 6 (nI gn), ?_, ?_⟩
      · rw [L_X1_carryAll_20, h2, if_pos (nI_le (by omega) (by omega)), J_X1_carryAll_153_20, pu_S8_5, pu_S8_6]
      · simp only [pu_ev]
        refine ⟨fun q q1 q2 q3 => by rw [pu_un _ _ _ _ q3, pu_un _ _ _ _ q3], ?_, ?_, ?_, ?_, by omega, by omega⟩
        · rw [pu_un _ _ _ _ (by decide), pu_un _ _ _ _ (by decide)]
        · rw [pu_un _ _ _ _ (by decide), pu_un _ _ _ _ (by decide)]
        · rw [pu_usn _ _ _ _ (by decide), pu_uss]
        · rw [pu_uss]
    | cons x ys =>
      obtain ⟨g1, g2, g3⟩ := pu_drop hd
      have hgl := pu_grp_le K x ys
      have hyl : ys.length = l.length - (i + 1) := by rw [← g3, List.length_drop]
      have htk : (l.drop i).take (1 + pu_grp K x ys) = x :: ys.take (pu_grp K x ys) := by rw [hd, Nat.add_comm, List.take_succ_cons]
      have hmem : ∀ z ∈ x :: ys.take (pu_grp K x ys), z < 6 := fun z hz => hl z (by
        rw [← htk] at hz
        exact List.mem_of_mem_drop (List.mem_of_mem_take hz))
      have hload := pu_load_le hK _ hmem
      have hlen : (x :: ys.take (pu_grp K x ys)).length ≤ 6 := by
        rw [List.length_cons, List.length_take]; omega
      have hself := hK.2.2.2.2.2.2.1
      have hs1 := pu_secs_le hK (load := K 8 1 + pu_load K (x :: ys.take (pu_grp K x ys))) (by omega)
      have hs2 := pu_secs_le hK (load := K 8 1) (by omega)
      have hll := pu_loadL hX hK hl hl6 h3 (nI (K 8 1)) (nI t) (nI i) (nI gn) (1 + pu_grp K x ys) i 1000 (K 8 1) (by omega) (by omega)
      rw [htk] at hll
      obtain ⟨σ1, s1, s2, s3, s4⟩ := pu_setL (b := b) hl hl6 (nI (K 8 1)) (t + pu_secs K (K 8 1 + pu_load K (x :: ys.take (pu_grp K x ys)))) gn (1 + pu_grp K x ys) i 1000 σ h3 (by omega) (by omega)
      rw [htk] at s3 s4
      have hX1 : pu_X b σ1 K := pu_X_keep hX (fun q hq => s2 _ (by omega) (by omega))
      have hdrop : l.drop (i + (1 + pu_grp K x ys)) = ys.drop (pu_grp K x ys) := by
        rw [← g3, List.drop_drop]; congr 1; omega
      obtain ⟨σ', r1, r2, r3, r4, r5, r6, r7, r8⟩ := ih (i + (1 + pu_grp K x ys)) n (t + pu_secs K (K 8 1 + pu_load K (x :: ys.take (pu_grp K x ys))) + pu_secs K (K 8 1)) (gn + 1) σ1 hX1 (by rw [s2 _ (by decide) (by decide)]; exact h2) (by rw [s2 _ (by decide) (by decide)]; exact h3) (by rw [hd, List.length_cons] at hf; rw [hdrop, List.length_drop]; omega) (by omega) (by omega) (by omega) (by omega)
      rw [hdrop, s3, s4] at r3 r4 r5 r6 r7 r8
      refine ⟨σ', ?_, fun q q1 q2 q3 => by rw [r2 q q1 q2 q3, s2 q q1 q2], ?_⟩
      · rw [L_X1_carryAll_20, h2, if_neg (nI_ge (by omega) (by omega)), if_neg (show ¬ (6 : Int32) ≤ nI gn from nI_ge (b := 6) (by omega) (by omega)), pu_bd' _ (pu_behindGo hX hK hl hl6 h2 h3 hd), show i + 1 + pu_grp K x ys = i + (1 + pu_grp K x ys) by omega, pu_bd' _ hll, pu_bd' _ (pu_secX hX hK (by omega)), nI_add, pu_nm, pu_bd' _ s1, pu_bd' _ (pu_secX hX1 hK (by omega)), nI_add, pu_nm, nI_1]
        exact r1
      · simp only [pu_ev]
        exact ⟨r3, r4, r5, r6, r7, r8⟩
