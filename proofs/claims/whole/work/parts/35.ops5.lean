/-! IMAGES: the class copies a kitchen, the reference keeps it in a row and takes it again -/
def pu_cq (b : Nat) (σ : ob_St) (K : pu_K) (g : Nat) : Prop := σ b 0 = nI (K 0 0) ∧ ∀ f, 1 ≤ f → f ≤ g → ∀ j, j < pu_kn f → σ (b + f) j = nI (K f j)
theorem pu_cq_up {b b2 g n : Nat} {σ : ob_St} {K : pu_K} (h : pu_cq b σ K g) (hg : g < 8) (hd : b2 + 8 < b ∨ b + 8 < b2) (hX : pu_X b2 σ K) (hn : n = pu_kn (g + 1)) : ∃ τ, (∀ {α : Type} (k : ob_St → Option α), ob_cp σ (b2 + (g + 1)) (b + (g + 1)) n k = k τ) ∧ pu_cq b τ K (g + 1) ∧ pu_X b2 τ K ∧ ∀ q, q < b ∨ b + 8 < q → τ q = σ q := by
  refine ⟨ob_upA σ (b + (g + 1)) (va_cpy (σ (b2 + (g + 1))) (σ (b + (g + 1))) 0 0 n), fun k => pu_cp _ _ _ _ _, ⟨?_, fun f h1 h2 j hj => ?_⟩, pu_X_keep hX (fun f hf => ob_upA_ne _ _ _ (by omega)), fun q hq => ob_upA_ne _ _ _ (by omega)⟩
  · rw [ob_upA_ne _ _ _ (by omega)]; exact h.1
  · by_cases c : f = g + 1
    · subst c
      rw [ob_upA_self, pk_cpy_in (by omega) (by omega), Nat.zero_add, Nat.sub_zero]
      exact hX.2 (g + 1) (by omega) (by omega) j hj
    · rw [ob_upA_ne _ _ _ (by omega)]
      exact h.2 f h1 (by omega) j hj
theorem pu_takeX {b b2 : Nat} {σ : ob_St} {K : pu_K} (hd : b2 + 8 < b ∨ b + 8 < b2) (hX : pu_X b2 σ K) : ∃ τ, f_X3_takeOver b b2 σ = some ((), τ) ∧ pu_X b τ K ∧ (∀ q, q < b ∨ b + 8 < q → τ q = σ q) := by
  have h0 : pu_cq b (ob_up σ b 0 (σ b2 0)) K 0 := ⟨by rw [pu_uss]; exact hX.1, fun f h1 h2 => by omega⟩
  have hX0 : pu_X b2 (ob_up σ b 0 (σ b2 0)) K := pu_X_keep hX (fun f hf => pu_un _ _ _ _ (by omega))
  obtain ⟨σ1, e1, c1, x1, n1⟩ := pu_cq_up (n := 6) h0 (by omega) hd hX0 rfl
  obtain ⟨σ2, e2, c2, x2, n2⟩ := pu_cq_up (n := 6) c1 (by omega) hd x1 rfl
  obtain ⟨σ3, e3, c3, x3, n3⟩ := pu_cq_up (n := 6) c2 (by omega) hd x2 rfl
  obtain ⟨σ4, e4, c4, x4, n4⟩ := pu_cq_up (n := 6) c3 (by omega) hd x3 rfl
  obtain ⟨σ5, e5, c5, x5, n5⟩ := pu_cq_up (n := 6) c4 (by omega) hd x4 rfl
  obtain ⟨σ6, e6, c6, x6, n6⟩ := pu_cq_up (n := 6) c5 (by omega) hd x5 rfl
  obtain ⟨σ7, e7, c7, x7, n7⟩ := pu_cq_up (n := 5) c6 (by omega) hd x6 rfl
  obtain ⟨σ8, e8, c8, x8, n8⟩ := pu_cq_up (n := 6) c7 (by omega) hd x7 rfl
  refine ⟨σ8, ?_, c8, fun q hq => by rw [n8 q hq, n7 q hq, n6 q hq, n5 q hq, n4 q hq, n3 q hq, n2 q hq, n1 q hq, pu_un _ _ _ _ (by omega)]⟩
  unfold f_X3_takeOver
  rw [pu_pf]
  exact (e1 _).trans ((e2 _).trans ((e3 _).trans ((e4 _).trans ((e5 _).trans ((e6 _).trans ((e7 _).trans (e8 _)))))))
def pu_mc (f : Nat) : Nat := if f = 7 then 8 else if f = 8 then 7 else f
theorem pu_M_mc {σ : ob_St} {K : pu_K} : pu_M σ K ↔ (σ 0 0 = nI (K 0 0) ∧ ∀ f, 1 ≤ f → f ≤ 8 → ∀ j, j < pu_kn f → σ (pu_mc f) j = nI (K f j)) := by
  constructor
  · intro h
    refine ⟨h.1, fun f h1 h2 j hj => ?_⟩
    unfold pu_mc
    by_cases c7 : f = 7
    · subst c7; rw [if_pos rfl]; exact h.2.2.2 j hj
    · by_cases c8 : f = 8
      · subst c8; rw [if_neg (by decide), if_pos rfl]; exact h.2.2.1 j hj
      · rw [if_neg c7, if_neg c8]
        unfold pu_kn at hj
        rw [if_neg c7] at hj
        exact h.2.1 f h1 (by omega) j hj
  · intro h
    refine ⟨h.1, fun f h1 h2 j hj => ?_, fun j hj => h.2 8 (by omega) (by omega) j hj, fun j hj => h.2 7 (by omega) (by omega) j hj⟩
    have := h.2 f h1 (by omega) j (by unfold pu_kn; rw [if_neg (by omega)]; exact hj)
    unfold pu_mc at this
    rw [if_neg (by omega), if_neg (by omega)] at this
    exact this
theorem pu_off_eq {f : Nat} (h : 1 ≤ f) : pu_off f = if f = 7 then 42 else if f = 8 then 36 else 6 * (f - 1) := by
  match f, h with
  | 1, _ => rfl
  | 2, _ => rfl
  | 3, _ => rfl
  | 4, _ => rfl
  | 5, _ => rfl
  | 6, _ => rfl
  | 7, _ => rfl
  | 8, _ => rfl
  | n + 9, _ =>
    rw [if_neg (by omega), if_neg (by omega)]
    rfl
theorem pu_off_inj {f g i j : Nat} (h1 : 1 ≤ f) (h2 : f ≤ 8) (h3 : 1 ≤ g) (h4 : g ≤ 8) (hi : i < pu_kn f) (hj : j < pu_kn g) (h : pu_off f + i = pu_off g + j) : f = g ∧ i = j := by
  rw [pu_off_eq h1, pu_off_eq h3] at h
  unfold pu_kn at hi hj
  split at h <;> split at h <;> (try split at h) <;> (try split at h) <;> (try split at hi) <;> (try split at hj) <;> omega
theorem pu_off_lt {f i : Nat} (h1 : 1 ≤ f) (h2 : f ≤ 8) (hi : i < pu_kn f) : pu_off f + i < 47 := by
  rw [pu_off_eq h1]
  unfold pu_kn at hi
  split <;> (try split) <;> (try split at hi) <;> omega
def pu_kq (a : Nat) (σ : ob_St) (K : pu_K) (C : Nat → Nat → Prop) : Prop := ∀ f j, 1 ≤ f → f ≤ 8 → j < pu_kn f → C f j → σ a (pu_off f + j) = nI (K f j)
def pu_rq (σ : ob_St) (K : pu_K) (C : Nat → Nat → Prop) : Prop := ∀ f j, 1 ≤ f → f ≤ 8 → j < pu_kn f → C f j → σ (pu_mc f) j = nI (K f j)
theorem pu_mc_inj {f g : Nat} (h2 : f ≤ 8) (h4 : g ≤ 8) (h : pu_mc f = pu_mc g) : f = g := by
  unfold pu_mc at h
  split at h <;> (try split at h) <;> (try split at h) <;> (try split at h) <;> omega
theorem pu_mc_le {f : Nat} (h1 : 1 ≤ f) (h : f ≤ 8) : 1 ≤ pu_mc f ∧ pu_mc f ≤ 8 := by
  unfold pu_mc
  split <;> (try split) <;> omega
theorem pu_kpS {a f0 i c w : Nat} {y : Int32} {σ : ob_St} {K : pu_K} {C : Nat → Nat → Prop} (C' : Nat → Nat → Prop) (hM : pu_M σ K) (h : pu_kq a σ K C) (ha : 13 ≤ a) (h1 : 1 ≤ f0) (h2 : f0 ≤ 8) (hi : i < pu_kn f0) (hw : w = pu_kn f0) (hc : c = pu_mc f0) (hy : y = nI (pu_off f0 + i)) (hC : ∀ f j, 1 ≤ f → C' f j → C f j ∨ (f = f0 ∧ j = i)) :
    ∃ τ, (∀ {α : Type} (k : ob_St → Option α), ob_ld σ c w (nI i) (fun v => ob_sd σ a 48 y v k) = k τ) ∧ pu_M τ K ∧ pu_kq a τ K C' ∧ ∀ q, q ≠ a → τ q = σ q := by
  subst hw hc hy
  have hl := pu_off_lt h1 h2 hi
  have hk : pu_kn f0 ≤ 6 := by unfold pu_kn; split <;> omega
  have hm := pu_mc_le h1 h2
  refine ⟨ob_up σ a (pu_off f0 + i) (nI (K f0 i)), fun k => ?_, pu_M_keep hM (by rw [pu_un _ _ _ _ (by omega)]) (fun q _ _ => pu_un _ _ _ _ (by omega)), fun f j f1 f2 hj hcc => ?_, fun q hq => pu_un _ _ _ _ hq⟩
  · rw [pu_ld hi (by omega), (pu_M_mc.mp hM).2 f0 h1 h2 i hi, pu_sd (by omega) (by omega)]
  · by_cases e : pu_off f + j = pu_off f0 + i
    · obtain ⟨e1, e2⟩ := pu_off_inj f1 f2 h1 h2 hj hi e
      rw [e, pu_uss, e1, e2]
    · rw [pu_usn _ _ _ _ e]
      rcases hC f j f1 hcc with q | q
      · exact h f j f1 f2 hj q
      · exact absurd (by rw [q.1, q.2]) e
theorem pu_agS {a f0 i c w : Nat} {y : Int32} {σ : ob_St} {K : pu_K} {C : Nat → Nat → Prop} (C' : Nat → Nat → Prop) (hO : pu_O a σ K) (h : pu_rq σ K C) (ha : 13 ≤ a) (h1 : 1 ≤ f0) (h2 : f0 ≤ 8) (hi : i < pu_kn f0) (hw : w = pu_kn f0) (hc : c = pu_mc f0) (hy : y = nI (pu_off f0 + i)) (hC : ∀ f j, 1 ≤ f → C' f j → C f j ∨ (f = f0 ∧ j = i)) :
    ∃ τ, (∀ {α : Type} (k : ob_St → Option α), ob_ld σ a 48 y (fun v => ob_sd σ c w (nI i) v k) = k τ) ∧ pu_O a τ K ∧ pu_rq τ K C' ∧ ∀ q, (q = 0 ∨ 9 ≤ q) → τ q = σ q := by
  subst hw hc hy
  have hl := pu_off_lt h1 h2 hi
  have hk : pu_kn f0 ≤ 6 := by unfold pu_kn; split <;> omega
  have hm := pu_mc_le h1 h2
  refine ⟨ob_up σ (pu_mc f0) i (nI (K f0 i)), fun k => ?_, pu_O_keep hO (pu_un _ _ _ _ (by omega)), fun f j f1 f2 hj hcc => ?_, fun q hq => pu_un _ _ _ _ (by omega)⟩
  · rw [pu_ld (by omega) (by omega), hO.2 f0 h1 h2 i hi, pu_sd hi (by omega)]
  · by_cases e : pu_mc f = pu_mc f0 ∧ j = i
    · have e1 := pu_mc_inj f2 h2 e.1
      rw [e.1, e.2, pu_uss, e1]
    · rw [pu_unn _ _ _ _ (by omega)]
      rcases hC f j f1 hcc with q | q
      · exact h f j f1 f2 hj q
      · exact absurd ⟨by rw [q.1], q.2⟩ e
theorem pu_o2 (i : Nat) : (6 : Int32) + nI i = nI (pu_off 2 + i) := nI_add 6 i
theorem pu_o3 (i : Nat) : (12 : Int32) + nI i = nI (pu_off 3 + i) := nI_add 12 i
theorem pu_o4 (i : Nat) : (18 : Int32) + nI i = nI (pu_off 4 + i) := nI_add 18 i
theorem pu_o5 (i : Nat) : (24 : Int32) + nI i = nI (pu_off 5 + i) := nI_add 24 i
theorem pu_o6 (i : Nat) : (30 : Int32) + nI i = nI (pu_off 6 + i) := nI_add 30 i
theorem pu_o8 (i : Nat) : (36 : Int32) + nI i = nI (pu_off 8 + i) := nI_add 36 i
theorem pu_o7 (i : Nat) : (42 : Int32) + nI i = nI (pu_off 7 + i) := nI_add 42 i
theorem pu_o1 (i : Nat) : nI i = nI (pu_off 1 + i) := by rw [show pu_off 1 = 0 from rfl, Nat.zero_add]
/-- the reference keeps the kitchen in the row a -/
theorem pu_keepM {a : Nat} {σ : ob_St} {K : pu_K} (ha : 13 ≤ a) (hM : pu_M σ K) : ∃ τ, f_X11_keep a σ = some ((), τ) ∧ pu_O a τ K ∧ ∀ q, q ≠ a → τ q = σ q := by
  have key2 : ∀ (k i n : Nat) (σ : ob_St), i + k = 5 → k < n → pu_M σ K → pu_kq a σ K (fun f j => f ≠ 7 ∨ j < i) → ∃ τ, L_X11_keep_97 a n σ (nI i) = some ((), τ) ∧ pu_O a τ K ∧ ∀ q, q ≠ a → τ q = σ q := by
    intro k
    induction k with
    | zero =>
      intro i n σ hi hn hM hq
      obtain ⟨n, rfl⟩ : ∃ z, n = z + 1 := ⟨n - 1, by omega⟩
      refine ⟨ob_up σ a 47 (nI (K 0 0)), ?_, ⟨pu_uss _ _ _ _, fun f h1 h2 j hj => ?_⟩, fun q h => pu_un _ _ _ _ h⟩
      · rw [L_X11_keep_97, if_pos (show (5 : Int32) ≤ nI i from nI_le (a := 5) (by omega) (by omega)), show (47 : Int32) = nI 47 from rfl, pu_sd (by omega) (by omega), hM.1]
      · have := pu_off_lt h1 h2 hj
        rw [pu_usn _ _ _ _ (by omega)]
        refine hq f j h1 h2 hj ?_
        by_cases c : f = 7
        · subst c
          exact Or.inr (by have : j < 5 := hj; omega)
        · exact Or.inl c
    | succ k ih =>
      intro i n σ hi hn hM hq
      obtain ⟨n, rfl⟩ : ∃ z, n = z + 1 := ⟨n - 1, by omega⟩
      obtain ⟨σ1, e1, m1, q1, n1⟩ := pu_kpS (f0 := 7) (c := 8) (w := 5) (fun f j => f ≠ 7 ∨ j < i + 1) hM hq ha (by omega) (by omega) (show i < 5 by omega) rfl rfl (pu_o7 i) (fun f j _ h => by omega)
      obtain ⟨τ, t1, t2, t3⟩ := ih (i + 1) n σ1 (by omega) (by omega) m1 q1
      refine ⟨τ, ?_, t2, fun q h => by rw [t3 q h, n1 q h]⟩
      rw [L_X11_keep_97, if_neg (show ¬ (5 : Int32) ≤ nI i from nI_ge (b := 5) (by omega) (by omega)), nI_1]
      exact (e1 _).trans t1
  have key : ∀ (k i n : Nat) (σ : ob_St), i + k = 6 → k < n → pu_M σ K → pu_kq a σ K (fun f j => f ≠ 7 ∧ j < i) → ∃ τ, L_X11_keep_2 a n σ (nI i) = some ((), τ) ∧ pu_O a τ K ∧ ∀ q, q ≠ a → τ q = σ q := by
    intro k
    induction k with
    | zero =>
      intro i n σ hi hn hM hq
      obtain ⟨n, rfl⟩ : ∃ z, n = z + 1 := ⟨n - 1, by omega⟩
      rw [L_X11_keep_2, if_pos (show (6 : Int32) ≤ nI i from nI_le (a := 6) (by omega) (by omega)), pu_lit0]
      refine key2 5 0 1000 σ (by omega) (by omega) hM (fun f j h1 h2 hj hc => hq f j h1 h2 hj ?_)
      have : pu_kn f ≤ 6 := by unfold pu_kn; split <;> omega
      omega
    | succ k ih =>
      intro i n σ hi hn hM hq
      obtain ⟨n, rfl⟩ : ∃ z, n = z + 1 := ⟨n - 1, by omega⟩
      obtain ⟨σ1, e1, m1, q1, n1⟩ := pu_kpS (f0 := 1) (c := 1) (w := 6) (fun f j => f ≠ 7 ∧ (j < i ∨ j = i ∧ f ≤ 1)) hM hq ha (by omega) (by omega) (show i < 6 by omega) rfl rfl (pu_o1 i) (fun f j _ h => by omega)
      obtain ⟨σ2, e2, m2, q2, n2⟩ := pu_kpS (f0 := 2) (c := 2) (w := 6) (fun f j => f ≠ 7 ∧ (j < i ∨ j = i ∧ f ≤ 2)) m1 q1 ha (by omega) (by omega) (show i < 6 by omega) rfl rfl (pu_o2 i) (fun f j _ h => by omega)
      obtain ⟨σ3, e3, m3, q3, n3⟩ := pu_kpS (f0 := 3) (c := 3) (w := 6) (fun f j => f ≠ 7 ∧ (j < i ∨ j = i ∧ f ≤ 3)) m2 q2 ha (by omega) (by omega) (show i < 6 by omega) rfl rfl (pu_o3 i) (fun f j _ h => by omega)
      obtain ⟨σ4, e4, m4, q4, n4⟩ := pu_kpS (f0 := 4) (c := 4) (w := 6) (fun f j => f ≠ 7 ∧ (j < i ∨ j = i ∧ f ≤ 4)) m3 q3 ha (by omega) (by omega) (show i < 6 by omega) rfl rfl (pu_o4 i) (fun f j _ h => by omega)
      obtain ⟨σ5, e5, m5, q5, n5⟩ := pu_kpS (f0 := 5) (c := 5) (w := 6) (fun f j => f ≠ 7 ∧ (j < i ∨ j = i ∧ f ≤ 5)) m4 q4 ha (by omega) (by omega) (show i < 6 by omega) rfl rfl (pu_o5 i) (fun f j _ h => by omega)
      obtain ⟨σ6, e6, m6, q6, n6⟩ := pu_kpS (f0 := 6) (c := 6) (w := 6) (fun f j => f ≠ 7 ∧ (j < i ∨ j = i ∧ f ≤ 6)) m5 q5 ha (by omega) (by omega) (show i < 6 by omega) rfl rfl (pu_o6 i) (fun f j _ h => by omega)
      obtain ⟨σ7, e7, m7, q7, n7⟩ := pu_kpS (f0 := 8) (c := 7) (w := 6) (fun f j => f ≠ 7 ∧ j < i + 1 ∧ f ≤ 8) m6 q6 ha (by omega) (by omega) (show i < 6 by omega) rfl rfl (pu_o8 i) (fun f j _ h => by omega)
      obtain ⟨τ, t1, t2, t3⟩ := ih (i + 1) n σ7 (by omega) (by omega) m7 (fun f j h1 h2 hj hc => q7 f j h1 h2 hj ⟨hc.1, hc.2, h2⟩)
      refine ⟨τ, ?_, t2, fun q h => by rw [t3 q h, n7 q h, n6 q h, n5 q h, n4 q h, n3 q h, n2 q h, n1 q h]⟩
      rw [L_X11_keep_2, if_neg (show ¬ (6 : Int32) ≤ nI i from nI_ge (b := 6) (by omega) (by omega)), nI_1]
      exact (e1 _).trans ((e2 _).trans ((e3 _).trans ((e4 _).trans ((e5 _).trans ((e6 _).trans ((e7 _).trans t1))))))
  exact key 6 0 1000 σ (by omega) (by omega) hM (fun f j _ _ _ hc => absurd hc.2 (by omega))
/-- the reference takes the kitchen of the row a again -/
theorem pu_againM {a : Nat} {σ : ob_St} {K : pu_K} (ha : 13 ≤ a) (hO : pu_O a σ K) : ∃ τ, f_X11_again a σ = some ((), τ) ∧ pu_M τ K ∧ (∀ q, 9 ≤ q → τ q = σ q) ∧ ∀ j, j ≠ 0 → τ 0 j = σ 0 j := by
  have key2 : ∀ (k i n : Nat) (σ : ob_St), i + k = 5 → k < n → pu_O a σ K → pu_rq σ K (fun f j => f ≠ 7 ∨ j < i) → ∃ τ, L_X11_again_97 a n σ (nI i) = some ((), τ) ∧ pu_M τ K ∧ (∀ q, 9 ≤ q → τ q = σ q) ∧ ∀ j, j ≠ 0 → τ 0 j = σ 0 j := by
    intro k
    induction k with
    | zero =>
      intro i n σ hi hn hO hq
      obtain ⟨n, rfl⟩ : ∃ z, n = z + 1 := ⟨n - 1, by omega⟩
      refine ⟨ob_up σ 0 0 (nI (K 0 0)), ?_, pu_M_mc.mpr ⟨pu_uss _ _ _ _, fun f h1 h2 j hj => ?_⟩, fun q h => pu_un _ _ _ _ (by omega), fun j hj => pu_usn _ _ _ _ hj⟩
      · rw [L_X11_again_97, if_pos (show (5 : Int32) ≤ nI i from nI_le (a := 5) (by omega) (by omega)), show (47 : Int32) = nI 47 from rfl, pu_ld (by omega) (by omega), pu_pf, hO.1]
      · have := pu_mc_le h1 h2
        rw [pu_un _ _ _ _ (by omega)]
        refine hq f j h1 h2 hj ?_
        by_cases c : f = 7
        · subst c
          exact Or.inr (by have : j < 5 := hj; omega)
        · exact Or.inl c
    | succ k ih =>
      intro i n σ hi hn hO hq
      obtain ⟨n, rfl⟩ : ∃ z, n = z + 1 := ⟨n - 1, by omega⟩
      obtain ⟨σ1, e1, m1, q1, n1⟩ := pu_agS (f0 := 7) (c := 8) (w := 5) (fun f j => f ≠ 7 ∨ j < i + 1) hO hq ha (by omega) (by omega) (show i < 5 by omega) rfl rfl (pu_o7 i) (fun f j _ h => by omega)
      obtain ⟨τ, t1, t2, t3, t4⟩ := ih (i + 1) n σ1 (by omega) (by omega) m1 q1
      refine ⟨τ, ?_, t2, fun q h => by rw [t3 q h, n1 q (Or.inr h)], fun j hj => by rw [t4 j hj, n1 0 (Or.inl rfl)]⟩
      rw [L_X11_again_97, if_neg (show ¬ (5 : Int32) ≤ nI i from nI_ge (b := 5) (by omega) (by omega)), nI_1]
      exact (e1 _).trans t1
  have key : ∀ (k i n : Nat) (σ : ob_St), i + k = 6 → k < n → pu_O a σ K → pu_rq σ K (fun f j => f ≠ 7 ∧ j < i) → ∃ τ, L_X11_again_2 a n σ (nI i) = some ((), τ) ∧ pu_M τ K ∧ (∀ q, 9 ≤ q → τ q = σ q) ∧ ∀ j, j ≠ 0 → τ 0 j = σ 0 j := by
    intro k
    induction k with
    | zero =>
      intro i n σ hi hn hO hq
      obtain ⟨n, rfl⟩ : ∃ z, n = z + 1 := ⟨n - 1, by omega⟩
      rw [L_X11_again_2, if_pos (show (6 : Int32) ≤ nI i from nI_le (a := 6) (by omega) (by omega)), pu_lit0]
      refine key2 5 0 1000 σ (by omega) (by omega) hO (fun f j h1 h2 hj hc => hq f j h1 h2 hj ?_)
      have : pu_kn f ≤ 6 := by unfold pu_kn; split <;> omega
      omega
    | succ k ih =>
      intro i n σ hi hn hO hq
      obtain ⟨n, rfl⟩ : ∃ z, n = z + 1 := ⟨n - 1, by omega⟩
      obtain ⟨σ1, e1, m1, q1, n1⟩ := pu_agS (f0 := 1) (c := 1) (w := 6) (fun f j => f ≠ 7 ∧ (j < i ∨ j = i ∧ f ≤ 1)) hO hq ha (by omega) (by omega) (show i < 6 by omega) rfl rfl (pu_o1 i) (fun f j _ h => by omega)
      obtain ⟨σ2, e2, m2, q2, n2⟩ := pu_agS (f0 := 2) (c := 2) (w := 6) (fun f j => f ≠ 7 ∧ (j < i ∨ j = i ∧ f ≤ 2)) m1 q1 ha (by omega) (by omega) (show i < 6 by omega) rfl rfl (pu_o2 i) (fun f j _ h => by omega)
      obtain ⟨σ3, e3, m3, q3, n3⟩ := pu_agS (f0 := 3) (c := 3) (w := 6) (fun f j => f ≠ 7 ∧ (j < i ∨ j = i ∧ f ≤ 3)) m2 q2 ha (by omega) (by omega) (show i < 6 by omega) rfl rfl (pu_o3 i) (fun f j _ h => by omega)
      obtain ⟨σ4, e4, m4, q4, n4⟩ := pu_agS (f0 := 4) (c := 4) (w := 6) (fun f j => f ≠ 7 ∧ (j < i ∨ j = i ∧ f ≤ 4)) m3 q3 ha (by omega) (by omega) (show i < 6 by omega) rfl rfl (pu_o4 i) (fun f j _ h => by omega)
      obtain ⟨σ5, e5, m5, q5, n5⟩ := pu_agS (f0 := 5) (c := 5) (w := 6) (fun f j => f ≠ 7 ∧ (j < i ∨ j = i ∧ f ≤ 5)) m4 q4 ha (by omega) (by omega) (show i < 6 by omega) rfl rfl (pu_o5 i) (fun f j _ h => by omega)
      obtain ⟨σ6, e6, m6, q6, n6⟩ := pu_agS (f0 := 6) (c := 6) (w := 6) (fun f j => f ≠ 7 ∧ (j < i ∨ j = i ∧ f ≤ 6)) m5 q5 ha (by omega) (by omega) (show i < 6 by omega) rfl rfl (pu_o6 i) (fun f j _ h => by omega)
      obtain ⟨σ7, e7, m7, q7, n7⟩ := pu_agS (f0 := 8) (c := 7) (w := 6) (fun f j => f ≠ 7 ∧ j < i + 1 ∧ f ≤ 8) m6 q6 ha (by omega) (by omega) (show i < 6 by omega) rfl rfl (pu_o8 i) (fun f j _ h => by omega)
      obtain ⟨τ, t1, t2, t3, t4⟩ := ih (i + 1) n σ7 (by omega) (by omega) m7 (fun f j h1 h2 hj hc => q7 f j h1 h2 hj ⟨hc.1, hc.2, h2⟩)
      refine ⟨τ, ?_, t2, fun q h => by rw [t3 q h, n7 q (Or.inr h), n6 q (Or.inr h), n5 q (Or.inr h), n4 q (Or.inr h), n3 q (Or.inr h), n2 q (Or.inr h), n1 q (Or.inr h)], fun j hj => by rw [t4 j hj, n7 0 (Or.inl rfl), n6 0 (Or.inl rfl), n5 0 (Or.inl rfl), n4 0 (Or.inl rfl), n3 0 (Or.inl rfl), n2 0 (Or.inl rfl), n1 0 (Or.inl rfl)]⟩
      rw [L_X11_again_2, if_neg (show ¬ (6 : Int32) ≤ nI i from nI_ge (b := 6) (by omega) (by omega)), nI_1]
      exact (e1 _).trans ((e2 _).trans ((e3 _).trans ((e4 _).trans ((e5 _).trans ((e6 _).trans ((e7 _).trans t1))))))
  exact key 6 0 1000 σ (by omega) (by omega) hO (fun f j _ _ _ hc => absurd hc.2 (by omega))
theorem pu_op_image {σx σm : ob_St} (h : ob_RR σx σm) : ob_ok2 ob_RR (f_X10_image σx) (f_X11_image σm) := by
  obtain ⟨K, Ko, hh, T, R, ρ, hC, hX, hM⟩ := id h
  obtain ⟨τx, t1, t2, t3⟩ := pu_takeX (b := 19) (b2 := 1) (Or.inl (by omega)) hX.1
  have hM1 : pu_M (ob_up σm 0 16 1) K := pu_M_keep hM.1 (pu_usn _ _ _ _ (by decide)) (fun q _ _ => pu_un _ _ _ _ (by omega))
  obtain ⟨τm, s1, s2, s3⟩ := pu_keepM (a := 13) (by omega) hM1
  have n0 : ∀ j, j ≠ 16 → τm 0 j = σm 0 j := fun j hj => by rw [s3 0 (by decide), pu_usn _ _ _ _ hj]
  have nq : ∀ q, q ≠ 0 → q ≠ 13 → τm q = σm q := fun q h0 h1 => by rw [s3 q h1, pu_un _ _ _ _ h0]
  have nx : ∀ q, q ≠ 0 → (q < 19 ∨ 27 < q) → ob_up τx 0 3 1 q = σx q := fun q h0 h1 => by rw [pu_un _ _ _ _ h0, t3 q (by omega)]
  refine ⟨nI (K 0 0), ob_up τx 0 3 1, τm, ?_, ?_, K, K, 1, T, R, ρ, ⟨hC.1, hC.2.1, by omega, fun _ => ⟨hC.1, hC.2.1⟩, hC.2.2.2.2⟩, ?_, ?_⟩
  · unfold f_X10_image
    rw [pu_bd' _ t1, pu_pf, nx 1 (by decide) (by omega), hX.1.1]
  · unfold f_X11_image
    rw [pu_pf, pu_bd' _ s1, n0 0 (by decide), hM.1.1]
  · obtain ⟨a1, a2, a3, a4, a5, a6, a7, a8⟩ := hX
    exact ⟨pu_X_keep a1 (fun f hf => nx _ (by omega) (by omega)), pu_uss _ _ _ _, fun _ => pu_X_keep t2 (fun f hf => pu_un _ _ _ _ (by omega)), by rw [nx 28 (by decide) (by omega)]; exact a4, by rw [nx 29 (by decide) (by omega)]; exact a5, by rw [pu_usn _ _ _ _ (by decide), t3 0 (by omega)]; exact a6, by rw [nx 50 (by decide) (by omega)]; exact a7, fun j hj => by rw [nx 51 (by decide) (by omega)]; exact a8 j hj⟩
  · obtain ⟨a1, a2, a3, a4, a5, a6, a7, a8⟩ := hM
    exact ⟨pu_M_keep a1 (n0 0 (by decide)) (fun q h1 h2 => nq q (by omega) (by omega)), by rw [s3 0 (by decide), pu_uss]; rfl, fun _ => s2, by rw [n0 9 (by decide)]; exact a4, by rw [nq 9 (by decide) (by decide)]; exact a5, by rw [n0 13 (by decide)]; exact a6, by rw [nq 11 (by decide) (by decide)]; exact a7, fun j hj => by rw [nq 12 (by decide) (by decide)]; exact a8 j hj⟩
theorem pu_op_on {σx σm : ob_St} (h : ob_RR σx σm) : ob_ok2 ob_RR (f_X10_on σx) (f_X11_on σm) := by
  obtain ⟨K, Ko, hh, T, R, ρ, hC, hX, hM⟩ := id h
  have hx := hX.2.1
  have hm := hM.2.1
  have h01 : hh = 0 ∨ hh = 1 := by have := hC.2.2.1; omega
  rcases h01 with rfl | rfl
  · exact pu_ok_ref 2 (by omega) rfl rfl h (by unfold f_X10_on; rw [hx, if_pos (show nI 0 = (0 : Int32) from rfl)]) (by unfold f_X11_on; rw [hm, if_pos (show nI 0 = (0 : Int32) from rfl)])
  · obtain ⟨τx, t1, t2, t3⟩ := pu_takeX (b := 1) (b2 := 19) (Or.inr (by omega)) (hX.2.2.1 rfl)
    obtain ⟨τm, s1, s2, s3, s4⟩ := pu_againM (a := 13) (by omega) (hM.2.2.1 rfl)
    refine ⟨nI (Ko 0 0), τx, τm, ?_, ?_, pu_RR_K (K' := Ko) hC hX hM (hC.2.2.2.1 rfl).1 (hC.2.2.2.1 rfl).2 t2 s2 (fun q hq => t3 q (by omega)) (fun j h0 _ _ _ => s4 j h0) (fun q hq => s3 q (by omega))⟩
    · unfold f_X10_on
      rw [hx, if_neg (show ¬ nI 1 = (0 : Int32) from by decide), pu_bd' _ t1, t2.1]
    · unfold f_X11_on
      rw [hm, if_neg (show ¬ nI 1 = (0 : Int32) from by decide), pu_bd' _ s1, s2.1]
