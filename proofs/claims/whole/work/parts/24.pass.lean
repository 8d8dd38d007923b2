/-! what a DISH's evening is, out of when it is UP -/
def pu_sv (K : pu_K) (u : Nat → Nat) (d : Nat) : Nat := max (u d) (pu_begin K (K 5 d))
def pu_wm (K : pu_K) (u : Nat → Nat) (d : Nat) : Nat := K 3 d - pu_cool (K 1 d) (pu_sv K u d)
def pu_late (K : pu_K) (u : Nat → Nat) (d : Nat) : Nat := u d - pu_begin K (K 5 d)
def pu_std (K : pu_K) (u : Nat → Nat) (d : Nat) : Nat := pu_sv K u d - u d
def pu_sl (K : pu_K) (s d : Nat) : Nat := pu_slop K (K 1 d) + (if d = s then 2 else 0)
def pu_mx (f : Nat → Nat) : Nat → Nat
  | 0 => 0
  | n + 1 => max (pu_mx f n) (f n)
theorem pu_sum_le {f : Nat → Nat} {B : Nat} : ∀ (n : Nat), (∀ j, j < n → f j ≤ B) → pu_sum f n ≤ B * n := by
  intro n
  induction n with
  | zero => intro _; exact Nat.le_refl _
  | succ n ih =>
    intro h
    have h1 := ih (fun j hj => h j (by omega))
    have h2 := h n (by omega)
    rw [pu_sum, Nat.mul_succ]
    omega
theorem pu_mx_le {f : Nat → Nat} {B : Nat} : ∀ (n : Nat), (∀ j, j < n → f j ≤ B) → pu_mx f n ≤ B := by
  intro n
  induction n with
  | zero => intro _; exact Nat.zero_le _
  | succ n ih =>
    intro h
    have h1 := ih (fun j hj => h j (by omega))
    have h2 := h n (by omega)
    rw [pu_mx]
    omega
theorem pu_sum_congr {f g : Nat → Nat} : ∀ (n : Nat), (∀ j, j < n → f j = g j) → pu_sum f n = pu_sum g n := by
  intro n
  induction n with
  | zero => intro _; rfl
  | succ n ih =>
    intro h
    rw [pu_sum, pu_sum, ih (fun j hj => h j (by omega)), h n (by omega)]
theorem pu_sumUp {b : Nat} {σ : ob_St} {d : Nat} {lt wm sl sd : Nat → Nat} (hb : b = 1 ∨ b = 10 ∨ b = 19) (h0 : σ b 0 = nI d) (hd : d ≤ 6) (h42 : ∀ j, j < d → σ 42 j = nI (lt j)) (hlt : ∀ j, j < d → lt j ≤ 10000) (h41 : ∀ j, j < d → σ 41 j = nI (wm j)) (h45 : ∀ j, j < d → σ 45 j = nI (sl j)) (h44 : ∀ j, j < d → σ 44 j = nI (sd j)) :
    ∃ σ', f_X1_sumUp b σ = some ((), σ') ∧ (∀ q, q ≠ 46 → σ' q = σ q) ∧ σ' 46 0 = nI (pu_sum lt d) ∧ σ' 46 1 = nI (pu_mx lt d) ∧ σ' 46 2 = nI (pu_sum wm d) ∧ σ' 46 3 = nI (pu_sum sl d) ∧ σ' 46 4 = nI (pu_sum sd d) ∧ σ' 46 5 = σ 46 5 ∧ σ' 46 6 = σ 46 6 ∧ σ' 46 7 = nI (pu_sum wm d) - nI (pu_sum lt d) - 5 * nI (pu_sum sl d) := by
  have hb46 : b ≠ 46 := by omega
  have key : ∀ (k i n : Nat) (τ : ob_St), i + k = d → k < n → (∀ q, q ≠ 46 → τ q = σ q) → τ 46 0 = nI (pu_sum lt d) → τ 46 1 = nI (pu_mx lt i) → τ 46 5 = σ 46 5 → τ 46 6 = σ 46 6 →
      ∃ σ', L_X1_sumUp_23 b n τ (nI i) = some ((), σ') ∧ (∀ q, q ≠ 46 → σ' q = σ q) ∧ σ' 46 0 = nI (pu_sum lt d) ∧ σ' 46 1 = nI (pu_mx lt d) ∧ σ' 46 2 = nI (pu_sum wm d) ∧ σ' 46 3 = nI (pu_sum sl d) ∧ σ' 46 4 = nI (pu_sum sd d) ∧ σ' 46 5 = σ 46 5 ∧ σ' 46 6 = σ 46 6 ∧ σ' 46 7 = nI (pu_sum wm d) - nI (pu_sum lt d) - 5 * nI (pu_sum sl d) := by
    intro k
    induction k with
    | zero =>
      intro i n τ hi hn hq e0 e1 e5 e6
      obtain ⟨n, rfl⟩ : ∃ z, n = z + 1 := ⟨n - 1, by omega⟩
      have hid : i = d := by omega
      subst hid
      have a1 : f_X3_sumOf b 41 τ = some (nI (pu_sum wm i), τ) := pu_sumOf (by rw [hq b hb46]; exact h0) hd (fun j hj => by rw [hq 41 (by decide)]; exact h41 j hj)
      let τ1 := ob_up τ 46 2 (nI (pu_sum wm i))
      have a2 : f_X3_sumOf b 45 τ1 = some (nI (pu_sum sl i), τ1) := pu_sumOf (by show ob_up τ 46 2 _ b 0 = _; rw [pu_un _ _ _ _ hb46, hq b hb46]; exact h0) hd (fun j hj => by show ob_up τ 46 2 _ 45 j = _; rw [pu_un _ _ _ _ (by decide), hq 45 (by decide)]; exact h45 j hj)
      let τ2 := ob_up τ1 46 3 (nI (pu_sum sl i))
      have a3 : f_X3_sumOf b 44 τ2 = some (nI (pu_sum sd i), τ2) := pu_sumOf (by show ob_up (ob_up τ 46 2 _) 46 3 _ b 0 = _; rw [pu_un _ _ _ _ hb46, pu_un _ _ _ _ hb46, hq b hb46]; exact h0) hd (fun j hj => by show ob_up (ob_up τ 46 2 _) 46 3 _ 44 j = _; rw [pu_un _ _ _ _ (by decide), pu_un _ _ _ _ (by decide), hq 44 (by decide)]; exact h44 j hj)
      let τ3 := ob_up τ2 46 4 (nI (pu_sum sd i))
      have t2 : τ3 46 2 = nI (pu_sum wm i) := by show ob_up (ob_up (ob_up τ 46 2 _) 46 3 _) 46 4 _ 46 2 = _; rw [pu_usn _ _ _ _ (by decide), pu_usn _ _ _ _ (by decide), pu_uss]
      have t0 : τ3 46 0 = nI (pu_sum lt i) := by show ob_up (ob_up (ob_up τ 46 2 _) 46 3 _) 46 4 _ 46 0 = _; rw [pu_usn _ _ _ _ (by decide), pu_usn _ _ _ _ (by decide), pu_usn _ _ _ _ (by decide), e0]
      have t3 : τ3 46 3 = nI (pu_sum sl i) := by show ob_up (ob_up (ob_up τ 46 2 _) 46 3 _) 46 4 _ 46 3 = _; rw [pu_usn _ _ _ _ (by decide), pu_uss]
      have t4 : τ3 46 4 = nI (pu_sum sd i) := by show ob_up (ob_up (ob_up τ 46 2 _) 46 3 _) 46 4 _ 46 4 = _; rw [pu_uss]
      have tj : ∀ j, j ≠ 2 → j ≠ 3 → j ≠ 4 → τ3 46 j = τ 46 j := fun j j2 j3 j4 => by show ob_up (ob_up (ob_up τ 46 2 _) 46 3 _) 46 4 _ 46 j = _; rw [pu_usn _ _ _ _ j4, pu_usn _ _ _ _ j3, pu_usn _ _ _ _ j2]
      have tq : ∀ q, q ≠ 46 → τ3 q = σ q := fun q h => by show ob_up (ob_up (ob_up τ 46 2 _) 46 3 _) 46 4 _ q = _; rw [pu_un _ _ _ _ h, pu_un _ _ _ _ h, pu_un _ _ _ _ h, hq q h]
      refine ⟨ob_up τ3 46 7 (nI (pu_sum wm i) - nI (pu_sum lt i) - 5 * nI (pu_sum sl i)), ?_, fun q h => by rw [pu_un _ _ _ _ h, tq q h], ?_, ?_, ?_, ?_, ?_, ?_, ?_, ?_⟩
      · rw [L_X1_sumUp_23, hq b hb46, h0, if_pos (nI_le (Nat.le_refl _) (by omega)), pu_bd' _ a1, pu_S8_2, pu_bd' _ a2, pu_S8_3, pu_bd' _ a3, pu_S8_4, pu_L8_2, pu_L8_0, pu_L8_3]
        show ob_sd τ3 46 8 7 (τ3 46 2 - τ3 46 0 - 5 * τ3 46 3) _ = _
        rw [t2, t0, t3, pu_S8_7]
      · rw [pu_usn _ _ _ _ (by decide), t0]
      · rw [pu_usn _ _ _ _ (by decide), tj 1 (by decide) (by decide) (by decide), e1]
      · rw [pu_usn _ _ _ _ (by decide), t2]
      · rw [pu_usn _ _ _ _ (by decide), t3]
      · rw [pu_usn _ _ _ _ (by decide), t4]
      · rw [pu_usn _ _ _ _ (by decide), tj 5 (by decide) (by decide) (by decide), e5]
      · rw [pu_usn _ _ _ _ (by decide), tj 6 (by decide) (by decide) (by decide), e6]
      · rw [pu_uss]
    | succ k ih =>
      intro i n τ hi hn hq e0 e1 e5 e6
      obtain ⟨n, rfl⟩ : ∃ z, n = z + 1 := ⟨n - 1, by omega⟩
      have hm := pu_mx_le (f := lt) (B := 10000) i (fun j hj => hlt j (by omega))
      have hl := hlt i (by omega)
      rw [L_X1_sumUp_23, hq b hb46, h0, if_neg (nI_ge (by omega) (by omega)), pu_L8_1, e1, pu_ld (by omega) (by omega), hq 42 (by decide), h42 i (by omega), pu_max (by omega) (by omega), pu_S8_1, nI_1]
      exact ih (i + 1) n _ (by omega) (by omega) (fun q h => by rw [pu_un _ _ _ _ h, hq q h]) (by rw [pu_usn _ _ _ _ (by decide), e0]) (by rw [pu_uss]; rfl) (by rw [pu_usn _ _ _ _ (by decide), e5]) (by rw [pu_usn _ _ _ _ (by decide), e6])
  have a0 : f_X3_sumOf b 42 σ = some (nI (pu_sum lt d), σ) := pu_sumOf h0 hd h42
  obtain ⟨σ', z⟩ := key d 0 1000 (ob_up (ob_up σ 46 0 (nI (pu_sum lt d))) 46 1 (nI 0)) (by omega) (by omega) (fun q h => by rw [pu_un _ _ _ _ h, pu_un _ _ _ _ h]) (by rw [pu_usn _ _ _ _ (by decide), pu_uss]) (by rw [pu_uss]; rfl) (by rw [pu_usn _ _ _ _ (by decide), pu_usn _ _ _ _ (by decide)]) (by rw [pu_usn _ _ _ _ (by decide), pu_usn _ _ _ _ (by decide)])
  refine ⟨σ', ?_, z.2⟩
  unfold f_X1_sumUp
  rw [pu_bd' _ a0, pu_S8_0, pu_S8_1, pu_lit0]
  exact z.1
theorem pu_serve {b : Nat} {K : pu_K} (hb : b = 1 ∨ b = 10 ∨ b = 19) (hK : pu_ok K) {σ : ob_St} (hX : pu_X b σ K) {x : Nat} (hx : x < 6) {u : Nat → Nat} (hu : u x ≤ 6400) (h39 : σ 39 x = nI (u x)) :
    ∃ σ', f_X1_serve b σ (nI x) = some ((), σ') ∧ (∀ q, q ≠ 40 → q ≠ 41 → q ≠ 42 → q ≠ 44 → q ≠ 45 → σ' q = σ q) ∧ (∀ q, q = 40 ∨ q = 41 ∨ q = 42 ∨ q = 44 ∨ q = 45 → ∀ j, j ≠ x → σ' q j = σ q j) ∧ σ' 40 x = nI (pu_sv K u x) ∧ σ' 41 x = nI (pu_wm K u x) ∧ σ' 42 x = nI (pu_late K u x) ∧ σ' 44 x = nI (pu_std K u x) ∧ σ' 45 x = nI (pu_slop K (K 1 x)) := by
  have e3 := pu_Xf hX 3 x (by omega) (by omega) hx
  have e5 := pu_Xf hX 5 x (by omega) (by omega) hx
  have e84 := pu_Xf hX 8 4 (by omega) (by omega) (by decide)
  obtain ⟨hk1, -, hk3, -, hk5, -⟩ := hK.2.1 x hx
  have h7 := hK.2.2.2.2.1 (K 5 x) (by omega)
  have hbg : pu_begin K (K 5 x) ≤ 600 := by unfold pu_begin; omega
  have hsv : pu_sv K u x ≤ 7000 := by unfold pu_sv; omega
  have hcl : pu_cool (K 1 x) (pu_sv K u x) ≤ 7001 := by
    unfold pu_cool
    split <;> omega
  have hb1 : b + 3 ≠ 40 := by omega
  have hb8 : ∀ q, 40 ≤ q → b + 8 ≠ q := by intro q hq; omega
  obtain ⟨τ1, d1⟩ : ∃ z, z = ob_up σ 40 x (nI (pu_sv K u x)) := ⟨_, rfl⟩
  obtain ⟨τ2, d2⟩ : ∃ z, z = ob_up τ1 41 x (nI (pu_wm K u x)) := ⟨_, rfl⟩
  obtain ⟨τ3, d3⟩ : ∃ z, z = ob_up τ2 42 x (nI (pu_late K u x)) := ⟨_, rfl⟩
  obtain ⟨τ4, d4⟩ : ∃ z, z = ob_up τ3 44 x (nI (pu_std K u x)) := ⟨_, rfl⟩
  obtain ⟨τ5, d5⟩ : ∃ z, z = ob_up τ4 45 x (nI (pu_slop K (K 1 x))) := ⟨_, rfl⟩
  have n1 : ∀ q, q ≠ 40 → τ1 q = σ q := fun q h => by rw [d1]; exact pu_un _ _ _ _ h
  have n2 : ∀ q, q ≠ 41 → τ2 q = τ1 q := fun q h => by rw [d2]; exact pu_un _ _ _ _ h
  have n3 : ∀ q, q ≠ 42 → τ3 q = τ2 q := fun q h => by rw [d3]; exact pu_un _ _ _ _ h
  have n4 : ∀ q, q ≠ 44 → τ4 q = τ3 q := fun q h => by rw [d4]; exact pu_un _ _ _ _ h
  have n5 : ∀ q, q ≠ 45 → τ5 q = τ4 q := fun q h => by rw [d5]; exact pu_un _ _ _ _ h
  have m1 : τ1 40 x = nI (pu_sv K u x) := by rw [d1]; exact pu_uss _ _ _ _
  have m2 : τ2 41 x = nI (pu_wm K u x) := by rw [d2]; exact pu_uss _ _ _ _
  have m3 : τ3 42 x = nI (pu_late K u x) := by rw [d3]; exact pu_uss _ _ _ _
  have m4 : τ4 44 x = nI (pu_std K u x) := by rw [d4]; exact pu_uss _ _ _ _
  have m5 : τ5 45 x = nI (pu_slop K (K 1 x)) := by rw [d5]; exact pu_uss _ _ _ _
  refine ⟨τ5, ?_, ?_, ?_, ?_, ?_, ?_, ?_, m5⟩
  · unfold f_X1_serve
    rw [pu_bd' _ (pu_kindOf hX hK hx), pu_ld hx (by omega), e5, pu_bd' _ (pu_beginX hX hK (by omega)), pu_ld hx (by omega), h39, pu_max (by omega) (by omega), pu_sd hx (by omega), show max (u x) (pu_begin K (K 5 x)) = pu_sv K u x from rfl, ← d1]
    rw [pu_ld hx (by omega), n1 _ hb1, e3, pu_ld hx (by omega), m1, pu_bd' _ (pu_cooled (by omega) (by omega) τ1), pu_max0 (by omega) (by omega), pu_sd hx (by omega), show K 3 x - pu_cool (K 1 x) (pu_sv K u x) = pu_wm K u x from rfl, ← d2]
    rw [pu_ld hx (by omega), n2 _ (by decide), n1 _ (by decide), h39, pu_max0 (by omega) (by omega), pu_sd hx (by omega), show u x - pu_begin K (K 5 x) = pu_late K u x from rfl, ← d3]
    rw [pu_ld hx (by omega), n3 _ (by decide), n2 _ (by decide), m1, pu_ld hx (by omega), n3 _ (by decide), n2 _ (by decide), n1 _ (by decide), h39, pk_sub (show u x ≤ pu_sv K u x by unfold pu_sv; omega), pu_sd hx (by omega), show pu_sv K u x - u x = pu_std K u x from rfl, ← d4]
    rw [pu_L6_4, n4 _ (hb8 _ (by decide)), n3 _ (hb8 _ (by decide)), n2 _ (hb8 _ (by decide)), n1 _ (hb8 _ (by decide)), e84, pu_bd' _ (pu_slopped (by omega) rfl τ4), pu_sd hx (by omega), ← d5]
  · intro q q0 q1 q2 q4 q5
    rw [n5 q q5, n4 q q4, n3 q q2, n2 q q1, n1 q q0]
  · intro q hq j hj
    rcases hq with rfl | rfl | rfl | rfl | rfl
    · rw [n5 _ (by decide), n4 _ (by decide), n3 _ (by decide), n2 _ (by decide), d1]; exact pu_usn _ _ _ _ hj
    · rw [n5 _ (by decide), n4 _ (by decide), n3 _ (by decide)]
      rw [d2, pu_usn _ _ _ _ hj, n1 _ (by decide)]
    · rw [n5 _ (by decide), n4 _ (by decide)]
      rw [d3, pu_usn _ _ _ _ hj, n2 _ (by decide), n1 _ (by decide)]
    · rw [n5 _ (by decide)]
      rw [d4, pu_usn _ _ _ _ hj, n3 _ (by decide), n2 _ (by decide), n1 _ (by decide)]
    · rw [d5, pu_usn _ _ _ _ hj, n4 _ (by decide), n3 _ (by decide), n2 _ (by decide), n1 _ (by decide)]
  · rw [n5 _ (by decide), n4 _ (by decide), n3 _ (by decide), n2 _ (by decide), m1]
  · rw [n5 _ (by decide), n4 _ (by decide), n3 _ (by decide), m2]
  · rw [n5 _ (by decide), n4 _ (by decide), m3]
  · rw [n5 _ (by decide), m4]
/-- what stands in the class's rows behind an evening -/
def pu_rows (σ : ob_St) (d : Nat) (u sv wm lt sd sl : Nat → Nat) : Prop := ∀ j, j < d → σ 39 j = nI (u j) ∧ σ 40 j = nI (sv j) ∧ σ 41 j = nI (wm j) ∧ σ 42 j = nI (lt j) ∧ σ 44 j = nI (sd j) ∧ σ 45 j = nI (sl j)
