/-! THE RELATION of the class's state and the reference's -/
def pu_list (f : Nat → Int32) (l : List Nat) : Prop := ∀ j, j < l.length → f j = nI (l.getD j 0)
def pu_RX (σ : ob_St) (K Ko : pu_K) (h : Nat) (T R : List Nat) (ρ : Nat → Int32) : Prop := pu_X 1 σ K ∧ σ 0 3 = nI h ∧ (h = 1 → pu_X 19 σ Ko) ∧ σ 28 1 = nI T.length ∧ pu_list (σ 29) T ∧ σ 0 9 = nI R.length ∧ pu_list (σ 50) R ∧ ∀ j, j < 6 → σ 51 j = ρ j
def pu_RM (σ : ob_St) (K Ko : pu_K) (h : Nat) (T R : List Nat) (ρ : Nat → Int32) : Prop := pu_M σ K ∧ σ 0 16 = nI h ∧ (h = 1 → pu_O 13 σ Ko) ∧ σ 0 9 = nI T.length ∧ pu_list (σ 9) T ∧ σ 0 13 = nI R.length ∧ pu_list (σ 11) R ∧ ∀ j, j < 6 → σ 12 (j + 1) = ρ j
def pu_RC (K Ko : pu_K) (h : Nat) (T R : List Nat) : Prop := pu_ok K ∧ pu_ord K (K 6) ∧ h ≤ 1 ∧ (h = 1 → pu_ok Ko ∧ pu_ord Ko (Ko 6)) ∧ T.length ≤ 96 ∧ (∀ x ∈ T, x ≤ 255) ∧ R.length ≤ 12 ∧ ∀ x ∈ R, x ≤ 99
def ob_RR (σx σm : ob_St) : Prop := ∃ (K Ko : pu_K) (h : Nat) (T R : List Nat) (ρ : Nat → Int32), pu_RC K Ko h T R ∧ pu_RX σx K Ko h T R ρ ∧ pu_RM σm K Ko h T R ρ
/-- the cells of the class that later calls read -/
def pu_vX (q : Nat) : Prop := q ≤ 9 ∨ (19 ≤ q ∧ q ≤ 29) ∨ q = 50 ∨ q = 51
theorem pu_RX_keep {σ τ : ob_St} {K Ko : pu_K} {h : Nat} {T R : List Nat} {ρ : Nat → Int32} (hR : pu_RX σ K Ko h T R ρ) (hq : ∀ q, pu_vX q → τ q = σ q) : pu_RX τ K Ko h T R ρ := by
  obtain ⟨a1, a2, a3, a4, a5, a6, a7, a8⟩ := hR
  refine ⟨pu_X_keep a1 (fun f hf => hq _ (Or.inl (by omega))), by rw [hq 0 (Or.inl (by omega))]; exact a2, fun e => pu_X_keep (a3 e) (fun f hf => hq _ (Or.inr (Or.inl (by omega)))), by rw [hq 28 (Or.inr (Or.inl (by omega)))]; exact a4, by rw [hq 29 (Or.inr (Or.inl (by omega)))]; exact a5, by rw [hq 0 (Or.inl (by omega))]; exact a6, by rw [hq 50 (Or.inr (Or.inr (Or.inl rfl)))]; exact a7, fun j hj => by rw [hq 51 (Or.inr (Or.inr (Or.inr rfl)))]; exact a8 j hj⟩
/-- the reference's cells that later calls read -/
def pu_vM (q : Nat) : Prop := (1 ≤ q ∧ q ≤ 9) ∨ (11 ≤ q ∧ q ≤ 13)
theorem pu_M_keep {σ τ : ob_St} {K : pu_K} (h : pu_M σ K) (h0 : τ 0 0 = σ 0 0) (hq : ∀ q, 1 ≤ q → q ≤ 8 → τ q = σ q) : pu_M τ K :=
  ⟨by rw [h0]; exact h.1, fun f h1 h2 j hj => by rw [hq f h1 (by omega)]; exact h.2.1 f h1 h2 j hj, fun j hj => by rw [hq 7 (by omega) (by omega)]; exact h.2.2.1 j hj, fun j hj => by rw [hq 8 (by omega) (by omega)]; exact h.2.2.2 j hj⟩
theorem pu_O_keep {c : Nat} {σ τ : ob_St} {K : pu_K} (h : pu_O c σ K) (hq : τ c = σ c) : pu_O c τ K := ⟨by rw [hq]; exact h.1, fun f h1 h2 j hj => by rw [hq]; exact h.2 f h1 h2 j hj⟩
theorem pu_RM_keep {σ τ : ob_St} {K Ko : pu_K} {h : Nat} {T R : List Nat} {ρ : Nat → Int32} (hR : pu_RM σ K Ko h T R ρ) (h0 : ∀ j, j ≠ 11 → j ≠ 21 → j ≠ 22 → τ 0 j = σ 0 j) (hq : ∀ q, pu_vM q → τ q = σ q) : pu_RM τ K Ko h T R ρ := by
  obtain ⟨a1, a2, a3, a4, a5, a6, a7, a8⟩ := hR
  refine ⟨pu_M_keep a1 (h0 0 (by decide) (by decide) (by decide)) (fun q h1 h2 => hq q (Or.inl (by omega))), by rw [h0 16 (by decide) (by decide) (by decide)]; exact a2, fun e => pu_O_keep (a3 e) (hq 13 (Or.inr (by omega))), by rw [h0 9 (by decide) (by decide) (by decide)]; exact a4, by rw [hq 9 (Or.inl (by omega))]; exact a5, by rw [h0 13 (by decide) (by decide) (by decide)]; exact a6, by rw [hq 11 (Or.inr (by omega))]; exact a7, fun j hj => by rw [hq 12 (Or.inr (by omega))]; exact a8 j hj⟩
theorem pu_M_M0 {σ : ob_St} {K : pu_K} (h : pu_M σ K) : pu_M0 σ K := ⟨h.1, fun f h1 h2 j hj => h.2.1 f h1 (by omega) j hj, h.2.2.1, h.2.2.2⟩
/-! REFUSALS -/
theorem pu_refX {σ : ob_St} {k : Nat} {v : Int32} (hk : k < 6) (hv : -v - 1 = nI k) : f_X10_refuse σ v = some (v, ob_up σ 51 k (σ 51 k + 1)) := by
  unfold f_X10_refuse
  rw [pu_nm, hv, if_neg (nI_pos (by omega)), if_neg (show ¬ (6 : Int32) ≤ nI k from nI_ge (b := 6) (by omega) (by omega)), pu_ld hk (by omega), pu_sd hk (by omega)]
theorem pu_refM {σ : ob_St} {k : Nat} {v : Int32} (hk : k < 6) (hv : -v = nI (k + 1)) : f_X11_no σ v = some (v, ob_up σ 12 (k + 1) (σ 12 (k + 1) + 1)) := by
  unfold f_X11_no
  rw [hv, pu_ld (by omega) (by omega), pu_sd (by omega) (by omega)]
theorem pu_refR {σx σm : ob_St} (k : Nat) (hk : k < 6) (h : ob_RR σx σm) : ob_RR (ob_up σx 51 k (σx 51 k + 1)) (ob_up σm 12 (k + 1) (σm 12 (k + 1) + 1)) := by
  obtain ⟨K, Ko, hh, T, R, ρ, hC, hX, hM⟩ := h
  refine ⟨K, Ko, hh, T, R, upd ρ k (ρ k + 1), hC, ?_, ?_⟩
  · obtain ⟨a1, a2, a3, a4, a5, a6, a7, a8⟩ := hX
    have n : ∀ q, q ≠ 51 → ob_up σx 51 k (σx 51 k + 1) q = σx q := fun q hq => pu_un _ _ _ _ hq
    refine ⟨pu_X_keep a1 (fun f hf => n _ (by omega)), by rw [n 0 (by decide)]; exact a2, fun e => pu_X_keep (a3 e) (fun f hf => n _ (by omega)), by rw [n 28 (by decide)]; exact a4, by rw [n 29 (by decide)]; exact a5, by rw [n 0 (by decide)]; exact a6, by rw [n 50 (by decide)]; exact a7, fun j hj => ?_⟩
    by_cases c : j = k
    · subst c
      rw [pu_uss, pk_us, a8 j hj]
    · rw [pu_usn _ _ _ _ c, pk_un c]; exact a8 j hj
  · obtain ⟨a1, a2, a3, a4, a5, a6, a7, a8⟩ := hM
    have n : ∀ q, q ≠ 12 → ob_up σm 12 (k + 1) (σm 12 (k + 1) + 1) q = σm q := fun q hq => pu_un _ _ _ _ hq
    refine ⟨pu_M_keep a1 (by rw [n 0 (by decide)]) (fun q h1 h2 => n q (by omega)), by rw [n 0 (by decide)]; exact a2, fun e => pu_O_keep (a3 e) (n 13 (by decide)), by rw [n 0 (by decide)]; exact a4, by rw [n 9 (by decide)]; exact a5, by rw [n 0 (by decide)]; exact a6, by rw [n 11 (by decide)]; exact a7, fun j hj => ?_⟩
    by_cases c : j = k
    · subst c
      rw [pu_uss, pk_us, a8 j hj]
    · rw [pu_usn _ _ _ _ (by omega), pk_un c]; exact a8 j hj
/-- both refuse -/
theorem pu_ok_ref {σx σm : ob_St} (k : Nat) {v : Int32} {fx fm : Option (Int32 × ob_St)} (hk : k < 6) (hv : -v = nI (k + 1)) (hv2 : -v - 1 = nI k) (h : ob_RR σx σm) (hx : fx = ob_bd (f_X10_refuse σx v) fun r s => some (r, s)) (hm : fm = ob_bd (f_X11_no σm v) fun r s => some (r, s)) : ob_ok2 ob_RR fx fm :=
  ⟨v, _, _, by rw [hx, pu_refX hk hv2, pu_bd], by rw [hm, pu_refM hk hv, pu_bd], pu_refR k hk h⟩
theorem pu_ok_refA {σx σm : ob_St} (k : Nat) {v : Int32} {fx fm : Option (Int32 × ob_St)} (hk : k < 6) (hv : -v = nI (k + 1)) (hv2 : -v - 1 = nI k) (h : ob_RR σx σm) (hx : fx = ob_bd (f_X10_refuseAbove σx v) fun r s => some (r, s)) (hm : fm = ob_bd (f_X11_noMuch σm v) fun r s => some (r, s)) : ob_ok2 ob_RR fx fm :=
  ⟨1000000000 - v, _, _, by rw [hx]; unfold f_X10_refuseAbove; rw [pu_refX hk hv2, pu_bd, pu_bd], by rw [hm]; unfold f_X11_noMuch; rw [pu_refM hk hv, pu_bd, pu_bd], pu_refR k hk h⟩
/-! the same tests -/
theorem pu_within {σ : ob_St} {x a b : Int32} : f_X11_within σ x a b = some (if a ≤ x ∧ x ≤ b then 1 else 0, σ) := by
  unfold f_X11_within
  by_cases h1 : x < a
  · rw [if_pos h1, if_neg (fun q => Int32.lt_irrefl (Int32.lt_of_lt_of_le h1 q.1))]; rfl
  · rw [if_neg h1]
    by_cases h2 : b < x
    · rw [if_pos h2, if_neg (fun q => Int32.lt_irrefl (Int32.lt_of_lt_of_le h2 q.2))]; rfl
    · rw [if_neg h2, if_pos ⟨Int32.not_lt.mp h1, Int32.not_lt.mp h2⟩]; rfl
theorem pu_lt1 {x : Int32} {d : Nat} (hd : d ≤ 6) (h0 : 0 ≤ x) : x ≤ nI d - 1 ↔ x < nI d := by
  rw [Int32.le_iff_toInt_le, Int32.lt_iff_toInt_lt]
  have h1 : (nI d - 1).toInt = (d : Int) - 1 := pk_sub_toInt (a := d) (b := 1) (by omega) (by omega)
  rw [h1, nI_toInt (by omega)]
  omega
theorem pu_isDish {σ : ob_St} {d : Nat} (hd : d ≤ 6) (h0 : σ 0 0 = nI d) (x : Int32) : f_X11_isDish σ x = some (if 0 ≤ x ∧ x < nI d then 1 else 0, σ) := by
  unfold f_X11_isDish
  rw [pu_within, pu_bd, h0]
  by_cases h : 0 ≤ x ∧ x < nI d
  · rw [if_pos ⟨h.1, (pu_lt1 hd h.1).mpr h.2⟩, if_pos h]; rfl
  · rw [if_neg (fun q => h ⟨q.1, (pu_lt1 hd q.1).mp q.2⟩), if_neg h]; rfl
/-- an argument that is a DISH, as a number -/
theorem pu_num {x : Int32} {d : Nat} (hd : d < 2 ^ 31) (h : 0 ≤ x ∧ x < nI d) : ∃ n, n < d ∧ x = nI n := by
  obtain ⟨j, hj, rfl⟩ := nI_of (Int32.not_lt.mpr h.1)
  exact ⟨j, (nI_ltI hj hd).mp h.2, rfl⟩
