/-! BEST, FITS: the search's state on both sides -/
def pu_R2 (σ : ob_St) (Ko : pu_K) (h : Nat) (T R : List Nat) (ρ : Nat → Int32) : Prop := σ 0 16 = nI h ∧ (h = 1 → pu_O 13 σ Ko) ∧ σ 0 9 = nI T.length ∧ pu_list (σ 9) T ∧ σ 0 13 = nI R.length ∧ pu_list (σ 11) R ∧ ∀ j, j < 6 → σ 12 (j + 1) = ρ j
theorem pu_R2_keep {σ τ : ob_St} {Ko : pu_K} {h : Nat} {T R : List Nat} {ρ : Nat → Int32} (hR : pu_R2 σ Ko h T R ρ) (h0 : ∀ j, j = 9 ∨ j = 13 ∨ j = 16 → τ 0 j = σ 0 j) (hq : ∀ q, q = 9 ∨ q = 11 ∨ q = 12 ∨ q = 13 → τ q = σ q) : pu_R2 τ Ko h T R ρ := by
  obtain ⟨z2, z3, z4, z5, z6, z7, z8⟩ := hR
  exact ⟨by rw [h0 16 (by omega)]; exact z2, fun e => pu_O_keep (z3 e) (hq 13 (by omega)), by rw [h0 9 (by omega)]; exact z4, by rw [hq 9 (by omega)]; exact z5, by rw [h0 13 (by omega)]; exact z6, by rw [hq 11 (by omega)]; exact z7, fun j hj => by rw [hq 12 (by omega)]; exact z8 j hj⟩
def pu_AX (K Ko : pu_K) (h : Nat) (T R : List Nat) (ρ : Nat → Int32) (c : Nat) (σ : ob_St) : Prop := pu_RX σ K Ko h T R ρ ∧ σ 47 1 = nI (K 0 0) ∧ ∀ j, j < K 0 0 → σ 48 j = nI (pu_oc c j)
def pu_AM (K Ko : pu_K) (h : Nat) (T R : List Nat) (ρ : Nat → Int32) (c : Nat) (σ : ob_St) : Prop := pu_M0 σ K ∧ pu_O 14 σ K ∧ (∀ j, j < K 0 0 → σ 6 j = nI (pu_oc c j)) ∧ pu_R2 σ Ko h T R ρ
def pu_F (K : pu_K) (σx σm : ob_St) : Prop := ∀ j, j < K 0 0 → σx 49 j = σm 17 j
section PUB
variable {K Ko : pu_K} {hh : Nat} {T R : List Nat} {ρ : Nat → Int32} {c : Nat} {σ : ob_St}
theorem pu_AXev (hK : pu_ok K) (ho : pu_ord K (pu_oc c)) (hA : pu_AX K Ko hh T R ρ c σ) : ∃ τ, f_X1_pass 1 48 σ (-1) = some ((), τ) ∧ pu_AX K Ko hh T R ρ c τ ∧ pu_EvX K (pu_oc c) 7 τ ∧ τ 49 = σ 49 := by
  obtain ⟨hR, h1, h2⟩ := hA
  obtain ⟨τ, t1, t2, t3, t4⟩ := pu_pass (b := 1) (a := 48) (st := -1) (Or.inl rfl) hK ⟨by decide, by decide⟩ hR.1 ho h2 (pu_st7 K)
  refine ⟨τ, t1, ⟨pu_RX_keep hR (fun q hq => ?_), by rw [t2 47 (by omega) (by omega)]; exact h1, fun j hj => by rw [t2 48 (by omega) (by omega)]; exact h2 j hj⟩, t4, t2 49 (by omega) (by omega)⟩
  unfold pu_vX at hq
  exact t2 q (by omega) (by omega)
theorem pu_AMev (hK : pu_ok K) (ho : pu_ord K (pu_oc c)) (hA : pu_AM K Ko hh T R ρ c σ) : ∃ τ, f_X11_run σ (-9) = some ((), τ) ∧ pu_AM K Ko hh T R ρ c τ ∧ pu_EvM K (pu_oc c) 7 τ ∧ τ 17 = σ 17 := by
  obtain ⟨h0, h1, h2, h3⟩ := hA
  obtain ⟨τ, t1, t2, t3, t4⟩ := pu_run (st := -9) hK h0 ho h2 (pu_sM7 K)
  exact ⟨τ, t1, ⟨pu_M0_keep h0 (t3 0 (by omega) (by omega)) (fun q q1 q2 => t2 q (by omega) (by omega) (by omega)), pu_O_keep h1 (t2 14 (by omega) (by omega) (by omega)), fun j hj => by rw [t2 6 (by omega) (by omega) (by omega)]; exact h2 j hj, pu_R2_keep h3 (fun j hj => t3 j (by omega) (by omega)) (fun q hq => t2 q (by omega) (by omega) (by omega))⟩, t4, t2 17 (by omega) (by omega) (by omega)⟩
theorem pu_AXcp (hK : pu_ok K) (hA : pu_AX K Ko hh T R ρ c σ) : ∃ τ, (∀ {α : Type} (k : ob_St → Option α), ob_cp σ 48 49 6 k = k τ) ∧ pu_AX K Ko hh T R ρ c τ ∧ ∀ j, j < K 0 0 → τ 49 j = nI (pu_oc c j) := by
  obtain ⟨hR, h1, h2⟩ := hA
  have hd6 := hK.1
  have n : ∀ q, q ≠ 49 → ob_upA σ 49 (va_cpy (σ 48) (σ 49) 0 0 6) q = σ q := fun q hq => ob_upA_ne _ _ _ hq
  refine ⟨ob_upA σ 49 (va_cpy (σ 48) (σ 49) 0 0 6), fun k => pu_cp _ _ _ _ _, ⟨pu_RX_keep hR (fun q hq => n q (by unfold pu_vX at hq; omega)), by rw [n 47 (by omega)]; exact h1, fun j hj => by rw [n 48 (by omega)]; exact h2 j hj⟩, fun j hj => ?_⟩
  rw [ob_upA_self, pk_cpy_in (by omega) (by omega), Nat.zero_add, Nat.sub_zero]
  exact h2 j hj
theorem pu_AM17 (hA : pu_AM K Ko hh T R ρ c σ) {i : Nat} {x : Int32} : pu_AM K Ko hh T R ρ c (ob_up σ 17 i x) := by
  obtain ⟨h0, h1, h2, h3⟩ := hA
  have n : ∀ q, q ≠ 17 → ob_up σ 17 i x q = σ q := fun q hq => pu_un _ _ _ _ hq
  exact ⟨pu_M0_keep h0 (by rw [n 0 (by omega)]) (fun q q1 q2 => n q (by omega)), pu_O_keep h1 (n 14 (by omega)), fun j hj => by rw [n 6 (by omega)]; exact h2 j hj, pu_R2_keep h3 (fun j hj => by rw [n 0 (by omega)]) (fun q hq => n q (by omega))⟩
theorem pu_AMcp (hK : pu_ok K) {v1 v2 v3 : Int32} : ∀ (k i n : Nat) (σ : ob_St), i + k = K 0 0 → k < n → pu_AM K Ko hh T R ρ c σ → (∀ j, j < i → σ 17 j = nI (pu_oc c j)) → ∃ τ, L_X11_bestOf_75 n σ v1 v2 v3 (nI i) = some ((), τ) ∧ pu_AM K Ko hh T R ρ c τ ∧ ∀ j, j < K 0 0 → τ 17 j = nI (pu_oc c j) := by
  have hd6 := hK.1
  intro k
  induction k with
  | zero =>
    intro i n σ h1 h2 hA hj
    obtain ⟨n, rfl⟩ : ∃ z, n = z + 1 := ⟨n - 1, by omega⟩
    exact ⟨σ, by rw [L_X11_bestOf_75, hA.1.1, if_pos (nI_le (by omega) (by omega))], hA, fun j h => hj j (by omega)⟩
  | succ k ih =>
    intro i n σ h1 h2 hA hj
    obtain ⟨n, rfl⟩ : ∃ z, n = z + 1 := ⟨n - 1, by omega⟩
    obtain ⟨τ, t1, t2, t3⟩ := ih (i + 1) n (ob_up σ 17 i (nI (pu_oc c i))) (by omega) (by omega) (pu_AM17 hA) (fun j h => by
      by_cases q : j = i
      · rw [q, pu_uss]
      · rw [pu_usn _ _ _ _ q]; exact hj j (by omega))
    refine ⟨τ, ?_, t2, t3⟩
    rw [L_X11_bestOf_75, hA.1.1, if_neg (nI_ge (by omega) (by omega)), pu_ld (by omega) (by omega), hA.2.2.1 i (by omega), pu_sd (by omega) (by omega), nI_1]
    exact t1
theorem pu_AMcpF (hK : pu_ok K) {v1 v2 : Int32} : ∀ (k i n : Nat) (σ : ob_St), i + k = K 0 0 → k < n → pu_AM K Ko hh T R ρ c σ → (∀ j, j < i → σ 17 j = nI (pu_oc c j)) → ∃ τ, L_X11_fits_62 n σ v1 v2 (nI i) = some ((), τ) ∧ pu_AM K Ko hh T R ρ c τ ∧ ∀ j, j < K 0 0 → τ 17 j = nI (pu_oc c j) := by
  have hd6 := hK.1
  intro k
  induction k with
  | zero =>
    intro i n σ h1 h2 hA hj
    obtain ⟨n, rfl⟩ : ∃ z, n = z + 1 := ⟨n - 1, by omega⟩
    exact ⟨σ, by rw [L_X11_fits_62, hA.1.1, if_pos (nI_le (by omega) (by omega))], hA, fun j h => hj j (by omega)⟩
  | succ k ih =>
    intro i n σ h1 h2 hA hj
    obtain ⟨n, rfl⟩ : ∃ z, n = z + 1 := ⟨n - 1, by omega⟩
    obtain ⟨τ, t1, t2, t3⟩ := ih (i + 1) n (ob_up σ 17 i (nI (pu_oc c i))) (by omega) (by omega) (pu_AM17 hA) (fun j h => by
      by_cases q : j = i
      · rw [q, pu_uss]
      · rw [pu_usn _ _ _ _ q]; exact hj j (by omega))
    refine ⟨τ, ?_, t2, t3⟩
    rw [L_X11_fits_62, hA.1.1, if_neg (nI_ge (by omega) (by omega)), pu_ld (by omega) (by omega), hA.2.2.1 i (by omega), pu_sd (by omega) (by omega), nI_1]
    exact t1
theorem pu_oc_le (c j : Nat) : pu_oc c j ≤ 9 := by unfold pu_oc; omega
theorem pu_AXnx (hK : pu_ok K) (hA : pu_AX K Ko hh T R ρ c σ) : (pu_tn (pu_oc c) (K 0 0 - 1) = 0 → f_X5_advance σ = some (0, σ)) ∧ ∀ c2, pu_sn (K 0 0) c c2 = true → ∃ τ, f_X5_advance σ = some (1, τ) ∧ pu_AX K Ko hh T R ρ c2 τ ∧ τ 49 = σ 49 := by
  obtain ⟨hR, h1, h2⟩ := hA
  obtain ⟨a, b⟩ := pu_nxX hK.1 h1 h2 (fun x _ => pu_oc_le c x)
  refine ⟨a, fun c2 hs => ?_⟩
  obtain ⟨t, e1, e2⟩ := pu_sn_nx hs
  obtain ⟨τ, t1, t2, t3⟩ := b t e1
  exact ⟨τ, t1, ⟨pu_RX_keep hR (fun q hq => t2 q (by unfold pu_vX at hq; omega)), by rw [t2 47 (by omega)]; exact h1, fun j hj => by rw [t3 j hj, e2 j hj]⟩, t2 49 (by omega)⟩
theorem pu_AMnx (hK : pu_ok K) (hA : pu_AM K Ko hh T R ρ c σ) : (pu_tn (pu_oc c) (K 0 0 - 1) = 0 → f_X11_next σ = some (0, σ)) ∧ ∀ c2, pu_sn (K 0 0) c c2 = true → ∃ τ, f_X11_next σ = some (1, τ) ∧ pu_AM K Ko hh T R ρ c2 τ ∧ τ 17 = σ 17 := by
  obtain ⟨h0, h1, h2, h3⟩ := hA
  obtain ⟨a, b⟩ := pu_nxM hK.1 h0.1 h2 (fun x _ => pu_oc_le c x)
  refine ⟨a, fun c2 hs => ?_⟩
  obtain ⟨t, e1, e2⟩ := pu_sn_nx hs
  obtain ⟨τ, t1, t2, t3⟩ := b t e1
  refine ⟨τ, t1, ⟨?_, pu_O_keep h1 (t2 14 (by omega)), fun j hj => by rw [t3 j hj, e2 j hj], pu_R2_keep h3 (fun j hj => by rw [t2 0 (by omega)]) (fun q hq => t2 q (by omega))⟩, t2 17 (by omega)⟩
  exact ⟨by rw [t2 0 (by omega)]; exact h0.1, fun f f1 f2 j hj => by rw [t2 f (by omega)]; exact h0.2.1 f f1 f2 j hj, fun j hj => by rw [t2 7 (by omega)]; exact h0.2.2.1 j hj, fun j hj => by rw [t2 8 (by omega)]; exact h0.2.2.2 j hj⟩
/-- the reference takes its kitchen back -/
theorem pu_AMag (hA : pu_AM K Ko hh T R ρ c σ) : ∃ τ, f_X11_again 14 σ = some ((), τ) ∧ pu_RM τ K Ko hh T R ρ ∧ τ 17 = σ 17 := by
  obtain ⟨h0, h1, h2, h3⟩ := hA
  obtain ⟨τ, s1, s2, s3, s4⟩ := pu_againM (a := 14) (by omega) h1
  have z := pu_R2_keep h3 (τ := τ) (fun j hj => s4 j (by omega)) (fun q hq => s3 q (by omega))
  exact ⟨τ, s1, ⟨s2, z⟩, s3 17 (by omega)⟩
/-- the beginning of a search -/
theorem pu_startX (hK : pu_ok K) (hR : pu_RX σ K Ko hh T R ρ) : ∃ τ, f_X5_start σ (σ 1 0) = some ((), τ) ∧ pu_AX K Ko hh T R ρ pu_c0 τ := by
  have hd6 := hK.1
  have key : ∀ (k i n : Nat) (σ : ob_St), i + k = K 0 0 → k < n → pu_RX σ K Ko hh T R ρ → σ 47 1 = nI (K 0 0) → (∀ j, j < i → σ 48 j = nI j) → ∃ τ, L_X5_start_7 n σ (nI i) = some ((), τ) ∧ pu_RX τ K Ko hh T R ρ ∧ τ 47 1 = nI (K 0 0) ∧ ∀ j, j < K 0 0 → τ 48 j = nI j := by
    intro k
    induction k with
    | zero =>
      intro i n σ h1 h2 hR h3 hj
      obtain ⟨n, rfl⟩ : ∃ z, n = z + 1 := ⟨n - 1, by omega⟩
      exact ⟨σ, by rw [L_X5_start_7, h3, if_pos (nI_le (by omega) (by omega))], hR, h3, fun j h => hj j (by omega)⟩
    | succ k ih =>
      intro i n σ h1 h2 hR h3 hj
      obtain ⟨n, rfl⟩ : ∃ z, n = z + 1 := ⟨n - 1, by omega⟩
      obtain ⟨τ, t1, t2⟩ := ih (i + 1) n (ob_up σ 48 i (nI i)) (by omega) (by omega) (pu_RX_keep hR (fun q hq => pu_un _ _ _ _ (by unfold pu_vX at hq; omega))) (by rw [pu_un _ _ _ _ (by omega)]; exact h3) (fun j h => by
        by_cases q : j = i
        · rw [q, pu_uss]
        · rw [pu_usn _ _ _ _ q]; exact hj j (by omega))
      refine ⟨τ, ?_, t2⟩
      rw [L_X5_start_7, h3, if_neg (nI_ge (by omega) (by omega)), pu_sd (by omega) (by omega), nI_1]
      exact t1
  obtain ⟨τ, t1, t2, t3, t4⟩ := key (K 0 0) 0 1000 (ob_up σ 47 1 (nI (K 0 0))) (by omega) (by omega) (pu_RX_keep hR (fun q hq => pu_un _ _ _ _ (by unfold pu_vX at hq; omega))) (pu_uss _ _ _ _) (fun j h => absurd h (Nat.not_lt_zero _))
  refine ⟨τ, ?_, t2, t3, fun j hj => by rw [t4 j hj, pu_c0_id j (by omega)]⟩
  unfold f_X5_start
  rw [pu_pf, hR.1.1]
  exact t1
theorem pu_startM (hK : pu_ok K) (hM : pu_RM σ K Ko hh T R ρ) : ∃ τ0 τ, f_X11_keep 14 σ = some ((), τ0) ∧ f_X11_begin_ τ0 = some ((), τ) ∧ pu_AM K Ko hh T R ρ pu_c0 τ := by
  have hd6 := hK.1
  have key : ∀ (k i n : Nat) (σ : ob_St), i + k = K 0 0 → k < n → σ 0 0 = nI (K 0 0) → (∀ j, j < i → σ 6 j = nI j) → ∃ τ, L_X11_begin__2 n σ (nI i) = some ((), τ) ∧ (∀ q, q ≠ 6 → τ q = σ q) ∧ ∀ j, j < K 0 0 → τ 6 j = nI j := by
    intro k
    induction k with
    | zero =>
      intro i n σ h1 h2 h3 hj
      obtain ⟨n, rfl⟩ : ∃ z, n = z + 1 := ⟨n - 1, by omega⟩
      exact ⟨σ, by rw [L_X11_begin__2, h3, if_pos (nI_le (by omega) (by omega))], fun _ _ => rfl, fun j h => hj j (by omega)⟩
    | succ k ih =>
      intro i n σ h1 h2 h3 hj
      obtain ⟨n, rfl⟩ : ∃ z, n = z + 1 := ⟨n - 1, by omega⟩
      obtain ⟨τ, t1, t2, t3⟩ := ih (i + 1) n (ob_up σ 6 i (nI i)) (by omega) (by omega) (by rw [pu_un _ _ _ _ (by omega)]; exact h3) (fun j h => by
        by_cases q : j = i
        · rw [q, pu_uss]
        · rw [pu_usn _ _ _ _ q]; exact hj j (by omega))
      refine ⟨τ, ?_, fun q hq => by rw [t2 q hq, pu_un _ _ _ _ hq], t3⟩
      rw [L_X11_begin__2, h3, if_neg (nI_ge (by omega) (by omega)), pu_sd (by omega) (by omega), nI_1]
      exact t1
  obtain ⟨τ0, s1, s2, s3⟩ := pu_keepM (a := 14) (by omega) hM.1
  obtain ⟨τ, t1, t2, t3⟩ := key (K 0 0) 0 1000 τ0 (by omega) (by omega) (by rw [s3 0 (by omega)]; exact hM.1.1) (fun j h => absurd h (Nat.not_lt_zero _))
  have n : ∀ q, q ≠ 6 → q ≠ 14 → τ q = σ q := fun q q1 q2 => by rw [t2 q q1, s3 q q2]
  refine ⟨τ0, τ, s1, t1, ?_, pu_O_keep s2 (t2 14 (by omega)), fun j hj => by rw [t3 j hj, pu_c0_id j (by omega)], pu_R2_keep hM.2 (fun j _ => by rw [n 0 (by omega) (by omega)]) (fun q hq => n q (by omega) (by omega))⟩
  obtain ⟨h0, h1, h2, h3⟩ := hM.1
  exact ⟨by rw [n 0 (by omega) (by omega)]; exact h0, fun f f1 f2 j hj => by rw [n f (by omega) (by omega)]; exact h1 f f1 (by omega) j hj, fun j hj => by rw [n 7 (by omega) (by omega)]; exact h2 j hj, fun j hj => by rw [n 8 (by omega) (by omega)]; exact h3 j hj⟩
end PUB
