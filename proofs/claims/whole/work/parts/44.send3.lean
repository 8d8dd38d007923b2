/-! SEND: the class's formula and the reference's trying -/
noncomputable def pu_sg (K : pu_K) (c S : Nat) : Nat := pu_cc K c (K 0 0) - S * pu_cnt K c (K 0 0)
theorem pu_standsM {σ : ob_St} {K Ko : pu_K} {h : Nat} {T R : List Nat} {ρ : Nat → Int32} {c S : Nat} (hK : pu_ok K) (ho : pu_ord K (K 6)) (hc : c < 5) (hS : S ≤ 400) (hI : pu_RM (ob_up σ 7 5 (nI (K 8 5))) K Ko h T R ρ) : ∃ r τ, f_X11_stands (ob_up σ 7 5 (nI S)) (nI c) = some (r, τ) ∧ (pu_okS K c (K 0 0) S → r = nI (pu_sg K c S)) ∧ (¬ pu_okS K c (K 0 0) S → r = -9) ∧ pu_RM (ob_up τ 7 5 (nI (K 8 5))) K Ko h T R ρ := by
  have hKS : pu_ok (pu_upK K 8 5 S) := pu_ok_box hK _ _ (by omega) (by omega) (by omega) (by omega) (by omega) (by omega)
  have hM : pu_M (ob_up σ 7 5 (nI S)) (pu_upK K 8 5 S) := by
    have := pu_M_upB (n := 5) (v := S) hI.1
    rw [pu_upup] at this
    exact this
  obtain ⟨τ, t1, t2, t3, t4, t5⟩ := pu_runM hKS (show pu_ord (pu_upK K 8 5 S) (pu_upK K 8 5 S 6) from ho) hM
  have hd6 := hK.1
  obtain ⟨r, r1, r2, r3⟩ := pu_standsL hK ho hc hS t2 t3.1 (K 0 0) 0 1000 (by omega) (by omega) (fun d hd => absurd hd (Nat.not_lt_zero _))
  refine ⟨r, τ, ?_, r2, r3, pu_RM_keep hI (fun j h1 h2 h3 => by rw [pu_un _ _ _ _ (by decide), pu_un _ _ _ _ (by decide), t5 j h2 h3, pu_un _ _ _ _ (by decide)]) (fun q hq => ?_)⟩
  · have r1' : L_X11_stands_10 1000 τ (nI c) 0 0 = some (r, τ) := by
      have e : pu_cc K c 0 - S * pu_cnt K c 0 = 0 := by
        have : pu_cc K c 0 = 0 := rfl
        omega
      rw [e] at r1
      exact r1
    unfold f_X11_stands
    rw [pu_bd' _ t1]
    exact r1'
  · unfold pu_vM at hq
    by_cases cc : q = 7
    · subst cc
      have e := t4 7 (by decide) (by decide) (by decide)
      funext i
      by_cases ci : i = 5
      · subst ci; rw [pu_uss, pu_uss]
      · rw [pu_usn _ _ _ _ ci, pu_usn _ _ _ _ ci, e, pu_usn _ _ _ _ ci]
    · rw [pu_un _ _ _ _ cc, pu_un _ _ _ _ cc, t4 q (by omega) (by omega) (by omega), pu_un _ _ _ _ cc]
theorem pu_sendL {K Ko : pu_K} {h : Nat} {T R : List Nat} {ρ : Nat → Int32} {c : Nat} {A : Int32} (hK : pu_ok K) (ho : pu_ord K (K 6)) (hc : c < 5) (hN : 1 ≤ pu_cnt K c (K 0 0)) (hA0 : ¬ pu_okS K c (K 0 0) 0 → A = -9) (hA1 : ∀ S, S ≤ 400 → pu_okS K c (K 0 0) S → (S = 400 ∨ ¬ pu_okS K c (K 0 0) (S + 1)) → A = nI S) : ∀ (k S n : Nat) (v4 v5 : Int32) (σ : ob_St), S + k = 401 → k < n → ((S = 0 ∧ v4 = -9) ∨ (0 < S ∧ pu_okS K c (K 0 0) (S - 1) ∧ v4 = nI (S - 1) ∧ v5 = nI (pu_sg K c (S - 1))) ∨ (0 < S ∧ ¬ pu_okS K c (K 0 0) (S - 1) ∧ v4 = A)) → pu_RM (ob_up σ 7 5 (nI (K 8 5))) K Ko h T R ρ →
    ∃ τ, L_X11_send_73 n σ (nI c) (nI (K 8 5)) v4 v5 (nI S) = some (A, τ) ∧ pu_RM τ K Ko h T R ρ := by
  have hd6 := hK.1
  have ccu := pu_cc_up hK hc (K 0 0)
  have anti : ∀ S, pu_okS K c (K 0 0) (S + 1) → pu_okS K c (K 0 0) S := fun S hs d hd e => by have := hs d hd e; omega
  intro k
  induction k with
  | zero =>
    intro S n v4 v5 σ h1 h2 h3 hI
    obtain ⟨n, rfl⟩ : ∃ z, n = z + 1 := ⟨n - 1, by omega⟩
    have hi : (400 : Int32) < nI S := (nI_ltI (a := 400) (by omega) (by omega)).mpr (by omega)
    have e : v4 = A := by
      rcases h3 with q | q | q
      · omega
      · rw [q.2.2.1, hA1 (S - 1) (by omega) q.2.1 (Or.inl (by omega))]
      · exact q.2.2
    exact ⟨ob_up σ 7 5 (nI (K 8 5)), by rw [L_X11_send_73, if_pos hi, pu_S6_5, e], hI⟩
  | succ k ih =>
    intro S n v4 v5 σ h1 h2 h3 hI
    obtain ⟨n, rfl⟩ : ∃ z, n = z + 1 := ⟨n - 1, by omega⟩
    have hi : ¬ (400 : Int32) < nI S := Int32.not_lt.mpr (nI_le (b := 400) (by omega) (by omega))
    obtain ⟨r, τ, t1, t2, t3, t4⟩ := pu_standsM hK ho hc (show S ≤ 400 by omega) hI
    rw [L_X11_send_73, if_neg hi, pu_S6_5, pu_bd' _ t1]
    have sgb : pu_sg K c S < 2 ^ 31 := by unfold pu_sg; omega
    by_cases q : pu_okS K c (K 0 0) S
    · have hr := t2 q
      have r9 : ¬ r = -9 := by
        rw [hr]
        intro e
        exact absurd (show nI (pu_sg K c S) < 0 by rw [e]; decide) (nI_pos sgb)
      rw [if_neg r9]
      have nxt := ih (S + 1) n (nI S) (nI (pu_sg K c S)) τ (by omega) (by omega) (Or.inr (Or.inl ⟨by omega, q, rfl, rfl⟩)) t4
      rw [← nI_1] at nxt
      rw [hr]
      rcases h3 with z | z | z
      · rw [if_pos z.2, J_X11_send_120_73]
        exact nxt
      · have v9 : ¬ v4 = -9 := by
          rw [z.2.2.1]
          intro e
          exact absurd (show nI (S - 1) < 0 by rw [e]; decide) (nI_pos (by omega))
        have cl := pu_cc_le _ q
        have lt : nI (pu_sg K c S) < v5 := by
          rw [z.2.2.2]
          refine (nI_ltI sgb (by unfold pu_sg; omega)).mpr ?_
          unfold pu_sg
          obtain ⟨S', rfl⟩ : ∃ y, S = y + 1 := ⟨S - 1, by omega⟩
          rw [Nat.add_sub_cancel]
          rw [Nat.add_mul, Nat.one_mul] at cl ⊢
          omega
        rw [if_neg v9, if_pos lt, J_X11_send_120_73]
        exact nxt
      · refine absurd ?_ z.2.1
        obtain ⟨S', rfl⟩ : ∃ y, S = y + 1 := ⟨S - 1, by omega⟩
        exact anti S' q
    · rw [if_pos (t3 q), nI_1]
      refine ih (S + 1) n v4 v5 τ (by omega) (by omega) (Or.inr (Or.inr ⟨by omega, q, ?_⟩)) t4
      rcases h3 with z | z | z
      · rw [z.2]
        exact (hA0 (by rw [z.1] at q; exact q)).symm
      · obtain ⟨S', rfl⟩ : ∃ y, S = y + 1 := ⟨S - 1, by omega⟩
        rw [z.2.2.1]
        exact (hA1 S' (by omega) z.2.1 (Or.inr q)).symm
      · exact z.2.2
