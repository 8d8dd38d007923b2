/-! KITCHEN: the whole call -/
theorem pu_RX_nil {σ : ob_St} {K Ko : pu_K} {h : Nat} {T R : List Nat} {ρ : Nat → Int32} (hR : pu_RX σ K Ko h T R ρ) : pu_RX (ob_up σ 28 1 (nI 0)) K Ko h [] R ρ := by
  obtain ⟨a1, a2, a3, a4, a5, a6, a7, a8⟩ := hR
  have n : ∀ q, q ≠ 28 → ob_up σ 28 1 (nI 0) q = σ q := fun q hq => pu_un _ _ _ _ hq
  exact ⟨pu_X_keep a1 (fun f hf => n _ (by omega)), by rw [n 0 (by omega)]; exact a2, fun e => pu_X_keep (a3 e) (fun f hf => n _ (by omega)), pu_uss _ _ _ _, fun j hj => absurd hj (Nat.not_lt_zero _), by rw [n 0 (by omega)]; exact a6, by rw [n 50 (by omega)]; exact a7, fun j hj => by rw [n 51 (by omega)]; exact a8 j hj⟩
theorem pu_R2_nil {σ : ob_St} {Ko : pu_K} {h : Nat} {T R : List Nat} {ρ : Nat → Int32} (hR : pu_R2 σ Ko h T R ρ) : pu_R2 (ob_up σ 0 9 (nI 0)) Ko h [] R ρ := by
  obtain ⟨z2, z3, z4, z5, z6, z7, z8⟩ := hR
  have n : ∀ q, q ≠ 0 → ob_up σ 0 9 (nI 0) q = σ q := fun q hq => pu_un _ _ _ _ hq
  exact ⟨by rw [pu_usn _ _ _ _ (by omega)]; exact z2, fun e => pu_O_keep (z3 e) (n 13 (by omega)), pu_uss _ _ _ _, fun j hj => absurd hj (Nat.not_lt_zero _), by rw [pu_usn _ _ _ _ (by omega)]; exact z6, by rw [n 11 (by omega)]; exact z7, fun j hj => by rw [n 12 (by omega)]; exact z8 j hj⟩
theorem pu_M_09 {σ : ob_St} {K : pu_K} {j : Nat} {v : Int32} (hj : j ≠ 0) (h : pu_M σ K) : pu_M (ob_up σ 0 j v) K := pu_M_keep h (pu_usn _ _ _ _ (Ne.symm hj)) (fun q q1 q2 => pu_un _ _ _ _ (by omega))
theorem pu_R2_fM {σ τ : ob_St} {Ko : pu_K} {h : Nat} {T R : List Nat} {ρ : Nat → Int32} (hR : pu_R2 σ Ko h T R ρ) (hf : pu_fM σ τ) : pu_R2 τ Ko h T R ρ := pu_R2_keep hR (fun j hj => hf.2 j (by omega) (by omega)) (fun q hq => hf.1 q (by omega) (by omega))
theorem pu_RX_fX {σ τ : ob_St} {K Ko : pu_K} {h : Nat} {T R : List Nat} {ρ : Nat → Int32} (hR : pu_RX σ K Ko h T R ρ) (hf : pu_fX σ τ) : pu_RX τ K Ko h T R ρ := pu_RX_keep hR (fun q hq => hf q (by unfold pu_vX at hq; omega))
/-- the class's kitchen becomes another -/
theorem pu_RX_new {σ τ : ob_St} {K K' Ko : pu_K} {h : Nat} {T R : List Nat} {ρ : Nat → Int32} (hR : pu_RX σ K Ko h T R ρ) (hX : pu_X 1 τ K') (hf : ∀ q, q < 1 ∨ 9 < q → τ q = σ q) : pu_RX τ K' Ko h T R ρ := by
  obtain ⟨a1, a2, a3, a4, a5, a6, a7, a8⟩ := hR
  exact ⟨hX, by rw [hf 0 (by omega)]; exact a2, fun e => pu_X_keep (a3 e) (fun f _ => hf _ (by omega)), by rw [hf 28 (by omega)]; exact a4, by rw [hf 29 (by omega)]; exact a5, by rw [hf 0 (by omega)]; exact a6, by rw [hf 50 (by omega)]; exact a7, fun j hj => by rw [hf 51 (by omega)]; exact a8 j hj⟩
section PUK
variable {K Ko : pu_K} {hh L : Nat} {T R : List Nat} {ρ : Nat → Int32} {t : Nat → Nat}
def pu_kq2 (Ko : pu_K) (hh : Nat) (T R : List Nat) (ρ : Nat → Int32) (fx fm : Option (Int32 × ob_St)) : Prop := ∃ (r : Int32) (τx τm : ob_St) (K2 : pu_K), fx = some (r, τx) ∧ fm = some (r, τm) ∧ pu_ok K2 ∧ pu_ord K2 (K2 6) ∧ pu_RX τx K2 Ko hh T R ρ ∧ pu_RM τm K2 Ko hh [] R ρ
theorem pu_kitB (hK : pu_ok K) (ho : pu_ord K (K 6)) (hL : L ≤ 96) (hb : ∀ j, t j ≤ 255) (hT : L = T.length) (hTt : ∀ j, j < L → T.getD j 0 = t j) : ∀ (f i m n n' : Nat) (K' : pu_K) (σx σm : ob_St), pu_p1 t L f i = none → L ≤ i + f → i ≤ L → m ≤ i → L + 1 ≤ i + n → L + 1 ≤ i + n' → pu_ok K' → pu_ord K' (K' 6) → pu_X 10 σx K' → pu_RX σx K Ko hh T R ρ → pu_M σm K' → pu_O 14 σm K → pu_R2 σm Ko hh T R ρ → σm 0 11 = nI i → pu_kq2 Ko hh T R ρ (L_X10_becomeKitchen_33 n σx (nI m) (nI i)) (L_X11_kitchen_86 n' σm (nI m)) := by
  have done : ∀ (i m n n' : Nat) (K' : pu_K) (σx σm : ob_St), i = L → pu_ok K' → pu_ord K' (K' 6) → pu_X 10 σx K' → pu_RX σx K Ko hh T R ρ → pu_M σm K' → pu_R2 σm Ko hh T R ρ → σm 0 11 = nI i → pu_kq2 Ko hh T R ρ (L_X10_becomeKitchen_33 (n + 1) σx (nI m) (nI i)) (L_X11_kitchen_86 (n' + 1) σm (nI m)) := by
    intro i m n n' K' σx σm hi hK' ho' hX hR hM h2 h11
    obtain ⟨τ, t1, t2, t3⟩ := pu_takeX (b := 1) (b2 := 10) (by omega) hX
    refine ⟨nI m, τ, ob_up σm 0 9 (nI 0), K', ?_, ?_, hK', ho', pu_RX_new hR t2 t3, pu_M_09 (by omega) hM, pu_R2_nil h2⟩
    · rw [L_X10_becomeKitchen_33, hR.2.2.2.1, ← hT, if_pos (nI_le (by omega) (by omega)), J_X10_becomeKitchen_88_33, pu_bd' _ t1]
    · rw [L_X11_kitchen_86, h11, h2.2.2.1, ← hT, if_pos (nI_le (by omega) (by omega))]
      rfl
  intro f
  induction f with
  | zero =>
    intro i m n n' K' σx σm hp h1 h2 h3 h4 h5 hK' ho' hX hR hM hO hR2 h11
    obtain ⟨n, rfl⟩ : ∃ z, n = z + 1 := ⟨n - 1, by omega⟩
    obtain ⟨n', rfl⟩ : ∃ z, n' = z + 1 := ⟨n' - 1, by omega⟩
    exact done i m n n' K' σx σm (by omega) hK' ho' hX hR hM hR2 h11
  | succ f ih =>
    intro i m n n' K' σx σm hp h1 h2 h3 h4 h5 hK' ho' hX hR hM hO hR2 h11
    obtain ⟨n, rfl⟩ : ∃ z, n = z + 1 := ⟨n - 1, by omega⟩
    obtain ⟨n', rfl⟩ : ∃ z, n' = z + 1 := ⟨n' - 1, by omega⟩
    by_cases c : L ≤ i
    · exact done i m n n' K' σx σm (by omega) hK' ho' hX hR hM hR2 h11
    · have hi : i < L := by omega
      rw [pu_p1, if_neg c] at hp
      have q5 : pu_fot (t i) ≠ 5 := fun q => by
        rw [if_pos q] at hp
        cases hp
      rw [if_neg q5] at hp
      have q6 : pu_fot (t i) < 5 := by have := pu_fot_lt (t i); omega
      have hz : pu_ms t L (pu_fm (pu_fot (t i))) (i + 1) = i + 1 + (pu_fm (pu_fot (t i))).length := Classical.byContradiction (fun q => by
        rw [if_neg q] at hp
        cases hp)
      rw [if_pos hz] at hp
      have fb := pu_fm_by q6
      have fl : (pu_fm (pu_fot (t i))).length = (pu_by (pu_fot (t i))).length + 1 := by rw [fb, List.length_append]; rfl
      have hle := pu_ms_le t L (pu_fm (pu_fot (t i))) (i + 1) (by omega)
      have hz' := hz
      rw [fb] at hz'
      obtain ⟨z1, z2⟩ := pu_ms_pre t L _ _ _ hz' (by decide)
      have s28 : σx 28 1 = nI L := by rw [hT]; exact hR.2.2.2.1
      have s29 : ∀ j, j < L → σx 29 j = nI (t j) := fun j hj => by rw [hR.2.2.2.2.1 j (by omega), hTt j hj]
      have hW : pu_W t L σm i σm := ⟨by omega, by rw [hT]; exact hR2.2.2.1, fun j hj => by rw [hR2.2.2.2.1 j (by omega), hTt j hj], h11, fun _ _ _ => rfl, fun _ _ => rfl⟩
      rw [L_X10_becomeKitchen_33, s28, if_neg (nI_ge hi (by omega)), if_neg (show ¬ (96 : Int32) ≤ nI m from nI_ge (b := 96) (by omega) (by omega)), L_X11_kitchen_86, h11, hR2.2.2.1, ← hT, if_neg (nI_ge hi (by omega)), pu_nm]
      rcases pu_step hL hb hi q5 z1 hK' ho' s28 s29 hX hW hM with ⟨K2, τx, τm, a1, a2, a3, a4, a5, a6, a7, a8, a9⟩ | ⟨τx, τm, a1, a2, a3, a4⟩
      · have r28 : τx 28 1 = nI L := by rw [a6 28 (by omega)]; exact s28
        have r29 : ∀ j, j < L → τx 29 j = nI (t j) := fun j hj => by rw [a6 29 (by omega)]; exact s29 j hj
        have hl := pu_fm_len (pu_fot (t i))
        have ln : f_X9_lengthFrom τx (nI i) = some (nI (1 + (pu_fm (pu_fot (t i))).length), τx) := by
          unfold f_X9_lengthFrom
          rw [pu_bd' _ (pu_letX hL r28 r29 hi), pu_bd' _ (pu_form (hb i) τx), pu_bd' _ (pu_lenS (pu_fot_lt (t i)) τx), pu_lit1, nI_add]
        have R2' := pu_R2_fM hR2 a8
        have W2 : pu_W t L τm (i + 1 + (pu_by (pu_fot (t i))).length) τm := ⟨by omega, by rw [hT]; exact R2'.2.2.1, fun j hj => by rw [R2'.2.2.2.1 j (by omega), hTt j hj], a9, fun _ _ _ => rfl, fun _ _ => rfl⟩
        obtain ⟨τ2, u1, u2⟩ := pu_is59 hL hb W2
        rw [z2] at u2
        have c59 : i + 1 + (pu_by (pu_fot (t i))).length < L ∧ pu_su 2 (t (i + 1 + (pu_by (pu_fot (t i))).length)) = true := pu_ms_all t L [2] _ z2 0 (by decide)
        rw [if_pos c59] at u1
        obtain ⟨w1, w2, w3, w4, w5, w6⟩ := u2
        have M2 : pu_M τ2 K2 := pu_M_keep a7 (w6 0 (by omega)) (fun q q1 q2 => w5 q (by omega) (by omega))
        have O2 : pu_O 14 τ2 K := pu_O_keep (pu_O_keep hO (a8.1 14 (by omega) (by omega))) (w5 14 (by omega) (by omega))
        have RR2 : pu_R2 τ2 Ko hh T R ρ := pu_R2_keep R2' (fun j hj => w6 j (by omega)) (fun q hq => w5 q (by omega) (by omega))
        have nx := ih (i + 1 + (pu_fm (pu_fot (t i))).length) (m + 1) n n' K2 τx τ2 hp (by omega) (by omega) (by omega) (by omega) (by omega) a3 a4 a5 (pu_RX_fX hR a6) M2 O2 RR2 (by rw [w4, fl]; rfl)
        rw [pu_bd' _ a1, if_neg (by decide), pu_bd' _ ln, pu_nm, nI_add, nI_1, pu_bd' _ a2, if_neg (by decide), pu_bd' _ u1, show i + (1 + (pu_fm (pu_fot (t i))).length) = i + 1 + (pu_fm (pu_fot (t i))).length by omega]
        exact nx
      · obtain ⟨τ2, s1, s2, s3, s4⟩ := pu_againM (a := 14) (by omega) (pu_O_keep hO (a4.1 14 (by omega) (by omega)))
        have R2' := pu_R2_fM hR2 a4
        have R3 : pu_R2 τ2 Ko hh T R ρ := pu_R2_keep R2' (fun j hj => s4 j (by omega)) (fun q hq => s3 q (by omega))
        refine ⟨-2000 - nI i, τx, ob_up τ2 0 9 (nI 0), K, ?_, ?_, hK, ho, pu_RX_fX hR a3, pu_M_09 (by omega) s2, pu_R2_nil R3⟩
        · rw [pu_bd' _ a1, if_pos rfl]
        · rw [pu_bd' _ a2, if_pos rfl, pu_bd' _ s1]
          rfl
end PUK
theorem pu_op_kitchen {σx σm : ob_St} (h : ob_RR σx σm) : ob_ok2 ob_RR (f_X10_kitchen σx) (f_X11_kitchen σm) := by
  obtain ⟨K, Ko, hh, T, R, ρ, hC, hX, hM⟩ := id h
  obtain ⟨hK, ho, c3, c4, hL, hTb, c7, c8⟩ := hC
  obtain ⟨t, ht⟩ : ∃ z : Nat → Nat, z = fun j => T.getD j 0 := ⟨_, rfl⟩
  obtain ⟨L, hLT⟩ : ∃ z, z = T.length := ⟨_, rfl⟩
  rw [← hLT] at hL
  have hTt : ∀ j, j < L → T.getD j 0 = t j := fun j _ => by rw [ht]
  have hb : ∀ j, t j ≤ 255 := fun j => by
    rw [ht]
    show T.getD j 0 ≤ 255
    by_cases c : j < T.length
    · exact hTb _ (by simp [List.getD, c])
    · simp [List.getD, List.getElem?_eq_none (Nat.not_lt.mp c)]
  have s28 : σx 28 1 = nI L := by rw [hLT]; exact hX.2.2.2.1
  have s29 : ∀ j, j < L → σx 29 j = nI (t j) := fun j hj => by rw [hX.2.2.2.2.1 j (by omega), hTt j hj]
  obtain ⟨σ1, d1⟩ : ∃ z, z = ob_up σm 0 11 (nI 0) := ⟨_, rfl⟩
  have M1 : pu_M σ1 K := by rw [d1]; exact pu_M_09 (by omega) hM.1
  have R1 : pu_R2 σ1 Ko hh T R ρ := pu_R2_keep hM.2 (fun j hj => by rw [d1, pu_usn _ _ _ _ (by omega)]) (fun q hq => by rw [d1, pu_un _ _ _ _ (by omega)])
  have W1 : pu_W t L σ1 0 σ1 := ⟨by omega, by rw [hLT]; exact R1.2.2.1, fun j hj => by rw [R1.2.2.2.1 j (by omega), hTt j hj], by rw [d1]; exact pu_uss _ _ _ _, fun _ _ _ => rfl, fun _ _ => rfl⟩
  have em : f_X11_kitchen σm = L_X11_kitchen_7 1000 σ1 1 := by
    unfold f_X11_kitchen
    rw [pu_pf, pu_lit0, ← d1]
  obtain ⟨σ2, k1, k2, k3⟩ := pu_kitL (σ0 := σ1) hL hb L 0 999 σ1 (by omega) (by omega) (by omega) W1
  have mis := pu_misX (σ := σx) hL s28 s29 hb
  -- what both do at a fault of kind 1
  have fault : ∀ p, p ≤ L → f_X9_firstMisplaced σx = some (nI p, σx) → L_X11_kitchen_7 1000 σ1 1 = pu_J53 σ2 0 → pu_W t L σ1 p σ2 → ob_ok2 ob_RR (f_X10_kitchen σx) (f_X11_kitchen σm) := by
    intro p hp e1 e2 hW
    obtain ⟨w1, w2, w3, w4, w5, w6⟩ := hW
    have M2 : pu_M σ2 K := pu_M_keep M1 (w6 0 (by omega)) (fun q q1 q2 => w5 q (by omega) (by omega))
    have R2 : pu_R2 σ2 Ko hh T R ρ := pu_R2_keep R1 (fun j hj => w6 j (by omega)) (fun q hq => w5 q (by omega) (by omega))
    refine ⟨-1000 - nI p, ob_up σx 28 1 (nI 0), ob_up σ2 0 9 (nI 0), ?_, ?_, K, Ko, hh, [], R, ρ, ⟨hK, ho, c3, c4, by decide, fun x hx => absurd hx (List.not_mem_nil), c7, c8⟩, pu_RX_nil hX, pu_M_09 (by omega) M2, pu_R2_nil R2⟩
    · have e3 : f_X10_becomeKitchen σx = some (-1000 - nI p, σx) := by
        unfold f_X10_becomeKitchen
        rw [pu_bd' _ e1, if_neg (nI_pos (by omega))]
      unfold f_X10_kitchen
      rw [pu_bd' _ e3]
      rfl
    · rw [em, e2]
      unfold pu_J53
      rw [if_pos rfl, pu_pf, pu_usn _ _ _ _ (by omega), w4]
      rfl
  by_cases l0 : L = 0
  · rw [if_pos l0] at mis
    obtain ⟨a, b⟩ := k1 l0
    exact fault 0 (by omega) mis a b
  · rw [if_neg l0] at mis
    cases e : pu_p1 t L L 0 with
    | some p =>
      rw [e] at mis
      obtain ⟨a, b⟩ := k2 (by omega) p e
      exact fault p b.1 mis a b
    | none =>
      rw [e] at mis
      have mis' : f_X9_firstMisplaced σx = some (-1, σx) := mis
      obtain ⟨a, b⟩ := k3 (by omega) e
      obtain ⟨w1, w2, w3, w4, w5, w6⟩ := b
      have M2 : pu_M σ2 K := pu_M_keep M1 (w6 0 (by omega)) (fun q q1 q2 => w5 q (by omega) (by omega))
      have R2 : pu_R2 σ2 Ko hh T R ρ := pu_R2_keep R1 (fun j hj => w6 j (by omega)) (fun q hq => w5 q (by omega) (by omega))
      obtain ⟨τx, t1, t2, t3⟩ := pu_takeX (b := 10) (b2 := 1) (by omega) hX.1
      obtain ⟨σ3, s1, s2, s3⟩ := pu_keepM (a := 14) (by omega) M2
      have M3 : pu_M (ob_up σ3 0 11 (nI 0)) K := pu_M_09 (by omega) (pu_M_keep M2 (by rw [s3 0 (by omega)]) (fun q q1 q2 => s3 q (by omega)))
      have R3 : pu_R2 (ob_up σ3 0 11 (nI 0)) Ko hh T R ρ := pu_R2_keep R2 (fun j hj => by rw [pu_usn _ _ _ _ (by omega), s3 0 (by omega)]) (fun q hq => by rw [pu_un _ _ _ _ (by omega), s3 q (by omega)])
      have O3 : pu_O 14 (ob_up σ3 0 11 (nI 0)) K := pu_O_keep s2 (pu_un _ _ _ _ (by omega))
      obtain ⟨r, ux, um, K2, b1, b2, b3, b4, b5, b6⟩ := pu_kitB hK ho hL hb hLT hTt L 0 0 1000 1000 K τx (ob_up σ3 0 11 (nI 0)) e (by omega) (by omega) (by omega) (by omega) (by omega) hK ho t2 (pu_RX_keep hX (fun q hq => t3 q (by unfold pu_vX at hq; omega))) M3 O3 R3 (pu_uss _ _ _ _)
      refine ⟨r, ob_up ux 28 1 (nI 0), um, ?_, ?_, K2, Ko, hh, [], R, ρ, ⟨b3, b4, c3, c4, by decide, fun x hx => absurd hx (List.not_mem_nil), c7, c8⟩, pu_RX_nil b5, b6⟩
      · have e3 : f_X10_becomeKitchen σx = some (r, ux) := by
          unfold f_X10_becomeKitchen
          rw [pu_bd' _ mis', if_pos (by decide), pu_bd' _ t1]
          exact b1
        unfold f_X10_kitchen
        rw [pu_bd' _ e3]
        rfl
      · rw [em, a]
        unfold pu_J53
        rw [if_neg (by decide), pu_bd' _ s1, pu_pf]
        exact b2
