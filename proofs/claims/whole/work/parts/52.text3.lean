/-! KITCHEN: tools of the second reading -/
theorem pu_ms_pre (t : Nat → Nat) (L : Nat) (a b : List Nat) (i : Nat) (h : pu_ms t L (a ++ b) i = i + (a ++ b).length) (hb : 1 ≤ b.length) : pu_ms t L a i = i + a.length ∧ pu_ms t L b (i + a.length) = i + a.length + b.length := by
  rw [pu_ms_app, List.length_append] at h
  have := pu_ms_up t L a i
  by_cases c : pu_ms t L a i = i + a.length
  · rw [if_pos c] at h
    exact ⟨c, by omega⟩
  · rw [if_neg c] at h
    omega
theorem pu_ms_all (t : Nat → Nat) (L : Nat) : ∀ (fm : List Nat) (i : Nat), pu_ms t L fm i = i + fm.length → ∀ j, j < fm.length → i + j < L ∧ pu_su (fm.getD j 0) (t (i + j)) = true := by
  intro fm
  induction fm with
  | nil => intro i _ j hj; exact absurd hj (Nat.not_lt_zero _)
  | cons k fm ih =>
    intro i h j hj
    rw [pu_ms, List.length_cons] at h
    by_cases c : i < L ∧ pu_su k (t i) = true
    · rw [if_pos c] at h
      cases j with
      | zero => exact c
      | succ j =>
        have := ih (i + 1) (by omega) j (by rw [List.length_cons] at hj; omega)
        rw [show i + 1 + j = i + (j + 1) by omega] at this
        exact this
    · rw [if_neg c] at h
      omega
def pu_nb (t : Nat → Nat) (p : Nat) : Nat → Nat
  | 0 => 0
  | k + 1 => 10 * pu_nb t p k + (t (p + k) - 48)
theorem pu_nb1 (t : Nat → Nat) (p : Nat) : pu_nb t p 1 = t p - 48 := by
  show 10 * 0 + (t (p + 0) - 48) = _
  rw [Nat.add_zero]
  omega
theorem pu_nb2 (t : Nat → Nat) (p : Nat) : pu_nb t p 2 = 10 * (t p - 48) + (t (p + 1) - 48) := by
  show 10 * pu_nb t p 1 + (t (p + 1) - 48) = _
  rw [pu_nb1]
theorem pu_nb3 (t : Nat → Nat) (p : Nat) : pu_nb t p 3 = 100 * (t p - 48) + (10 * (t (p + 1) - 48) + (t (p + 2) - 48)) := by
  show 10 * pu_nb t p 2 + (t (p + 2) - 48) = _
  rw [pu_nb2]
  omega
def pu_fX (σ σ' : ob_St) : Prop := ∀ q, q < 10 ∨ 18 < q → σ' q = σ q
def pu_fM (σ σ' : ob_St) : Prop := (∀ q, 9 ≤ q → q ≠ 10 → σ' q = σ q) ∧ ∀ j, 1 ≤ j → j ≠ 11 → σ' 0 j = σ 0 j
section PUN
variable {t : Nat → Nat} {L : Nat} {σ : ob_St}
theorem pu_letX (hL : L ≤ 96) (hs : σ 28 1 = nI L) (ht : ∀ j, j < L → σ 29 j = nI (t j)) {p : Nat} (hp : p < L) : f_X9_letterAt σ (nI p) = some (nI (t p), σ) := by
  unfold f_X9_letterAt
  rw [if_neg (nI_pos (by omega)), hs, if_neg (nI_ge hp (by omega)), pu_ld (by omega) (by omega), ht p hp]
theorem pu_numX (hL : L ≤ 96) (hs : σ 28 1 = nI L) (ht : ∀ j, j < L → σ 29 j = nI (t j)) {p k : Nat} (y : Int32) (hy : y = nI k) (hk : k ≤ 3) (h : ∀ j, j < k → p + j < L ∧ pu_su 0 (t (p + j)) = true) : f_X9_number σ (nI p) y = some (nI (pu_nb t p k), σ) := by
  have key : ∀ (r j n : Nat), j + r = k → r < n → L_X9_number_5 n σ (nI p) (nI k) (nI (pu_nb t p j)) (nI j) = some (nI (pu_nb t p k), σ) := by
    intro r
    induction r with
    | zero =>
      intro j n h1 h2
      obtain ⟨n, rfl⟩ : ∃ z, n = z + 1 := ⟨n - 1, by omega⟩
      rw [L_X9_number_5, if_pos (nI_le (by omega) (by omega)), show j = k by omega]
    | succ r ih =>
      intro j n h1 h2
      obtain ⟨n, rfl⟩ : ∃ z, n = z + 1 := ⟨n - 1, by omega⟩
      obtain ⟨a, b⟩ := h j (by omega)
      have d := (pu_su0 _).mp b
      have e : (10 * nI (pu_nb t p j) + nI (t (p + j))) - 48 = nI (pu_nb t p (j + 1)) := by
        rw [show (10 : Int32) * nI (pu_nb t p j) = nI (10 * pu_nb t p j) from pk_mul 10 _, nI_add, show nI (10 * pu_nb t p j + t (p + j)) - 48 = nI (10 * pu_nb t p j + t (p + j) - 48) from pk_sub (b := 48) (by omega)]
        congr 1
        show _ = 10 * pu_nb t p j + (t (p + j) - 48)
        omega
      rw [L_X9_number_5, if_neg (nI_ge (by omega) (by omega)), nI_add, pu_bd' _ (pu_letX hL hs ht a), pu_nm, e, nI_1]
      exact ih (j + 1) n (by omega) (by omega)
  unfold f_X9_number
  rw [hy]
  exact key k 0 1000 (by omega) (by omega)
theorem pu_putX {b w lo hi v : Nat} (y : Int32) (hy : y = nI w) (hw : w < 6) (hl : ob_least w = nI lo) (hg : ob_great w = nI hi) (h1 : lo < 2 ^ 31) (h2 : hi < 2 ^ 31) (h3 : v < 2 ^ 31) : f_X3_putInBox b σ y (nI v) = if lo ≤ v ∧ v ≤ hi then some (1, ob_up σ (b + 8) w (nI v)) else some (0, σ) := by
  unfold f_X3_putInBox
  rw [hy, pu_lt hw (by omega), hl]
  by_cases c1 : v < lo
  · rw [if_pos ((nI_ltI h3 h1).mpr c1), if_neg (by omega)]
    rfl
  · rw [if_neg (fun w => c1 ((nI_ltI h3 h1).mp w)), pu_lt hw (by omega), hg]
    by_cases c2 : v ≤ hi
    · rw [if_pos (nI_le c2 h2), if_pos (by omega), pu_sd hw (by omega)]
      rfl
    · rw [if_neg (nI_ge (by omega) h3), if_neg (by omega)]
      rfl
theorem pu_begX {b c v : Nat} (hc : c ≤ 9) : f_X3_putBegin b σ (nI c) (nI v) = if c ≤ 4 then some (1, ob_up σ (b + 7) c (nI v)) else some (0, σ) := by
  unfold f_X3_putBegin
  rw [pu_bd' _ (pu_isCourse σ (nI c))]
  by_cases h : c ≤ 4
  · rw [if_pos (show 0 ≤ nI c ∧ nI c ≤ 4 from ⟨nI_pos' (by omega), nI_le (b := 4) h (by omega)⟩), if_neg (by decide), if_pos h, pu_sd (by omega) (by omega)]
    rfl
  · rw [if_neg (show ¬ (0 ≤ nI c ∧ nI c ≤ 4) from fun w => nI_ge (a := 4) (show 4 < c by omega) (by omega) w.2), if_pos rfl, if_neg h]
    rfl
theorem pu_twoM {z a b : Nat} (y : Int32) (hy : y = nI z) (hz : z + 1 < 7) (h1 : σ 10 z = nI a) (h2 : σ 10 (z + 1) = nI b) : f_X11_two σ y = some (nI (10 * a + b), σ) := by
  unfold f_X11_two
  rw [hy, pu_ld (by omega) (by omega), nI_1, pu_ld (by omega) (by omega), h1, h2, show (10 : Int32) * nI a = nI (10 * a) from pk_mul 10 _, nI_add]
theorem pu_witN {v lo hi : Nat} (y1 y2 : Int32) (e1 : y1 = nI lo) (e2 : y2 = nI hi) (h1 : lo < 2 ^ 31) (h2 : hi < 2 ^ 31) (h3 : v < 2 ^ 31) : f_X11_within σ (nI v) y1 y2 = some (if lo ≤ v ∧ v ≤ hi then 1 else 0, σ) := by
  rw [pu_within, e1, e2]
  by_cases h : lo ≤ v ∧ v ≤ hi
  · rw [if_pos h, if_pos ⟨nI_le h.1 h3, nI_le h.2 h2⟩]
  · rw [if_neg h, if_neg (fun w => h ⟨(nI_leI h1 h3).mp w.1, (nI_leI h3 h2).mp w.2⟩)]
end PUN
/-! one DISH more -/
def pu_ad (K : pu_K) (k w h p c : Nat) : pu_K := pu_upK (pu_upK (pu_upK (pu_upK (pu_upK (pu_upK (pu_upK K 1 (K 0 0) k) 2 (K 0 0) w) 3 (K 0 0) h) 4 (K 0 0) p) 5 (K 0 0) c) 6 (K 0 0) (K 0 0)) 0 0 (K 0 0 + 1)
theorem pu_ad_ok {K : pu_K} {k w h p c : Nat} (hK : pu_ok K) (ho : pu_ord K (K 6)) (h6 : K 0 0 < 6) (hk : k ≤ 5) (hw : w ≤ 9) (hh : h ≤ 99) (hp : 1 ≤ p ∧ p ≤ 6) (hc : c ≤ 4) : pu_ok (pu_ad K k w h p c) ∧ pu_ord (pu_ad K k w h p c) (pu_ad K k w h p c 6) := by
  have e0 : pu_ad K k w h p c 0 0 = K 0 0 + 1 := by simp [pu_ad, pu_upK]
  have e1 : ∀ j, pu_ad K k w h p c 1 j = if j = K 0 0 then k else K 1 j := fun j => by simp [pu_ad, pu_upK]
  have e2 : ∀ j, pu_ad K k w h p c 2 j = if j = K 0 0 then w else K 2 j := fun j => by simp [pu_ad, pu_upK]
  have e3 : ∀ j, pu_ad K k w h p c 3 j = if j = K 0 0 then h else K 3 j := fun j => by simp [pu_ad, pu_upK]
  have e4 : ∀ j, pu_ad K k w h p c 4 j = if j = K 0 0 then p else K 4 j := fun j => by simp [pu_ad, pu_upK]
  have e5 : ∀ j, pu_ad K k w h p c 5 j = if j = K 0 0 then c else K 5 j := fun j => by simp [pu_ad, pu_upK]
  have e6 : ∀ j, pu_ad K k w h p c 6 j = if j = K 0 0 then K 0 0 else K 6 j := fun j => by simp [pu_ad, pu_upK]
  have e7 : ∀ j, pu_ad K k w h p c 7 j = K 7 j := fun j => by simp [pu_ad, pu_upK]
  have e8 : ∀ j, pu_ad K k w h p c 8 j = K 8 j := fun j => by simp [pu_ad, pu_upK]
  obtain ⟨k1, k2, k3, k4, k5, k6, k7, k8, k9, k10, k11⟩ := hK
  refine ⟨⟨?_, fun j hj => ?_, fun j hj => ?_, fun i j hi hj e => ?_, fun j hj => ?_, ?_, ?_, ?_, ?_, ?_, ?_⟩, fun j hj => ?_, fun x hx => ?_⟩
  · rw [e0]; omega
  · obtain ⟨z1, z2, z3, z4, z5, z6⟩ := k2 j hj
    rw [e1, e2, e3, e4, e5, e6]
    by_cases q : j = K 0 0
    · rw [if_pos q, if_pos q, if_pos q, if_pos q, if_pos q, if_pos q]
      omega
    · rw [if_neg q, if_neg q, if_neg q, if_neg q, if_neg q, if_neg q]
      omega
  · rw [e0] at hj ⊢
    rw [e4, e6]
    by_cases q : j = K 0 0
    · rw [if_pos q, if_pos q]
      omega
    · have := k3 j (by omega)
      rw [if_neg q, if_neg q]
      omega
  · rw [e0] at hi hj
    rw [e6, e6] at e
    by_cases q : i = K 0 0
    · by_cases q2 : j = K 0 0
      · omega
      · have := k3 j (by omega)
        rw [if_pos q, if_neg q2] at e
        omega
    · have := k3 i (by omega)
      by_cases q2 : j = K 0 0
      · rw [if_neg q, if_pos q2] at e
        omega
      · rw [if_neg q, if_neg q2] at e
        exact k4 i j (by omega) (by omega) e
  · rw [e7]; exact k5 j hj
  · rw [e8]; exact k6
  · rw [e8]; exact k7
  · rw [e8]; exact k8
  · rw [e8]; exact k9
  · rw [e8]; exact k10
  · rw [e8]; exact k11
  · rw [e0] at hj ⊢
    rw [e6]
    by_cases q : j = K 0 0
    · rw [if_pos q]
      omega
    · have := k3 j (by omega)
      rw [if_neg q]
      omega
  · rw [e0] at hx ⊢
    by_cases q : x = K 0 0
    · exact ⟨K 0 0, by omega, by rw [e6, if_pos rfl, q]⟩
    · obtain ⟨j, j1, j2⟩ := ho.2 x (by omega)
      exact ⟨j, by omega, by rw [e6, if_neg (by omega), j2]⟩
theorem pu_X_up0 {b v : Nat} {σ : ob_St} {K : pu_K} (h : pu_X b σ K) : pu_X b (ob_up σ b 0 (nI v)) (pu_upK K 0 0 v) := by
  refine ⟨by rw [pu_uss]; rfl, fun f h1 h2 j hj => ?_⟩
  rw [pu_un _ _ _ _ (by omega)]
  unfold pu_upK
  rw [if_neg (by omega)]
  exact h.2 f h1 h2 j hj
theorem pu_M_up0 {v : Nat} {σ : ob_St} {K : pu_K} (h : pu_M σ K) : pu_M (ob_up σ 0 0 (nI v)) (pu_upK K 0 0 v) := by
  refine ⟨by rw [pu_uss]; rfl, fun f h1 h2 j hj => ?_, fun j hj => ?_, fun j hj => ?_⟩
  · rw [pu_un _ _ _ _ (by omega)]
    unfold pu_upK
    rw [if_neg (by omega)]
    exact h.2.1 f h1 h2 j hj
  · rw [pu_un _ _ _ _ (by omega)]
    exact h.2.2.1 j hj
  · rw [pu_un _ _ _ _ (by omega)]
    exact h.2.2.2 j hj
theorem pu_addX {σ : ob_St} {K : pu_K} {k w h p c : Nat} (hK : pu_ok K) (hX : pu_X 10 σ K) (hk : k ≤ 5) (hw : w ≤ 9) (hh : h ≤ 99) (hp : p ≤ 9) (hc : c ≤ 9) : ((K 0 0 < 6 ∧ 1 ≤ w ∧ 1 ≤ p ∧ p ≤ 6 ∧ c ≤ 4) → ∃ τ, f_X3_addDish 10 σ (nI k) (nI w) (nI h) (nI p) (nI c) = some (1, τ) ∧ pu_X 10 τ (pu_ad K k w h p c) ∧ pu_fX σ τ) ∧ (¬ (K 0 0 < 6 ∧ 1 ≤ w ∧ 1 ≤ p ∧ p ≤ 6 ∧ c ≤ 4) → f_X3_addDish 10 σ (nI k) (nI w) (nI h) (nI p) (nI c) = some (0, σ)) := by
  have hd6 := hK.1
  constructor
  · rintro ⟨g1, g2, g3, g4, g5⟩
    have X1 := pu_X_up (b := 10) (f := 1) (n := K 0 0) (v := k) hX (by omega)
    have X2 := pu_X_up (b := 10) (f := 2) (n := K 0 0) (v := w) X1 (by omega)
    have X3 := pu_X_up (b := 10) (f := 3) (n := K 0 0) (v := h) X2 (by omega)
    have X4 := pu_X_up (b := 10) (f := 4) (n := K 0 0) (v := p) X3 (by omega)
    have X5 := pu_X_up (b := 10) (f := 5) (n := K 0 0) (v := c) X4 (by omega)
    have X6 := pu_X_up (b := 10) (f := 6) (n := K 0 0) (v := K 0 0) X5 (by omega)
    have X7 := pu_X_up0 (v := K 0 0 + 1) X6
    refine ⟨_, ?_, X7, fun q hq => ?_⟩
    · unfold f_X3_addDish
      rw [hX.1, if_neg (show ¬ (6 : Int32) ≤ nI (K 0 0) from nI_ge (b := 6) g1 (by omega)), if_pos (nI_pos' (by omega)), if_neg (show ¬ nI w < 1 from Int32.not_lt.mpr (nI_le (a := 1) g2 (by omega))), if_neg (show ¬ nI p < 1 from Int32.not_lt.mpr (nI_le (a := 1) g3 (by omega))), if_neg (show ¬ (6 : Int32) < nI p from Int32.not_lt.mpr (nI_le (b := 6) g4 (by omega))), pu_bd' _ (pu_isCourse σ (nI c)), if_pos (show 0 ≤ nI c ∧ nI c ≤ 4 from ⟨nI_pos' (by omega), nI_le (b := 4) g5 (by omega)⟩), if_neg (by decide), hX.1, pu_sd (by omega) (by omega)]
      rw [show ob_up σ (10 + 1) (K 0 0) (nI k) 10 0 = nI (K 0 0) from X1.1, pu_sd (by omega) (by omega)]
      rw [show ob_up (ob_up σ (10 + 1) (K 0 0) (nI k)) (10 + 2) (K 0 0) (nI w) 10 0 = nI (K 0 0) from X2.1, pu_sd (by omega) (by omega)]
      rw [show ob_up (ob_up (ob_up σ (10 + 1) (K 0 0) (nI k)) (10 + 2) (K 0 0) (nI w)) (10 + 3) (K 0 0) (nI h) 10 0 = nI (K 0 0) from X3.1, pu_sd (by omega) (by omega)]
      rw [show ob_up (ob_up (ob_up (ob_up σ (10 + 1) (K 0 0) (nI k)) (10 + 2) (K 0 0) (nI w)) (10 + 3) (K 0 0) (nI h)) (10 + 4) (K 0 0) (nI p) 10 0 = nI (K 0 0) from X4.1, pu_sd (by omega) (by omega)]
      rw [show ob_up (ob_up (ob_up (ob_up (ob_up σ (10 + 1) (K 0 0) (nI k)) (10 + 2) (K 0 0) (nI w)) (10 + 3) (K 0 0) (nI h)) (10 + 4) (K 0 0) (nI p)) (10 + 5) (K 0 0) (nI c) 10 0 = nI (K 0 0) from X5.1, pu_sd (by omega) (by omega)]
      rw [show ob_up (ob_up (ob_up (ob_up (ob_up (ob_up σ (10 + 1) (K 0 0) (nI k)) (10 + 2) (K 0 0) (nI w)) (10 + 3) (K 0 0) (nI h)) (10 + 4) (K 0 0) (nI p)) (10 + 5) (K 0 0) (nI c)) (10 + 6) (K 0 0) (nI (K 0 0)) 10 0 = nI (K 0 0) from X6.1, pu_pf, nI_1]
      rfl
    · rw [pu_un _ _ _ _ (by omega), pu_un _ _ _ _ (by omega), pu_un _ _ _ _ (by omega), pu_un _ _ _ _ (by omega), pu_un _ _ _ _ (by omega), pu_un _ _ _ _ (by omega), pu_un _ _ _ _ (by omega)]
  · intro n
    unfold f_X3_addDish
    rw [hX.1]
    by_cases g1 : K 0 0 < 6
    · rw [if_neg (show ¬ (6 : Int32) ≤ nI (K 0 0) from nI_ge (b := 6) g1 (by omega)), if_pos (nI_pos' (by omega))]
      by_cases g2 : 1 ≤ w
      · rw [if_neg (show ¬ nI w < 1 from Int32.not_lt.mpr (nI_le (a := 1) g2 (by omega)))]
        by_cases g3 : 1 ≤ p
        · rw [if_neg (show ¬ nI p < 1 from Int32.not_lt.mpr (nI_le (a := 1) g3 (by omega)))]
          by_cases g4 : p ≤ 6
          · rw [if_neg (show ¬ (6 : Int32) < nI p from Int32.not_lt.mpr (nI_le (b := 6) g4 (by omega))), pu_bd' _ (pu_isCourse σ (nI c)), if_neg (show ¬ (0 ≤ nI c ∧ nI c ≤ 4) from fun z => nI_ge (a := 4) (show 4 < c by omega) (by omega) z.2), if_pos rfl]
            rfl
          · rw [if_pos (show (6 : Int32) < nI p from (nI_ltI (a := 6) (by omega) (by omega)).mpr (by omega))]
            rfl
        · rw [if_pos (show nI p < 1 from (nI_ltI (b := 1) (by omega) (by omega)).mpr (by omega))]
          rfl
      · rw [if_pos (show nI w < 1 from (nI_ltI (b := 1) (by omega) (by omega)).mpr (by omega))]
        rfl
    · rw [if_pos (show (6 : Int32) ≤ nI (K 0 0) from nI_le (a := 6) (by omega) (by omega))]
      rfl
/-! two change places, on both sides -/
theorem pu_swX {b x y : Nat} {σ : ob_St} {K : pu_K} (hK : pu_ok K) (ho : pu_ord K (K 6)) (hX : pu_X b σ K) (hx : x < K 0 0) (hy : y < K 0 0) (hxy : x ≠ y) : ∃ τ, f_X3_swap b σ (nI x) (nI y) = some (1, τ) ∧ pu_X b τ (pu_swK K x y) ∧ ∀ q, q ≠ b + 6 → τ q = σ q := by
  have hd6 := hK.1
  have x1 := pu_hasDish hX hK (nI x)
  have x2 := pu_hasDish hX hK (nI y)
  rw [if_pos ⟨nI_pos' (by omega), nI_lt hx (by omega)⟩] at x1
  rw [if_pos ⟨nI_pos' (by omega), nI_lt hy (by omega)⟩] at x2
  have hlt : ∀ i, i < K 0 0 → K 6 i < 6 := fun i hi => by have := ho.1 i hi; omega
  have e6 : ∀ j, j < K 0 0 → pu_swK K x y 6 j = pu_sw x y (K 6 j) := fun j hj => if_pos ⟨rfl, hj⟩
  obtain ⟨τ, t1, t2, t3, t4⟩ := pu_swapX (b := b) (o := K 6) hd6 (show x < 6 by omega) (show y < 6 by omega) hlt (K 0 0) 0 1000 σ (by omega) (by omega) hX.1 (fun j hj => by rw [if_neg (by omega)]; exact pu_Xf hX 6 j (by omega) (by omega) (show j < 6 by omega))
  refine ⟨τ, ?_, ⟨by rw [t2 b (by omega)]; exact hX.1, fun f h1 h2 j hj => ?_⟩, t2⟩
  · unfold f_X3_swap
    rw [if_neg (fun w => hxy ((nI_eq (by omega) (by omega)).mp w)), pu_bd' _ x1, if_neg (by decide), pu_bd' _ x2, if_neg (by decide)]
    exact t1
  · by_cases c : f = 6
    · subst c
      by_cases c2 : j < K 0 0
      · rw [e6 j c2]; exact t4 j c2
      · unfold pu_swK
        rw [if_neg (fun q => c2 q.2)]
        exact (t3 j (by omega)).trans (hX.2 6 h1 h2 j hj)
    · unfold pu_swK
      rw [if_neg (fun q => c q.1), t2 _ (by omega)]
      exact hX.2 f h1 h2 j hj
theorem pu_swXn {b x y : Nat} {σ : ob_St} {K : pu_K} (hK : pu_ok K) (hX : pu_X b σ K) (hx : x ≤ 9) (hy : y ≤ 9) (n : ¬ (x < K 0 0 ∧ y < K 0 0 ∧ x ≠ y)) : f_X3_swap b σ (nI x) (nI y) = some (0, σ) := by
  have hd6 := hK.1
  have x1 := pu_hasDish hX hK (nI x)
  have x2 := pu_hasDish hX hK (nI y)
  unfold f_X3_swap
  by_cases c : x = y
  · rw [if_pos (by rw [c])]
    rfl
  · rw [if_neg (fun w => c ((nI_eq (by omega) (by omega)).mp w)), pu_bd' _ x1]
    by_cases c1 : x < K 0 0
    · rw [if_pos (show 0 ≤ nI x ∧ nI x < nI (K 0 0) from ⟨nI_pos' (by omega), nI_lt c1 (by omega)⟩), if_neg (by decide), pu_bd' _ x2, if_neg (show ¬ (0 ≤ nI y ∧ nI y < nI (K 0 0)) from fun w => by have := (nI_ltI (by omega) (by omega)).mp w.2; exact n ⟨c1, this, c⟩), if_pos rfl]
      rfl
    · rw [if_neg (show ¬ (0 ≤ nI x ∧ nI x < nI (K 0 0)) from fun w => c1 ((nI_ltI (by omega) (by omega)).mp w.2)), if_pos rfl]
      rfl
theorem pu_swM {x y : Nat} {σ : ob_St} {K : pu_K} (hK : pu_ok K) (ho : pu_ord K (K 6)) (hM : pu_M σ K) (hx : x < K 0 0) (hy : y < K 0 0) (hxy : x ≠ y) : ∃ i j τ, f_X11_placeOf σ (nI x) = some (nI i, σ) ∧ f_X11_placeOf σ (nI y) = some (nI j, σ) ∧ f_X11_swap σ (nI i) (nI j) = some ((), τ) ∧ pu_M τ (pu_swK K x y) ∧ ∀ q, q ≠ 6 → τ q = σ q := by
  have hd6 := hK.1
  obtain ⟨i, i1, i2, i3⟩ := pu_place hK ho hx
  obtain ⟨j, j1, j2, j3⟩ := pu_place hK ho hy
  have hlt : ∀ i, i < K 0 0 → K 6 i < 6 := fun i hi => by have := ho.1 i hi; omega
  have e6 : ∀ j, j < K 0 0 → pu_swK K x y 6 j = pu_sw x y (K 6 j) := fun j hj => if_pos ⟨rfl, hj⟩
  have m6 : ∀ q, q < 6 → σ 6 q = nI (K 6 q) := fun q hq => hM.2.1 6 (by omega) (by omega) q hq
  have n : ∀ q, q ≠ 6 → ob_up (ob_up σ 6 i (nI y)) 6 j (nI x) q = σ q := fun q hq => by rw [pu_un _ _ _ _ hq, pu_un _ _ _ _ hq]
  refine ⟨i, j, ob_up (ob_up σ 6 i (nI y)) 6 j (nI x), pu_whereM (o := K 6) hd6 (fun i hi => m6 i (by omega)) hlt (show x < 6 by omega) i1 i2 (fun z hz e => by have := i3 z (by omega) e; omega), pu_whereM (o := K 6) hd6 (fun i hi => m6 i (by omega)) hlt (show y < 6 by omega) j1 j2 (fun z hz e => by have := j3 z (by omega) e; omega), ?_, ⟨by rw [n 0 (by decide)]; exact hM.1, fun f h1 h2 z hz => ?_, fun z hz => by rw [n 7 (by decide)]; exact hM.2.2.1 z hz, fun z hz => by rw [n 8 (by decide)]; exact hM.2.2.2 z hz⟩, n⟩
  · unfold f_X11_swap
    rw [pu_ld (by omega) (by omega), pu_ld (by omega) (by omega), m6 i (by omega), m6 j (by omega), i2, j2, pu_sd (by omega) (by omega), pu_sd (by omega) (by omega)]
  · by_cases c : f = 6
    · subst c
      by_cases c1 : z = j
      · rw [c1, pu_uss, e6 j j1, j2]
        unfold pu_sw
        rw [if_neg (Ne.symm hxy), if_pos rfl]
      · rw [pu_usn _ _ _ _ c1]
        by_cases c2 : z = i
        · rw [c2, pu_uss, e6 i i1, i2]
          unfold pu_sw
          rw [if_pos rfl]
        · rw [pu_usn _ _ _ _ c2, m6 z hz]
          by_cases c3 : z < K 0 0
          · rw [e6 z c3]
            unfold pu_sw
            rw [if_neg (fun q => c2 (i3 z c3 q)), if_neg (fun q => c1 (j3 z c3 q))]
          · unfold pu_swK
            rw [if_neg (fun q => c3 q.2)]
    · unfold pu_swK
      rw [if_neg (fun q => c q.1), n f c]
      exact hM.2.1 f h1 h2 z hz
