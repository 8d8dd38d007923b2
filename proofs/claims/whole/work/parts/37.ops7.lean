/-! JUDGE -/
theorem pu_judgeL {σx σm : ob_St} {K : pu_K} {g : Nat → Nat} {R : List Nat} (hX : pu_X 1 σx K) (hK : pu_ok K) (ho : pu_ord K (K 6)) (hM : pu_M σm K) (hg : ∀ d, d < K 0 0 → σx 43 d = nI (g d) ∧ σm 16 d = nI (g d)) (hx9 : σx 0 9 = nI R.length) (hx : pu_list (σx 50) R) (hm9 : σm 0 13 = nI R.length) (hm : pu_list (σm 11) R) (hR : R.length ≤ 12) : ∀ (k i n : Nat), i + k = R.length → k < n → ∃ r, L_X10_firstNotSo_15 7 n σx (nI i) = some (r, σx) ∧ L_X11_wrong_8 n σm (nI i) = some (r, σm) := by
  have hd6 := hK.1
  intro k
  induction k with
  | zero =>
    intro i n h1 h2
    obtain ⟨n, rfl⟩ : ∃ z, n = z + 1 := ⟨n - 1, by omega⟩
    exact ⟨-9, by rw [L_X10_firstNotSo_15, hx9, if_pos (nI_le (by omega) (by omega))], by rw [L_X11_wrong_8, hm9, if_pos (nI_le (by omega) (by omega))]⟩
  | succ k ih =>
    intro i n h1 h2
    obtain ⟨n, rfl⟩ : ∃ z, n = z + 1 := ⟨n - 1, by omega⟩
    have gR : ¬ nI R.length ≤ nI i := nI_ge (by omega) (by omega)
    rw [L_X10_firstNotSo_15, hx9, if_neg gR, hX.1, L_X11_wrong_8, hm9, if_neg gR, hM.1]
    by_cases c : K 0 0 ≤ i
    · exact ⟨nI i, by rw [if_pos (nI_le c (by omega))], by rw [if_pos (nI_le c (by omega))]⟩
    · have hi : i < K 0 0 := by omega
      have hoi := ho.1 i hi
      obtain ⟨g1, g2⟩ := hg _ hoi
      have e1 : σx 7 i = nI (K 6 i) := pu_Xf hX 6 i (by omega) (by omega) (show i < 6 by omega)
      have e2 : σm 6 i = nI (K 6 i) := hM.2.1 6 (by omega) (by omega) i (by omega)
      rw [if_neg (nI_ge hi (by omega)), if_neg (nI_ge hi (by omega)), pu_ld (show i < 6 by omega) (by omega), e1, pu_ld (show K 6 i < 6 by omega) (by omega), g1, pu_ld (show i < 12 by omega) (by omega), hx i (by omega), pu_ld (show i < 6 by omega) (by omega), e2, pu_ld (show K 6 i < 6 by omega) (by omega), g2, pu_ld (show i < 12 by omega) (by omega), hm i (by omega)]
      by_cases c2 : nI (g (K 6 i)) = nI (R.getD i 0)
      · rw [if_pos c2, if_pos c2, nI_1]
        exact ih (i + 1) n (by omega) (by omega)
      · rw [if_neg c2, if_neg c2]
        exact ⟨nI i, rfl, rfl⟩
theorem pu_op_judge {σx σm : ob_St} (h : ob_RR σx σm) : ob_ok2 ob_RR (f_X10_judge σx) (f_X11_judge σm) := by
  obtain ⟨K, Ko, hh, T, R, ρ, hC, hX, hM⟩ := id h
  have hR := hC.2.2.2.2.2.2.1
  obtain ⟨τx, t1, t2, t3⟩ := pu_lookX hC.1 hC.2.1 hX
  obtain ⟨τm, s1, s2, s3⟩ := pu_lookM hC.1 hC.2.1 hM
  have hd6 := hC.1.1
  obtain ⟨r, r1, r2⟩ := pu_judgeL t2.1 hC.1 hC.2.1 s2.1 (fun d hd => ⟨t3.2.1 d hd (by omega), s3.2.1 d hd (by omega)⟩) t2.2.2.2.2.2.1 t2.2.2.2.2.2.2.1 s2.2.2.2.2.2.1 s2.2.2.2.2.2.2.1 hR R.length 0 1000 (by omega) (by omega)
  have t1' : f_X1_pass 1 7 σx (-1) = some ((), τx) := by
    have := t1
    unfold f_X10_lookAtNow at this
    cases e : f_X1_pass 1 7 σx (-1) with
    | none => rw [e] at this; exact absurd this (by intro q; cases q)
    | some z =>
      rw [e] at this
      have q : some ((), z.2) = some ((), τx) := this
      rw [show z = ((), z.2) from rfl, q]
  have nx : ∀ q, q ≠ 0 → ob_up τx 0 9 (nI 0) q = τx q := fun q hq => pu_un _ _ _ _ hq
  have nm : ∀ q, q ≠ 0 → ob_up τm 0 13 (nI 0) q = τm q := fun q hq => pu_un _ _ _ _ hq
  refine ⟨r, ob_up τx 0 9 (nI 0), ob_up τm 0 13 (nI 0), ?_, ?_, K, Ko, hh, T, [], ρ, ⟨hC.1, hC.2.1, hC.2.2.1, hC.2.2.2.1, hC.2.2.2.2.1, hC.2.2.2.2.2.1, Nat.zero_le _, fun x hx => absurd hx (List.not_mem_nil)⟩, ?_, ?_⟩
  · unfold f_X10_judge f_X10_firstNotSo
    rw [pu_bd' _ t1']
    exact (pu_bd' _ r1).trans rfl
  · unfold f_X11_judge f_X11_wrong
    rw [pu_bd' _ s1]
    exact (pu_bd' _ r2).trans rfl
  · obtain ⟨a1, a2, a3, a4, a5, a6, a7, a8⟩ := t2
    exact ⟨pu_X_keep a1 (fun f hf => nx _ (by omega)), by rw [pu_usn _ _ _ _ (by decide)]; exact a2, fun e => pu_X_keep (a3 e) (fun f hf => nx _ (by omega)), by rw [nx 28 (by decide)]; exact a4, by rw [nx 29 (by decide)]; exact a5, pu_uss _ _ _ _, fun j hj => absurd hj (Nat.not_lt_zero _), fun j hj => by rw [nx 51 (by decide)]; exact a8 j hj⟩
  · obtain ⟨a1, a2, a3, a4, a5, a6, a7, a8⟩ := s2
    exact ⟨pu_M_keep a1 (pu_usn _ _ _ _ (by decide)) (fun q h1 h2 => nm q (by omega)), by rw [pu_usn _ _ _ _ (by decide)]; exact a2, fun e => pu_O_keep (a3 e) (nm 13 (by decide)), by rw [pu_usn _ _ _ _ (by decide)]; exact a4, by rw [nm 9 (by decide)]; exact a5, pu_uss _ _ _ _, fun j hj => absurd hj (Nat.not_lt_zero _), fun j hj => by rw [nm 12 (by decide)]; exact a8 j hj⟩
/-! BEST SETTING -/
theorem pu_upup (σ : ob_St) (k n : Nat) (a b : Int32) : ob_up (ob_up σ k n a) k n b = ob_up σ k n b := by
  funext q i
  by_cases h : q = k
  · subst h
    by_cases hi : i = n
    · subst hi; rw [pu_uss, pu_uss]
    · rw [pu_usn _ _ _ _ hi, pu_usn _ _ _ _ hi, pu_usn _ _ _ _ hi]
  · rw [pu_un _ _ _ _ h, pu_un _ _ _ _ h, pu_un _ _ _ _ h]
theorem pu_bsStep {σ : ob_St} {K Ko : pu_K} {h : Nat} {T R : List Nat} {ρ : Nat → Int32} {n v : Nat} (hK : pu_ok (pu_upK K 8 n v)) (ho : pu_ord K (K 6)) (hI : pu_RM (ob_up σ 7 n (nI (K 8 n))) K Ko h T R ρ) : ∃ τ, f_X11_worth (ob_up σ 7 n (nI v)) = some (pu_ww (pu_upK K 8 n v) 7, τ) ∧ pu_RM (ob_up τ 7 n (nI (K 8 n))) K Ko h T R ρ := by
  have hM : pu_M (ob_up σ 7 n (nI v)) (pu_upK K 8 n v) := by
    have := pu_M_upB (n := n) (v := v) hI.1
    rw [pu_upup] at this
    exact this
  obtain ⟨τ, t1, t2, t3, t4⟩ := pu_worM hK ho hM
  refine ⟨τ, t1, pu_RM_keep hI (fun j h1 h2 h3 => by rw [pu_un _ _ _ _ (by decide), pu_un _ _ _ _ (by decide), t4 j h2 h3, pu_un _ _ _ _ (by decide)]) (fun q hq => ?_)⟩
  unfold pu_vM at hq
  by_cases c : q = 7
  · subst c
    have e := t3 7 (by decide) (by decide) (by decide)
    funext i
    by_cases ci : i = n
    · subst ci; rw [pu_uss, pu_uss]
    · rw [pu_usn _ _ _ _ ci, pu_usn _ _ _ _ ci, e, pu_usn _ _ _ _ ci]
  · rw [pu_un _ _ _ _ c, pu_un _ _ _ _ c, t3 q (by omega) (by omega) (by omega), pu_un _ _ _ _ c]
theorem pu_bsN {σx σm : ob_St} (n lo hi w : Nat) (hn : n < 6) (hl : ob_least n = nI lo) (hg : ob_great n = nI hi) (hi9 : hi ≤ 900) (hlo : lo ≤ hi) (hw : w ≤ 10) (hw1 : 1 ≤ w) (hw2 : ∀ (z : Nat), z ≤ 1000 → (if nI n = (5 : Int32) then nI z + 10 else nI z + 1) = nI (z + w)) (ml : ∀ σ, f_X11_leastOf σ (nI n) = some (nI lo, σ)) (mg : ∀ σ, f_X11_mostOf σ (nI n) = some (nI hi, σ)) (hok : ∀ K v, pu_ok K → lo ≤ v → v ≤ hi → pu_ok (pu_upK K 8 n v)) (h : ob_RR σx σm) : ob_ok2 ob_RR (J_X10_bestSet_37 σx (nI n) (nI w)) (J_X11_bestSet_26 σm (nI n)) := by
  obtain ⟨K, Ko, hh, T, R, ρ, hC, hX, hM⟩ := id h
  have hK := hC.1
  have sx : ∀ (v m : Nat) (b bw : Int32) (σ : ob_St), lo ≤ v → v ≤ hi → pu_RX σ K Ko hh T R ρ → ∃ τ, pu_RX τ K Ko hh T R ρ ∧ L_X10_bestSet_57 (m + 1) σ (nI n) (nI w) b bw (nI v) = if pu_ww (pu_upK K 8 n v) 7 ≤ bw then L_X10_bestSet_57 m τ (nI n) (nI w) b bw (nI (v + w)) else L_X10_bestSet_57 m τ (nI n) (nI w) (nI v) (pu_ww (pu_upK K 8 n v) 7) (nI (v + w)) := by
    intro v m b bw σ h1 h2 hX
    obtain ⟨τ, t1, t2⟩ := pu_withX hn (hok K v hK h1 h2) hC.2.1 hX
    refine ⟨τ, t2, ?_⟩
    rw [L_X10_bestSet_57, pu_lt hn (by omega), hg, if_neg (Int32.not_lt.mpr (nI_le h2 (by omega))), pu_bd' _ t1]
    unfold J_X10_bestSet_90_57
    rw [pu_nm, pu_nm, nI_add]
  have sm : ∀ (v m : Nat) (b bw : Int32) (σ : ob_St), lo ≤ v → v ≤ hi → pu_RM (ob_up σ 7 n (nI (K 8 n))) K Ko hh T R ρ → ∃ τ, pu_RM (ob_up τ 7 n (nI (K 8 n))) K Ko hh T R ρ ∧ L_X11_bestSet_54 (m + 1) σ (nI n) (nI (K 8 n)) b bw (nI v) = if bw < pu_ww (pu_upK K 8 n v) 7 then L_X11_bestSet_54 m τ (nI n) (nI (K 8 n)) (nI v) (pu_ww (pu_upK K 8 n v) 7) (nI (v + w)) else L_X11_bestSet_54 m τ (nI n) (nI (K 8 n)) b bw (nI (v + w)) := by
    intro v m b bw σ h1 h2 hM
    obtain ⟨τ, t1, t2⟩ := pu_bsStep (hok K v hK h1 h2) hC.2.1 hM
    refine ⟨τ, t2, ?_⟩
    have j : ∀ (rec : ob_St → Int32 → Int32 → Int32 → Int32 → Int32 → Option (Int32 × ob_St)) (v2 v3 v4 : Int32), J_X11_bestSet_94_54 rec τ (nI n) v2 v3 v4 (nI v) = rec τ (nI n) v2 v3 v4 (nI (v + w)) := by
      intro rec v2 v3 v4
      have e := hw2 v (by omega)
      unfold J_X11_bestSet_94_54
      by_cases c : nI n = (5 : Int32)
      · rw [if_pos c] at e; rw [if_pos c, pu_nm, e]
      · rw [if_neg c] at e; rw [if_neg c, pu_nm, e]
    rw [L_X11_bestSet_54, pu_bd' _ (mg σ), if_neg (Int32.not_lt.mpr (nI_le h2 (by omega))), pu_sd hn (by omega), pu_bd' _ t1, j, j]
  have key : ∀ (k v m m' : Nat) (b bw : Int32) (τx τm : ob_St), hi < v + k → k < m → k < m' → lo ≤ v → v ≤ hi + 10 → pu_RX τx K Ko hh T R ρ → pu_RM (ob_up τm 7 n (nI (K 8 n))) K Ko hh T R ρ → ob_ok2 ob_RR (L_X10_bestSet_57 m τx (nI n) (nI w) b bw (nI v)) (L_X11_bestSet_54 m' τm (nI n) (nI (K 8 n)) b bw (nI v)) := by
    intro k
    induction k with
    | zero =>
      intro v m m' b bw τx τm h1 h2 h3 h4 h5 hX hM
      obtain ⟨m, rfl⟩ : ∃ z, m = z + 1 := ⟨m - 1, by omega⟩
      obtain ⟨m', rfl⟩ : ∃ z, m' = z + 1 := ⟨m' - 1, by omega⟩
      have c : nI hi < nI v := (nI_ltI (by omega) (by omega)).mpr (by omega)
      exact ⟨b, τx, ob_up τm 7 n (nI (K 8 n)), by rw [L_X10_bestSet_57, pu_lt hn (by omega), hg, if_pos c], by rw [L_X11_bestSet_54, pu_bd' _ (mg τm), if_pos c, pu_sd hn (by omega)], K, Ko, hh, T, R, ρ, hC, hX, hM⟩
    | succ k ih =>
      intro v m m' b bw τx τm h1 h2 h3 h4 h5 hX hM
      obtain ⟨m, rfl⟩ : ∃ z, m = z + 1 := ⟨m - 1, by omega⟩
      obtain ⟨m', rfl⟩ : ∃ z, m' = z + 1 := ⟨m' - 1, by omega⟩
      by_cases c : hi < v
      · have c : nI hi < nI v := (nI_ltI (by omega) (by omega)).mpr (by omega)
        exact ⟨b, τx, ob_up τm 7 n (nI (K 8 n)), by rw [L_X10_bestSet_57, pu_lt hn (by omega), hg, if_pos c], by rw [L_X11_bestSet_54, pu_bd' _ (mg τm), if_pos c, pu_sd hn (by omega)], K, Ko, hh, T, R, ρ, hC, hX, hM⟩
      · obtain ⟨σ1, a1, a2⟩ := sx v m b bw τx h4 (by omega) hX
        obtain ⟨σ2, b1, b2⟩ := sm v m' b bw τm h4 (by omega) hM
        rw [a2, b2]
        by_cases d : bw < pu_ww (pu_upK K 8 n v) 7
        · rw [if_neg (Int32.not_le.mpr d), if_pos d]
          exact ih (v + w) m m' _ _ σ1 σ2 (by omega) (by omega) (by omega) (by omega) (by omega) a1 b1
        · rw [if_pos (Int32.not_lt.mp d), if_neg d]
          exact ih (v + w) m m' _ _ σ1 σ2 (by omega) (by omega) (by omega) (by omega) (by omega) a1 b1
  have hM0 : pu_RM (ob_up σm 7 n (nI (K 8 n))) K Ko hh T R ρ := pu_RM_keep hM (fun j _ _ _ => by rw [pu_un _ _ _ _ (by decide)]) (fun q hq => by
    by_cases c : q = 7
    · subst c
      funext i
      by_cases ci : i = n
      · subst ci; rw [pu_uss, hM.1.2.2.1 i hn]
      · rw [pu_usn _ _ _ _ ci]
    · rw [pu_un _ _ _ _ c])
  obtain ⟨σ1, a1, a2⟩ := pu_withX hn (hok K lo hK (Nat.le_refl _) hlo) hC.2.1 hX
  obtain ⟨σ2, b1, b2⟩ := pu_bsStep (hok K lo hK (Nat.le_refl _) hlo) hC.2.1 hM0
  obtain ⟨σ3, c1, c2⟩ := sm lo 999 (nI lo) (pu_ww (pu_upK K 8 n lo) 7) σ2 (Nat.le_refl _) hlo b2
  have ex : J_X10_bestSet_37 σx (nI n) (nI w) = L_X10_bestSet_57 1000 σ1 (nI n) (nI w) (nI lo) (pu_ww (pu_upK K 8 n lo) 7) (nI (lo + w)) := by
    unfold J_X10_bestSet_37
    rw [pu_lt hn (by omega), hl, pu_bd' _ a1, pu_nm, nI_add]
  have em : J_X11_bestSet_26 σm (nI n) = L_X11_bestSet_54 999 σ3 (nI n) (nI (K 8 n)) (nI lo) (pu_ww (pu_upK K 8 n lo) 7) (nI (lo + w)) := by
    unfold J_X11_bestSet_26
    rw [pu_ld hn (by omega), hM.1.2.2.1 n hn, pu_bd' _ (ml σm), pu_sd hn (by omega), pu_bd' _ b1]
    rw [if_neg (Int32.lt_irrefl)] at c2
    exact c2
  rw [ex, em]
  exact key (hi + 1 - lo) (lo + w) 1000 999 _ _ σ1 σ3 (by omega) (by omega) (by omega) (by omega) (by omega) a2 c1
theorem pu_op_bestSet {σx σm : ob_St} (a : Int32) (h : ob_RR σx σm) : ob_ok2 ob_RR (f_X10_bestSet σx a) (f_X11_bestSet σm a) := by
  by_cases c0 : a = 0
  · have := pu_bsN (σx := σx) (σm := σm) 0 1 11 1 (by omega) rfl rfl (by omega) (by omega) (by omega) (by omega) (fun z _ => by rw [if_neg (by decide), nI_1]) (fun _ => rfl) (fun _ => rfl) (fun K v hK h1 h2 => pu_ok_box hK _ _ (fun _ => ⟨h1, h2⟩) (by omega) (by omega) (by omega) (by omega) (by omega)) h
    unfold f_X10_bestSet f_X11_bestSet J_X10_bestSet_26
    rw [if_pos c0, if_pos c0, c0, if_neg (by decide)]
    exact this
  by_cases c2 : a = 2
  · have := pu_bsN (σx := σx) (σm := σm) 2 0 40 1 (by omega) rfl rfl (by omega) (by omega) (by omega) (by omega) (fun z _ => by rw [if_neg (by decide), nI_1]) (fun _ => rfl) (fun _ => rfl) (fun K v hK h1 h2 => pu_ok_box hK _ _ (by omega) (by omega) (by omega) (by omega) (by omega) (by omega)) h
    unfold f_X10_bestSet f_X11_bestSet J_X10_bestSet_26
    rw [if_neg c0, if_neg c0, if_pos c2, if_pos c2, c2, if_neg (by decide)]
    exact this
  by_cases c4 : a = 4
  · have := pu_bsN (σx := σx) (σm := σm) 4 0 2 1 (by omega) rfl rfl (by omega) (by omega) (by omega) (by omega) (fun z _ => by rw [if_neg (by decide), nI_1]) (fun _ => rfl) (fun _ => rfl) (fun K v hK h1 h2 => pu_ok_box hK _ _ (by omega) (by omega) (by omega) (by omega) (by omega) (by omega)) h
    unfold f_X10_bestSet f_X11_bestSet J_X10_bestSet_26
    rw [if_neg c0, if_neg c0, if_neg c2, if_neg c2, if_pos c4, if_pos c4, c4, if_neg (by decide)]
    exact this
  by_cases c5 : a = 5
  · have := pu_bsN (σx := σx) (σm := σm) 5 0 400 10 (by omega) rfl rfl (by omega) (by omega) (by omega) (by omega) (fun z _ => by rw [if_pos (show nI 5 = (5 : Int32) from rfl)]; exact nI_add z 10) (fun _ => rfl) (fun _ => rfl) (fun K v hK h1 h2 => pu_ok_box hK _ _ (by omega) (by omega) (by omega) (by omega) (by omega) (by omega)) h
    unfold f_X10_bestSet f_X11_bestSet J_X10_bestSet_26
    rw [if_neg c0, if_neg c0, if_neg c2, if_neg c2, if_neg c4, if_neg c4, if_pos c5, if_pos c5, if_pos c5, c5]
    exact this
  exact pu_ok_ref 1 (by omega) rfl rfl h (by unfold f_X10_bestSet; rw [if_neg c0, if_neg c2, if_neg c4, if_neg c5]) (by unfold f_X11_bestSet; rw [if_neg c0, if_neg c2, if_neg c4, if_neg c5])
