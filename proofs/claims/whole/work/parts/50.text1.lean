/-! KITCHEN: the text, and the class's first reading -/
def pu_ki (x : Nat) : Nat := if x = 100 then 0 else if x = 115 then 1 else if x = 108 then 2 else if x = 107 then 3 else if x = 103 then 4 else if x = 97 then 5 else 9
def pu_kv (x : Nat) : Int32 := if x = 100 then nI 0 else if x = 115 then nI 1 else if x = 108 then nI 2 else if x = 107 then nI 3 else if x = 103 then nI 4 else if x = 97 then nI 5 else -1
theorem pu_kv_in {x : Nat} (h : pu_ki x ≤ 5) : pu_kv x = nI (pu_ki x) := by
  unfold pu_ki at h ⊢
  unfold pu_kv
  repeat' split
  all_goals first | rfl | (simp_all)
theorem pu_kv_out {x : Nat} (h : ¬ pu_ki x ≤ 5) : pu_kv x = -1 := by
  unfold pu_ki at h
  unfold pu_kv
  repeat' split
  all_goals first | rfl | (simp_all)
/-- 0 a digit, 1 a kind's letter, 2 the end of a statement -/
def pu_su (k x : Nat) : Bool := if k = 0 then decide (48 ≤ x ∧ x ≤ 57) else if k = 1 then decide (pu_ki x ≤ 5) else decide (x = 59)
def pu_fot (x : Nat) : Nat := if x = 98 then 1 else if x = 99 then 2 else if x = 100 then 0 else if x = 104 then 3 else if x = 111 then 2 else if x = 120 then 4 else 5
def pu_fm (q : Nat) : List Nat := match q with
  | 0 => [1, 0, 0, 0, 0, 0, 2]
  | 1 => [0, 0, 0, 0, 0, 0, 0, 2]
  | 2 => [0, 0, 0, 2]
  | 3 => [0, 2]
  | 4 => [0, 0, 2]
  | _ => []
def pu_chc (k : Nat) : Int32 := if k = 0 then 48 else if k = 1 then 107 else 59
theorem pu_tx_len : ∀ q, q < 6 → (ob_tl q) >>> ((0 : Int32) &&& 31) = nI (pu_fm q).length := by decide
theorem pu_tx_at : ∀ q, q < 5 → ∀ k, k < (pu_fm q).length → (ob_txl.getD q []).getD k 0 = pu_chc ((pu_fm q).getD k 0) ∧ (pu_fm q).getD k 0 ≤ 2 ∧ ob_txn.getD q 0 = (pu_fm q).length := by decide
theorem pu_chc_c : ∀ k, k ≤ 2 → (((pu_chc k &&& 255).toUInt32 % 65536).toInt32) = pu_chc k ∧ ((pu_chc k).toUInt32 % 65536).toInt32 = pu_chc k := by
  intro k hk
  obtain rfl | rfl | rfl : k = 0 ∨ k = 1 ∨ k = 2 := by omega
  · decide
  · decide
  · decide
theorem pu_fm_len (q : Nat) : (pu_fm q).length ≤ 8 := by
  unfold pu_fm
  split <;> decide
theorem pu_lenS {q : Nat} (hq : q < 6) (σ : ob_St) : ob_tg q (f_J0_length_8abf5 q σ) = some (nI (pu_fm q).length, σ) := by
  have c : f_J0_coder_7d493 q σ = some (0, σ) := by
    unfold f_J0_coder_7d493
    rw [if_neg (by decide)]
    unfold ob_rby
    rw [if_pos (by decide)]
  unfold ob_tg f_J0_length_8abf5
  rw [if_pos (by omega), pu_bd' _ c, pu_tx_len q hq]
theorem pu_isLat (q : Nat) (σ : ob_St) : f_J0_isLatin1_aae02 q σ = some (1, σ) := by
  unfold f_J0_isLatin1_aae02
  rw [if_neg (by decide), if_pos rfl]
  rfl
theorem pu_charS {q k : Nat} (hq : q < 5) (hk : k < (pu_fm q).length) (σ : ob_St) : ob_tg q (f_J0_charAt_5068e q σ (nI k)) = some (pu_chc ((pu_fm q).getD k 0), σ) := by
  obtain ⟨e1, e2, e3⟩ := pu_tx_at q hq k hk
  obtain ⟨c1, c2⟩ := pu_chc_c _ e2
  have hl := pu_fm_len q
  have tl : ob_tl q = nI (pu_fm q).length := by
    unfold ob_tl
    rw [e3]
    rfl
  have ci : f_J0_checkIndex_df160 σ (nI k) (ob_tl q) = some ((), σ) := by
    unfold f_J0_checkIndex_df160 f_J3_checkIndex_8e157
    rw [tl, if_neg (nI_pos (by omega)), if_pos (nI_lt hk (by omega)), pu_bd]
  have c1' : f_J1_charAt_3b067 q σ (nI k) = some (pu_chc ((pu_fm q).getD k 0), σ) := by
    unfold f_J1_charAt_3b067
    rw [pu_bd' _ ci]
    unfold ob_ltx
    rw [e3, if_pos (pu_in hk (by omega)), nI_clamp (by omega), e1]
    show ob_rc _ σ = _
    rw [c1]
    unfold ob_rc
    rw [if_pos c2]
  unfold ob_tg f_J0_charAt_5068e
  rw [if_pos (by omega), pu_bd' _ (pu_isLat q σ), if_neg (by decide), pu_bd' _ c1']
  unfold ob_rc
  rw [if_pos c2]
theorem pu_b8 : ∀ x, x < 256 → (decide ((100 : Int32) = (nI x).toInt8.toInt32) = decide (x = 100)) ∧ (decide ((115 : Int32) = (nI x).toInt8.toInt32) = decide (x = 115)) ∧ (decide ((108 : Int32) = (nI x).toInt8.toInt32) = decide (x = 108)) ∧ (decide ((107 : Int32) = (nI x).toInt8.toInt32) = decide (x = 107)) ∧ (decide ((103 : Int32) = (nI x).toInt8.toInt32) = decide (x = 103)) ∧ (decide ((97 : Int32) = (nI x).toInt8.toInt32) = decide (x = 97)) := by decide +kernel
theorem pu_idxL {σ : ob_St} {v : Int32} : ∀ (j n : Nat), j < 6 → L_J1_indexOfChar_4cfef_7 6 (n + 1) σ 6 v (nI j) = if (ob_tx 6).getD j 0 = v then some (nI j, σ) else L_J1_indexOfChar_4cfef_7 6 n σ 6 v (nI (j + 1)) := by
  intro j n hj
  rw [L_J1_indexOfChar_4cfef_7, if_neg (show ¬ (6 : Int32) ≤ nI j from nI_ge (b := 6) (by omega) (by omega))]
  unfold ob_ltx
  rw [if_pos (show ob_in (nI j) (ob_txn.getD 6 0) = true from pu_in (n := 6) (by omega) (by omega)), nI_clamp (by omega), nI_1]
  rfl
theorem pu_idxS {x : Nat} (hx : x ≤ 255) (σ : ob_St) : ob_tg 6 (f_J0_indexOf_0f7a4 6 σ (nI x)) = some (pu_kv x, σ) := by
  have ln : f_J0_length_8abf5 6 σ = some (6, σ) := by
    have c : f_J0_coder_7d493 6 σ = some (0, σ) := by
      unfold f_J0_coder_7d493
      rw [if_neg (by decide)]
      unfold ob_rby
      rw [if_pos (by decide)]
    unfold f_J0_length_8abf5
    rw [pu_bd' _ c, show (ob_tl 6) >>> ((0 : Int32) &&& 31) = 6 from by decide]
  have ce : f_J1_canEncode_9a6ad σ (nI x) = some (1, σ) := by
    unfold f_J1_canEncode_9a6ad
    rw [if_neg (nI_pos (by omega)), if_neg (show ¬ (255 : Int32) < nI x from Int32.not_lt.mpr (nI_le (b := 255) hx (by omega)))]
    rfl
  obtain ⟨b1, b2, b3, b4, b5, b6⟩ := pu_b8 x (by omega)
  rw [decide_eq_decide] at b1 b2 b3 b4 b5 b6
  have lp : L_J1_indexOfChar_4cfef_7 6 1000 σ 6 ((nI x).toInt8.toInt32) (nI 0) = some (pu_kv x, σ) := by
    have s0 := pu_idxL (σ := σ) (v := (nI x).toInt8.toInt32) 0 999 (by omega)
    have s1 := pu_idxL (σ := σ) (v := (nI x).toInt8.toInt32) 1 998 (by omega)
    have s2 := pu_idxL (σ := σ) (v := (nI x).toInt8.toInt32) 2 997 (by omega)
    have s3 := pu_idxL (σ := σ) (v := (nI x).toInt8.toInt32) 3 996 (by omega)
    have s4 := pu_idxL (σ := σ) (v := (nI x).toInt8.toInt32) 4 995 (by omega)
    have s5 := pu_idxL (σ := σ) (v := (nI x).toInt8.toInt32) 5 994 (by omega)
    have s6 : L_J1_indexOfChar_4cfef_7 6 994 σ 6 ((nI x).toInt8.toInt32) (nI 6) = some (-1, σ) := by
      rw [show (994 : Nat) = 993 + 1 from rfl, L_J1_indexOfChar_4cfef_7, if_pos (show (6 : Int32) ≤ nI 6 from nI_le (a := 6) (by omega) (by omega))]
    rw [show (ob_tx 6).getD 0 0 = 100 from rfl] at s0
    rw [show (ob_tx 6).getD 1 0 = 115 from rfl] at s1
    rw [show (ob_tx 6).getD 2 0 = 108 from rfl] at s2
    rw [show (ob_tx 6).getD 3 0 = 107 from rfl] at s3
    rw [show (ob_tx 6).getD 4 0 = 103 from rfl] at s4
    rw [show (ob_tx 6).getD 5 0 = 97 from rfl] at s5
    unfold pu_kv
    refine s0.trans ?_
    by_cases c0 : x = 100
    · rw [if_pos (b1.mpr c0), if_pos c0]
    · rw [if_neg (fun q => c0 (b1.mp q)), if_neg c0]
      refine s1.trans ?_
      by_cases c1 : x = 115
      · rw [if_pos (b2.mpr c1), if_pos c1]
      · rw [if_neg (fun q => c1 (b2.mp q)), if_neg c1]
        refine s2.trans ?_
        by_cases c2 : x = 108
        · rw [if_pos (b3.mpr c2), if_pos c2]
        · rw [if_neg (fun q => c2 (b3.mp q)), if_neg c2]
          refine s3.trans ?_
          by_cases c3 : x = 107
          · rw [if_pos (b4.mpr c3), if_pos c3]
          · rw [if_neg (fun q => c3 (b4.mp q)), if_neg c3]
            refine s4.trans ?_
            by_cases c4 : x = 103
            · rw [if_pos (b5.mpr c4), if_pos c4]
            · rw [if_neg (fun q => c4 (b5.mp q)), if_neg c4]
              refine s5.trans ?_
              by_cases c5 : x = 97
              · rw [if_pos (b6.mpr c5), if_pos c5]
              · rw [if_neg (fun q => c5 (b6.mp q)), if_neg c5]
                exact s6
  have ix : f_J1_indexOf_4cfef 6 σ (nI x) 0 6 = some (pu_kv x, σ) := by
    unfold f_J1_indexOf_4cfef
    rw [pu_bd' _ ce, if_neg (by decide), show ob_max (0 : Int32) 0 = 0 from by decide, show ob_min (6 : Int32) (ob_tl 6) = 6 from by decide, pu_nm, pu_nm, if_pos (by decide)]
    unfold f_J1_indexOfChar_4cfef
    rw [pu_nm]
    have lp' : L_J1_indexOfChar_4cfef_7 6 1000 σ 6 ((nI x).toInt8.toInt32) 0 = some (pu_kv x, σ) := lp
    rw [pu_bd' _ lp']
  have i7 : f_J0_indexOf_7cf53 6 σ (nI x) 0 = some (pu_kv x, σ) := by
    unfold f_J0_indexOf_7cf53
    rw [pu_bd' _ (pu_isLat 6 σ), if_neg (by decide), pu_bd' _ ln, pu_bd' _ ix]
  unfold ob_tg f_J0_indexOf_0f7a4
  rw [if_pos (by decide), pu_bd' _ i7]
theorem pu_cc16 {x : Nat} (hx : x ≤ 255) : ((nI x).toUInt32 % 65536).toInt32 = nI x := by
  rw [pk_char, pk_tn (by omega), Nat.mod_eq_of_lt (by omega)]
theorem pu_suits {k x : Nat} (hk : k ≤ 2) (hx : x ≤ 255) (σ : ob_St) : f_X9_suits σ (nI x) (pu_chc k) = some (if pu_su k x = true then 1 else 0, σ) := by
  unfold f_X9_suits
  obtain rfl | rfl | rfl : k = 0 ∨ k = 1 ∨ k = 2 := by omega
  · rw [show pu_chc 0 = 48 from rfl, if_neg (by decide), if_pos rfl]
    have su : pu_su 0 x = true ↔ (48 ≤ x ∧ x ≤ 57) := decide_eq_true_iff
    by_cases c1 : x < 48
    · rw [if_pos (show nI x < (48 : Int32) from (nI_ltI (b := 48) (by omega) (by omega)).mpr c1), if_neg (fun w => by have := su.mp w; omega)]
      rfl
    · rw [if_neg (show ¬ nI x < (48 : Int32) from fun q => c1 ((nI_ltI (b := 48) (by omega) (by omega)).mp q))]
      by_cases c2 : 57 < x
      · rw [if_pos (show (57 : Int32) < nI x from (nI_ltI (a := 57) (by omega) (by omega)).mpr c2), if_neg (fun w => by have := su.mp w; omega)]
        rfl
      · rw [if_neg (show ¬ (57 : Int32) < nI x from fun q => c2 ((nI_ltI (a := 57) (by omega) (by omega)).mp q)), if_pos (su.mpr (by omega))]
        rfl
  · rw [show pu_chc 1 = 107 from rfl, if_pos rfl, pu_cc16 hx, pu_bd' _ (pu_idxS hx σ)]
    have su : pu_su 1 x = true ↔ pu_ki x ≤ 5 := decide_eq_true_iff
    by_cases c : pu_ki x ≤ 5
    · rw [pu_kv_in c, if_neg (nI_pos (by omega)), if_pos (su.mpr c)]
      rfl
    · rw [pu_kv_out c, if_pos (by decide), if_neg (fun w => c (su.mp w))]
      rfl
  · rw [show pu_chc 2 = 59 from rfl, if_neg (by decide), if_neg (by decide)]
    have su : pu_su 2 x = true ↔ x = 59 := decide_eq_true_iff
    by_cases c : x = 59
    · rw [if_pos (show nI x = (59 : Int32) by rw [c]; rfl), if_pos (su.mpr c)]
      rfl
    · rw [if_neg (show ¬ nI x = (59 : Int32) from fun q => c ((nI_eq (b := 59) (by omega) (by omega)).mp q)), if_neg (fun w => c (su.mp w))]
      rfl
theorem pu_eqL {x s : Nat} {y : Int32} (hx : x ≤ 255) (hs : s ≤ 255) (hy : y = nI s) : (nI x = y) = (x = s) := by
  rw [hy]
  exact propext (nI_eq (by omega) (by omega))
theorem pu_form {x : Nat} (hx : x ≤ 255) (σ : ob_St) : f_X9_formOf σ (nI x) = some (pu_fot x, σ) := by
  unfold f_X9_formOf pu_fot
  by_cases c98 : x = 98
  · rw [if_pos (show nI x = (98 : Int32) by rw [c98]; rfl), if_pos c98]
  · rw [if_neg (show ¬ nI x = (98 : Int32) from fun q => c98 ((nI_eq (b := 98) (by omega) (by omega)).mp q)), if_neg c98]
    by_cases c99 : x = 99
    · rw [if_pos (show nI x = (99 : Int32) by rw [c99]; rfl), if_pos c99]
    · rw [if_neg (show ¬ nI x = (99 : Int32) from fun q => c99 ((nI_eq (b := 99) (by omega) (by omega)).mp q)), if_neg c99]
      by_cases c100 : x = 100
      · rw [if_pos (show nI x = (100 : Int32) by rw [c100]; rfl), if_pos c100]
      · rw [if_neg (show ¬ nI x = (100 : Int32) from fun q => c100 ((nI_eq (b := 100) (by omega) (by omega)).mp q)), if_neg c100]
        by_cases c104 : x = 104
        · rw [if_pos (show nI x = (104 : Int32) by rw [c104]; rfl), if_pos c104]
        · rw [if_neg (show ¬ nI x = (104 : Int32) from fun q => c104 ((nI_eq (b := 104) (by omega) (by omega)).mp q)), if_neg c104]
          by_cases c111 : x = 111
          · rw [if_pos (show nI x = (111 : Int32) by rw [c111]; rfl), if_pos c111]
          · rw [if_neg (show ¬ nI x = (111 : Int32) from fun q => c111 ((nI_eq (b := 111) (by omega) (by omega)).mp q)), if_neg c111]
            by_cases c120 : x = 120
            · rw [if_pos (show nI x = (120 : Int32) by rw [c120]; rfl), if_pos c120]
            · rw [if_neg (show ¬ nI x = (120 : Int32) from fun q => c120 ((nI_eq (b := 120) (by omega) (by omega)).mp q)), if_neg c120]
theorem pu_fot_lt (x : Nat) : pu_fot x < 6 := by
  unfold pu_fot
  repeat' split
  all_goals omega
theorem pu_empt {q : Nat} (hq : q < 6) (σ : ob_St) : ob_tg q (f_J0_isEmpty_aae02 q σ) = some (if q = 5 then 1 else 0, σ) := by
  unfold ob_tg f_J0_isEmpty_aae02
  rw [if_pos (by omega)]
  by_cases c : q = 5
  · rw [if_pos c, if_pos (by rw [c]; decide)]
    rfl
  · have e : ¬ ob_tl q = 0 := by
      obtain rfl | rfl | rfl | rfl | rfl : q = 0 ∨ q = 1 ∨ q = 2 ∨ q = 3 ∨ q = 4 := by omega
      · decide
      · decide
      · decide
      · decide
      · decide
    rw [if_neg c, if_neg e]
    rfl
/-- how far a form is met -/
def pu_ms (t : Nat → Nat) (L : Nat) : List Nat → Nat → Nat
  | [], i => i
  | k :: fm, i => if i < L ∧ pu_su k (t i) = true then pu_ms t L fm (i + 1) else i
/-- the place of the first letter with which no kitchen can go on -/
def pu_p1 (t : Nat → Nat) (L : Nat) : Nat → Nat → Option Nat
  | 0, _ => none
  | n + 1, i => if L ≤ i then none else if pu_fot (t i) = 5 then some i else if pu_ms t L (pu_fm (pu_fot (t i))) (i + 1) = i + 1 + (pu_fm (pu_fot (t i))).length then pu_p1 t L n (i + 1 + (pu_fm (pu_fot (t i))).length) else some (pu_ms t L (pu_fm (pu_fot (t i))) (i + 1))
theorem pu_ms_le (t : Nat → Nat) (L : Nat) : ∀ (fm : List Nat) (i : Nat), i ≤ L → pu_ms t L fm i ≤ L := by
  intro fm
  induction fm with
  | nil => intro i h; exact h
  | cons k fm ih =>
    intro i h
    rw [pu_ms]
    split
    · rename_i c
      exact ih (i + 1) (by omega)
    · exact h
theorem pu_ms_up (t : Nat → Nat) (L : Nat) : ∀ (fm : List Nat) (i : Nat), i ≤ pu_ms t L fm i ∧ pu_ms t L fm i ≤ i + fm.length := by
  intro fm
  induction fm with
  | nil => intro i; exact ⟨Nat.le_refl _, Nat.le_refl _⟩
  | cons k fm ih =>
    intro i
    rw [pu_ms, List.length_cons]
    have := ih (i + 1)
    split <;> omega
section PUT
variable {t : Nat → Nat} {L : Nat} {σ : ob_St}
theorem pu_misA {q : Nat} (hq : q < 5) (hL : L ≤ 96) (hs : σ 28 1 = nI L) (ht : ∀ j, j < L → σ 29 j = nI (t j)) (hb : ∀ j, t j ≤ 255) : ∀ (r : List Nat) (k i m : Nat), (pu_fm q).drop k = r → k ≤ (pu_fm q).length → 1 ≤ i → i ≤ L → L_X9_firstMisplaced_7 (m + r.length) σ q (nI k) (nI i) = if pu_ms t L r i = i + r.length then L_X9_firstMisplaced_7 m σ q (nI (pu_fm q).length) (nI (i + r.length)) else some (nI (pu_ms t L r i), σ) := by
  have hl := pu_fm_len q
  intro r
  induction r with
  | nil =>
    intro k i m hd hk h1 h2
    have e := pu_drop0 hd hk
    rw [pu_ms, if_pos (show i = i + [].length from rfl), e]
    rfl
  | cons x r ih =>
    intro k i m hd hk h1 h2
    obtain ⟨g1, g2, g3⟩ := pu_drop hd
    obtain ⟨-, e2, -⟩ := pu_tx_at q hq k g1
    rw [show m + (x :: r).length = (m + r.length) + 1 from rfl, L_X9_firstMisplaced_7, hs, pu_ms, List.length_cons]
    by_cases c : i < L
    · rw [if_neg (nI_ge c (by omega)), pu_bd' _ (pu_lenS (show q < 6 by omega) σ), if_pos (nI_lt g1 (by omega)), pu_ld (by omega) (by omega), ht i c, pu_bd' _ (pu_charS hq g1 σ), pu_bd' _ (pu_suits e2 (hb i) σ), g2]
      by_cases s : pu_su x (t i) = true
      · have nx := ih (k + 1) (i + 1) m g3 (by omega) (by omega) (by omega)
        rw [if_pos s, if_neg (by decide), nI_1, nI_1, nx, if_pos (show i < L ∧ pu_su x (t i) = true from ⟨c, s⟩)]
        by_cases z : pu_ms t L r (i + 1) = i + 1 + r.length
        · rw [if_pos z, if_pos (by omega), show i + 1 + r.length = i + (r.length + 1) by omega]
        · rw [if_neg z, if_neg (by omega)]
      · rw [if_neg s, if_pos rfl, if_neg (show ¬ (i < L ∧ pu_su x (t i) = true) from fun w => s w.2), if_neg (by omega)]
    · have n0 : ¬ nI L = 0 := fun w => by
        have := (nI_eq (b := 0) (by omega) (by omega)).mp w
        omega
      rw [if_pos (nI_le (by omega) (by omega)), if_neg n0, if_neg (show ¬ (i < L ∧ pu_su x (t i) = true) from fun w => c w.1), if_neg (by omega), pu_bd' _ (pu_lenS (show q < 6 by omega) σ), if_neg (nI_ge g1 (by omega)), hs, show i = L by omega]
theorem pu_misB (hL : L ≤ 96) (h1 : 1 ≤ L) (hs : σ 28 1 = nI L) (ht : ∀ j, j < L → σ 29 j = nI (t j)) (hb : ∀ j, t j ≤ 255) : ∀ (f q i n : Nat), q < 6 → L ≤ i + f → i ≤ L → L + 9 ≤ i + n → L_X9_firstMisplaced_7 n σ q (nI (pu_fm q).length) (nI i) = some (match pu_p1 t L f i with | none => -1 | some p => nI p, σ) := by
  have n0 : ¬ nI L = 0 := fun w => by
    have := (nI_eq (b := 0) (by omega) (by omega)).mp w
    omega
  have done : ∀ (q i n : Nat), q < 6 → i = L → L_X9_firstMisplaced_7 (n + 1) σ q (nI (pu_fm q).length) (nI i) = some (-1, σ) := by
    intro q i n hq hi
    have hl := pu_fm_len q
    rw [L_X9_firstMisplaced_7, hs, if_pos (nI_le (by omega) (by omega)), if_neg n0, pu_bd' _ (pu_lenS hq σ), if_pos (nI_le (Nat.le_refl _) (by omega))]
  intro f
  induction f with
  | zero =>
    intro q i n hq h2 h3 h4
    obtain ⟨n, rfl⟩ : ∃ z, n = z + 1 := ⟨n - 1, by omega⟩
    rw [done q i n hq (by omega)]
    rfl
  | succ f ih =>
    intro q i n hq h2 h3 h4
    obtain ⟨n, rfl⟩ : ∃ z, n = z + 1 := ⟨n - 1, by omega⟩
    by_cases c : L ≤ i
    · rw [done q i n hq (by omega), pu_p1, if_pos c]
    · have hl := pu_fm_len q
      have hl2 := pu_fm_len (pu_fot (t i))
      have hq2 := pu_fot_lt (t i)
      rw [L_X9_firstMisplaced_7, hs, if_neg (nI_ge (by omega) (by omega)), pu_bd' _ (pu_lenS hq σ), if_neg (show ¬ nI (pu_fm q).length < nI (pu_fm q).length from Int32.lt_irrefl), pu_ld (by omega) (by omega), ht i (by omega), pu_bd' _ (pu_form (hb i) σ), pu_bd' _ (pu_empt hq2 σ), pu_p1, if_neg c]
      by_cases c5 : pu_fot (t i) = 5
      · rw [if_pos c5, if_pos c5, if_neg (by decide)]
      · rw [if_neg c5, if_neg c5, if_pos rfl, nI_1]
        have a := pu_misA (σ := σ) (q := pu_fot (t i)) (by omega) hL hs ht hb (pu_fm (pu_fot (t i))) 0 (i + 1) (n - (pu_fm (pu_fot (t i))).length) rfl (Nat.zero_le _) (by omega) (by omega)
        rw [Nat.sub_add_cancel (by omega)] at a
        have a' : L_X9_firstMisplaced_7 n σ (pu_fot (t i)) 0 (nI (i + 1)) = _ := a
        rw [a']
        by_cases z : pu_ms t L (pu_fm (pu_fot (t i))) (i + 1) = i + 1 + (pu_fm (pu_fot (t i))).length
        · have := pu_ms_le t L (pu_fm (pu_fot (t i))) (i + 1) (by omega)
          rw [if_pos z, if_pos z]
          exact ih _ _ _ hq2 (by omega) (by omega) (by omega)
        · rw [if_neg z, if_neg z]
/-- the class's first reading -/
theorem pu_misX (hL : L ≤ 96) (hs : σ 28 1 = nI L) (ht : ∀ j, j < L → σ 29 j = nI (t j)) (hb : ∀ j, t j ≤ 255) : f_X9_firstMisplaced σ = some (if L = 0 then nI 0 else match pu_p1 t L L 0 with | none => -1 | some p => nI p, σ) := by
  unfold f_X9_firstMisplaced
  by_cases c : L = 0
  · rw [if_pos c, show (1000 : Nat) = 999 + 1 from rfl, L_X9_firstMisplaced_7, hs, c, if_pos (show nI 0 ≤ 0 by decide), if_pos (show nI 0 = 0 by decide)]
  · rw [if_neg c]
    exact pu_misB hL (by omega) hs ht hb L 5 0 1000 (by omega) (by omega) (by omega) (by omega)
end PUT
