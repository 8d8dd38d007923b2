/-! ALL ORDERS: the next one, and the list of all -/
def pu_tn (o : Nat → Nat) : Nat → Nat
  | 0 => 0
  | i + 1 => if o i ≤ o (i + 1) then i + 1 else pu_tn o i
def pu_nc (o : Nat → Nat) (t : Nat) : Nat → Nat
  | 0 => 0
  | j + 1 => if j + 1 ≤ t ∨ o t ≤ o (j + 1) then j + 1 else pu_nc o t j
def pu_sp (o : Nat → Nat) (i j : Nat) : Nat → Nat := fun x => if x = j then o i else if x = i then o j else o x
def pu_rv : Nat → (Nat → Nat) → Nat → Nat → (Nat → Nat)
  | 0, o, _, _ => o
  | k + 1, o, i, j => if j ≤ i then o else pu_rv k (pu_sp o i j) (i + 1) (j - 1)
def pu_nx1 (d : Nat) (o : Nat → Nat) (t : Nat) : Nat → Nat := pu_rv 6 (pu_sp o t (pu_nc o t (d - 1))) (t + 1) (d - 1)
/-- an order as a number: a digit to base 8 for each place -/
def pu_oc (c j : Nat) : Nat := c / 8 ^ j % 8
def pu_vl (d c : Nat) : Bool := (List.range d).all (fun j => decide (pu_oc c j < d)) && (List.range d).all (fun x => (List.range d).any (fun j => decide (pu_oc c j = x)))
def pu_sn (d c c2 : Nat) : Bool := match pu_tn (pu_oc c) (d - 1) with
  | 0 => false
  | t + 1 => (List.range d).all (fun j => decide (pu_nx1 d (pu_oc c) t j = pu_oc c2 j))
def pu_chk (d : Nat) : List Nat → Nat → Bool
  | [], c => pu_vl d c && decide (pu_tn (pu_oc c) (d - 1) = 0)
  | c2 :: l, c => pu_vl d c && pu_sn d c c2 && pu_chk d l c2
def pu_sq0 : List Nat := []
def pu_sq1 : List Nat := []
def pu_sq2 : List Nat := [1]
def pu_sq3 : List Nat := [80, 129, 17, 66, 10]
def pu_sq4 : List Nat := [1224, 1616, 720, 1112, 664, 1665, 1217, 1553, 209, 1049, 153, 1602, 706, 1546, 202, 538, 90, 1091, 643, 1035, 139, 531, 83]
def pu_sq5 : List Nat := [14472, 17608, 10440, 13576, 9992, 18000, 14416, 17104, 6352, 13072, 5904, 17496, 10328, 17048, 6296, 8984, 5400, 13408, 9824, 12960, 5792, 8928, 5344, 18049, 14465, 17601, 10433, 13569, 9985, 17937, 14353, 16593, 2257, 12561, 1809, 17433, 10265, 16537, 2201, 8473, 1305, 13345, 9761, 12449, 1697, 8417, 1249, 17986, 14402, 17090, 6338, 13058, 5890, 17930, 14346, 16586, 2250, 12554, 1802, 16922, 6170, 16474, 2138, 4378, 794, 12834, 5666, 12386, 1634, 4322, 738, 17475, 10307, 17027, 6275, 8963, 5379, 17419, 10251, 16523, 2187, 8459, 1291, 16915, 6163, 16467, 2131, 4371, 787, 8739, 5155, 8291, 1123, 4259, 675, 13380, 9796, 12932, 5764, 8900, 5316, 13324, 9740, 12428, 1676, 8396, 1228, 12820, 5652, 12372, 1620, 4308, 724, 8732, 5148, 8284, 1116, 4252, 668]
def pu_sq6 : List Nat := [153224, 178312, 120968, 146056, 117384, 181448, 152776, 174280, 88264, 142024, 84680, 177416, 120072, 173832, 87816, 109320, 80648, 144712, 116040, 141128, 83784, 108872, 80200, 181840, 153168, 178256, 120912, 146000, 117328, 180944, 152272, 170192, 55504, 137936, 51920, 176912, 119568, 169744, 55056, 105232, 47888, 144208, 115536, 137040, 51024, 104784, 47440, 181336, 152664, 174168, 88152, 141912, 84568, 180888, 152216, 170136, 55448, 137880, 51864, 172824, 86808, 169240, 54552, 72472, 43800, 140120, 82776, 136536, 50520, 72024, 43352, 177248, 119904, 173664, 87648, 109152, 80480, 176800, 119456, 169632, 54944, 105120, 47776, 172768, 86752, 169184, 54496, 72416, 43744, 107360, 78688, 103776, 46432, 71520, 42848, 144488, 115816, 140904, 83560, 108648, 79976, 144040, 115368, 136872, 50856, 104616, 47272, 140008, 82664, 136424, 50408, 71912, 43240, 107304, 78632, 103720, 46376, 71464, 42792, 181889, 153217, 178305, 120961, 146049, 117377, 181441, 152769, 174273, 88257, 142017, 84673, 177409, 120065, 173825, 87809, 109313, 80641, 144705, 116033, 141121, 83777, 108865, 80193, 181777, 153105, 178193, 120849, 145937, 117265, 180433, 151761, 166097, 22737, 133841, 19153, 176401, 119057, 165649, 22289, 101137, 15121, 143697, 115025, 132945, 18257, 100689, 14673, 181273, 152601, 174105, 88089, 141849, 84505, 180377, 151705, 166041, 22681, 133785, 19097, 172313, 86297, 165145, 21785, 68377, 11033, 139609, 82265, 132441, 17753, 67929, 10585, 177185, 119841, 173601, 87585, 109089, 80417, 176289, 118945, 165537, 22177, 101025, 15009, 172257, 86241, 165089, 21729, 68321, 10977, 106849, 78177, 99681, 13665, 67425, 10081, 144425, 115753, 140841, 83497, 108585, 79913, 143529, 114857, 132777, 18089, 100521, 14505, 139497, 82153, 132329, 17641, 67817, 10473, 106793, 78121, 99625, 13609, 67369, 10025, 181826, 153154, 178242, 120898, 145986, 117314, 180930, 152258, 170178, 55490, 137922, 51906, 176898, 119554, 169730, 55042, 105218, 47874, 144194, 115522, 137026, 51010, 104770, 47426, 181770, 153098, 178186, 120842, 145930, 117258, 180426, 151754, 166090, 22730, 133834, 19146, 176394, 119050, 165642, 22282, 101130, 15114, 143690, 115018, 132938, 18250, 100682, 14666, 180762, 152090, 170010, 55322, 137754, 51738, 180314, 151642, 165978, 22618, 133722, 19034, 168218, 53530, 164634, 21274, 35610, 6938, 135514, 49498, 131930, 17242, 35162, 6490, 176674, 119330, 169506, 54818, 104994, 47650, 176226, 118882, 165474, 22114, 100962, 14946, 168162, 53474, 164578, 21218, 35554, 6882, 102754, 45410, 99170, 13154, 34658, 5986, 143914, 115242, 136746, 50730, 104490, 47146, 143466, 114794, 132714, 18026, 100458, 14442, 135402, 49386, 131818, 17130, 35050, 6378, 102698, 45354, 99114, 13098, 34602, 5930, 181315, 152643, 174147, 88131, 141891, 84547, 180867, 152195, 170115, 55427, 137859, 51843, 172803, 86787, 169219, 54531, 72451, 43779, 140099, 82755, 136515, 50499, 72003, 43331, 181259, 152587, 174091, 88075, 141835, 84491, 180363, 151691, 166027, 22667, 133771, 19083, 172299, 86283, 165131, 21771, 68363, 11019, 139595, 82251, 132427, 17739, 67915, 10571, 180755, 152083, 170003, 55315, 137747, 51731, 180307, 151635, 165971, 22611, 133715, 19027, 168211, 53523, 164627, 21267, 35603, 6931, 135507, 49491, 131923, 17235, 35155, 6483, 172579, 86563, 168995, 54307, 72227, 43555, 172131, 86115, 164963, 21603, 68195, 10851, 168099, 53411, 164515, 21155, 35491, 6819, 69987, 41315, 66403, 9059, 34147, 5475, 139819, 82475, 136235, 50219, 71723, 43051, 139371, 82027, 132203, 17515, 67691, 10347, 135339, 49323, 131755, 17067, 34987, 6315, 69931, 41259, 66347, 9003, 34091, 5419, 177220, 119876, 173636, 87620, 109124, 80452, 176772, 119428, 169604, 54916, 105092, 47748, 172740, 86724, 169156, 54468, 72388, 43716, 107332, 78660, 103748, 46404, 71492, 42820, 177164, 119820, 173580, 87564, 109068, 80396, 176268, 118924, 165516, 22156, 101004, 14988, 172236, 86220, 165068, 21708, 68300, 10956, 106828, 78156, 99660, 13644, 67404, 10060, 176660, 119316, 169492, 54804, 104980, 47636, 176212, 118868, 165460, 22100, 100948, 14932, 168148, 53460, 164564, 21204, 35540, 6868, 102740, 45396, 99156, 13140, 34644, 5972, 172572, 86556, 168988, 54300, 72220, 43548, 172124, 86108, 164956, 21596, 68188, 10844, 168092, 53404, 164508, 21148, 35484, 6812, 69980, 41308, 66396, 9052, 34140, 5468, 107052, 78380, 103468, 46124, 71212, 42540, 106604, 77932, 99436, 13420, 67180, 9836, 102572, 45228, 98988, 12972, 34476, 5804, 69868, 41196, 66284, 8940, 34028, 5356, 144453, 115781, 140869, 83525, 108613, 79941, 144005, 115333, 136837, 50821, 104581, 47237, 139973, 82629, 136389, 50373, 71877, 43205, 107269, 78597, 103685, 46341, 71429, 42757, 144397, 115725, 140813, 83469, 108557, 79885, 143501, 114829, 132749, 18061, 100493, 14477, 139469, 82125, 132301, 17613, 67789, 10445, 106765, 78093, 99597, 13581, 67341, 9997, 143893, 115221, 136725, 50709, 104469, 47125, 143445, 114773, 132693, 18005, 100437, 14421, 135381, 49365, 131797, 17109, 35029, 6357, 102677, 45333, 99093, 13077, 34581, 5909, 139805, 82461, 136221, 50205, 71709, 43037, 139357, 82013, 132189, 17501, 67677, 10333, 135325, 49309, 131741, 17053, 34973, 6301, 69917, 41245, 66333, 8989, 34077, 5405, 107045, 78373, 103461, 46117, 71205, 42533, 106597, 77925, 99429, 13413, 67173, 9829, 102565, 45221, 98981, 12965, 34469, 5797, 69861, 41189, 66277, 8933, 34021, 5349]
def pu_c0 : Nat := 181896
set_option maxRecDepth 100000 in
theorem pu_chk0 : pu_chk 0 pu_sq0 pu_c0 = true ∧ pu_sq0.length ≤ 719 := by decide +kernel
set_option maxRecDepth 100000 in
theorem pu_chk1 : pu_chk 1 pu_sq1 pu_c0 = true ∧ pu_sq1.length ≤ 719 := by decide +kernel
set_option maxRecDepth 100000 in
theorem pu_chk2 : pu_chk 2 pu_sq2 pu_c0 = true ∧ pu_sq2.length ≤ 719 := by decide +kernel
set_option maxRecDepth 100000 in
theorem pu_chk3 : pu_chk 3 pu_sq3 pu_c0 = true ∧ pu_sq3.length ≤ 719 := by decide +kernel
set_option maxRecDepth 100000 in
theorem pu_chk4 : pu_chk 4 pu_sq4 pu_c0 = true ∧ pu_sq4.length ≤ 719 := by decide +kernel
set_option maxRecDepth 100000 in
theorem pu_chk5 : pu_chk 5 pu_sq5 pu_c0 = true ∧ pu_sq5.length ≤ 719 := by decide +kernel
set_option maxRecDepth 100000 in
theorem pu_chk6 : pu_chk 6 pu_sq6 pu_c0 = true ∧ pu_sq6.length ≤ 719 := by decide +kernel
theorem pu_chks {d : Nat} (h : d ≤ 6) : ∃ l, pu_chk d l pu_c0 = true ∧ l.length ≤ 719 := by
  obtain rfl | rfl | rfl | rfl | rfl | rfl | rfl : d = 0 ∨ d = 1 ∨ d = 2 ∨ d = 3 ∨ d = 4 ∨ d = 5 ∨ d = 6 := by omega
  · exact ⟨_, pu_chk0⟩
  · exact ⟨_, pu_chk1⟩
  · exact ⟨_, pu_chk2⟩
  · exact ⟨_, pu_chk3⟩
  · exact ⟨_, pu_chk4⟩
  · exact ⟨_, pu_chk5⟩
  · exact ⟨_, pu_chk6⟩
theorem pu_c0_id : ∀ j, j < 6 → pu_oc pu_c0 j = j := by decide +kernel
theorem pu_vl_ord {K : pu_K} {c : Nat} (h : pu_vl (K 0 0) c = true) : pu_ord K (pu_oc c) := by
  unfold pu_vl at h
  rw [Bool.and_eq_true, List.all_eq_true, List.all_eq_true] at h
  refine ⟨fun j hj => by simpa using h.1 j (List.mem_range.mpr hj), fun x hx => ?_⟩
  have := h.2 x (List.mem_range.mpr hx)
  rw [List.any_eq_true] at this
  obtain ⟨j, hj, e⟩ := this
  exact ⟨j, List.mem_range.mp hj, by simpa using e⟩
theorem pu_sn_nx {d c c2 : Nat} (h : pu_sn d c c2 = true) : ∃ t, pu_tn (pu_oc c) (d - 1) = t + 1 ∧ ∀ j, j < d → pu_nx1 d (pu_oc c) t j = pu_oc c2 j := by
  unfold pu_sn at h
  cases e : pu_tn (pu_oc c) (d - 1) with
  | zero =>
    rw [e] at h
    have h' : false = true := h
    cases h'
  | succ t =>
    rw [e] at h
    have h' : (List.range d).all (fun j => decide (pu_nx1 d (pu_oc c) t j = pu_oc c2 j)) = true := h
    rw [List.all_eq_true] at h'
    exact ⟨t, rfl, fun j hj => by simpa using h' j (List.mem_range.mpr hj)⟩
theorem pu_tn_le (o : Nat → Nat) : ∀ i, pu_tn o i ≤ i := by
  intro i
  induction i with
  | zero => exact Nat.le_refl _
  | succ i ih => rw [pu_tn]; split <;> omega
theorem pu_nc_le (o : Nat → Nat) (t : Nat) : ∀ j, pu_nc o t j ≤ j := by
  intro j
  induction j with
  | zero => exact Nat.le_refl _
  | succ j ih => rw [pu_nc]; split <;> omega
theorem pu_m1 (n : Nat) : nI (n + 1) + (-1) = nI n := pk_m1 n
/-! the same, of the class -/
theorem pu_spX {σ : ob_St} {d i j : Nat} {o : Nat → Nat} (hd : d ≤ 6) (hi : i < d) (hj : j < d) (ho : ∀ x, x < d → σ 48 x = nI (o x)) : ∃ σ', f_X5_swapPlaces σ (nI i) (nI j) = some ((), σ') ∧ (∀ q, q ≠ 48 → σ' q = σ q) ∧ ∀ x, x < d → σ' 48 x = nI (pu_sp o i j x) := by
  refine ⟨ob_up (ob_up σ 48 i (σ 48 j)) 48 j (σ 48 i), ?_, fun q hq => by rw [pu_un _ _ _ _ hq, pu_un _ _ _ _ hq], fun x hx => ?_⟩
  · unfold f_X5_swapPlaces
    rw [pu_ld (by omega) (by omega), pu_ld (by omega) (by omega), pu_sd (by omega) (by omega), pu_sd (by omega) (by omega)]
  · unfold pu_sp
    by_cases a : x = j
    · rw [if_pos a, a, pu_uss, ho i hi]
    · rw [if_neg a, pu_usn _ _ _ _ a]
      by_cases b : x = i
      · rw [if_pos b, b, pu_uss, ho j hj]
      · rw [if_neg b, pu_usn _ _ _ _ b, ho x hx]
theorem pu_rvX {d : Nat} (hd : d ≤ 6) : ∀ (k i j n : Nat) (o : Nat → Nat) (σ : ob_St), j ≤ i + k → i + k ≤ 20 → j < d → k < n → (∀ x, x < d → σ 48 x = nI (o x)) → ∃ σ', L_X5_advance_91 n σ (nI i) (nI j) = some (1, σ') ∧ (∀ q, q ≠ 48 → σ' q = σ q) ∧ ∀ x, x < d → σ' 48 x = nI (pu_rv k o i j x) := by
  intro k
  induction k with
  | zero =>
    intro i j n o σ h1 h0 h2 h3 ho
    obtain ⟨n, rfl⟩ : ∃ z, n = z + 1 := ⟨n - 1, by omega⟩
    exact ⟨σ, by rw [L_X5_advance_91, if_pos (nI_le (by omega) (by omega))]; rfl, fun _ _ => rfl, ho⟩
  | succ k ih =>
    intro i j n o σ h1 h0 h2 h3 ho
    obtain ⟨n, rfl⟩ : ∃ z, n = z + 1 := ⟨n - 1, by omega⟩
    by_cases c : j ≤ i
    · refine ⟨σ, by rw [L_X5_advance_91, if_pos (nI_le c (by omega))]; rfl, fun _ _ => rfl, fun x hx => ?_⟩
      rw [pu_rv, if_pos c]
      exact ho x hx
    · obtain ⟨σ1, a1, a2, a3⟩ := pu_spX hd (show i < d by omega) h2 ho
      obtain ⟨j, rfl⟩ : ∃ z, j = z + 1 := ⟨j - 1, by omega⟩
      obtain ⟨σ2, b1, b2, b3⟩ := ih (i + 1) j n (pu_sp o i (j + 1)) σ1 (by omega) (by omega) (by omega) (by omega) a3
      refine ⟨σ2, ?_, fun q hq => by rw [b2 q hq, a2 q hq], fun x hx => ?_⟩
      · rw [L_X5_advance_91, if_neg (nI_ge (by omega) (by omega)), pu_bd' _ a1, nI_1, pu_m1]
        exact b1
      · rw [b3 x hx, pu_rv, if_neg c, Nat.add_sub_cancel]
noncomputable def pu_tlX (σ : ob_St) (t j : Nat) : Option (Int32 × ob_St) :=
  ob_bd (f_X5_swapPlaces σ (nI t) (nI j)) fun _ σ4 =>
  ob_nm (nI t + 1) fun v_5 =>
  ob_nm ((σ4 47 1) - 1) fun v_6 =>
  L_X5_advance_91 1000 σ4 v_5 v_6
theorem pu_ncX {σ : ob_St} {d t : Nat} {o : Nat → Nat} (hd : d ≤ 6) (ho : ∀ x, x < d → σ 48 x = nI (o x)) (hb : ∀ x, x < d → o x ≤ 9) : ∀ (j n : Nat), t ≤ j → j < d → j < n → L_X5_advance_47 n σ (nI t) (nI j) = pu_tlX σ t (pu_nc o t j) := by
  intro j
  induction j with
  | zero =>
    intro n h1 h2 h3
    obtain ⟨n, rfl⟩ : ∃ z, n = z + 1 := ⟨n - 1, by omega⟩
    obtain rfl : t = 0 := by omega
    rw [L_X5_advance_47, if_pos (nI_le (Nat.le_refl _) (by omega)), pu_nc]
    rfl
  | succ j ih =>
    intro n h1 h2 h3
    obtain ⟨n, rfl⟩ : ∃ z, n = z + 1 := ⟨n - 1, by omega⟩
    have b1 := hb t (by omega)
    have b2 := hb (j + 1) h2
    rw [L_X5_advance_47, pu_nc]
    by_cases c : j + 1 ≤ t
    · rw [if_pos (nI_le c (by omega)), if_pos (Or.inl c)]
      rfl
    · rw [if_neg (nI_ge (by omega) (by omega)), pu_ld (by omega) (by omega), pu_ld (by omega) (by omega), ho (j + 1) h2, ho t (by omega)]
      by_cases c2 : o t ≤ o (j + 1)
      · rw [if_pos (nI_le c2 (by omega)), if_pos (Or.inr c2)]
        rfl
      · rw [if_neg (nI_ge (by omega) (by omega)), if_neg (by omega), pu_m1]
        exact ih n (by omega) (by omega) (by omega)
theorem pu_nxX {σ : ob_St} {d : Nat} {o : Nat → Nat} (hd : d ≤ 6) (hk : σ 47 1 = nI d) (ho : ∀ x, x < d → σ 48 x = nI (o x)) (hb : ∀ x, x < d → o x ≤ 9) : (pu_tn o (d - 1) = 0 → f_X5_advance σ = some (0, σ)) ∧ ∀ t, pu_tn o (d - 1) = t + 1 → ∃ σ', f_X5_advance σ = some (1, σ') ∧ (∀ q, q ≠ 48 → σ' q = σ q) ∧ ∀ x, x < d → σ' 48 x = nI (pu_nx1 d o t x) := by
  have key : ∀ (i n : Nat), i + 1 ≤ d → i < n → L_X5_advance_7 n σ (nI i - 1) = if pu_tn o i = 0 then some (0, σ) else L_X5_advance_47 1000 σ (nI (pu_tn o i - 1)) (nI d - 1) := by
    intro i
    induction i with
    | zero =>
      intro n h1 h2
      obtain ⟨n, rfl⟩ : ∃ z, n = z + 1 := ⟨n - 1, by omega⟩
      rw [L_X5_advance_7, if_pos (by decide), J_X5_advance_34_7, if_neg (by decide), pu_tn, if_pos rfl]
      rfl
    | succ i ih =>
      intro n h1 h2
      obtain ⟨n, rfl⟩ : ∃ z, n = z + 1 := ⟨n - 1, by omega⟩
      have b1 := hb i (by omega)
      have b2 := hb (i + 1) (by omega)
      rw [show nI (i + 1) - 1 = nI i from pk_sub (b := 1) (by omega), L_X5_advance_7, if_neg (nI_pos (by omega)), pu_ld (by omega) (by omega), nI_1, pu_ld (by omega) (by omega), ho i (by omega), ho (i + 1) (by omega), pu_tn]
      by_cases c : o i ≤ o (i + 1)
      · rw [if_pos (nI_le c (by omega)), if_pos c, if_neg (by omega), J_X5_advance_34_7, if_pos (nI_pos' (by omega)), hk]
        rfl
      · rw [if_neg (nI_ge (by omega) (by omega)), if_neg c, ← Int32.sub_eq_add_neg]
        exact ih n (by omega) (by omega)
  by_cases d0 : d = 0
  · have e : pu_tn o (d - 1) = 0 := by rw [d0]; rfl
    refine ⟨fun _ => ?_, fun t h => by rw [e] at h; omega⟩
    unfold f_X5_advance
    rw [hk, d0, pu_nm, show (1000 : Nat) = 999 + 1 from rfl, L_X5_advance_7, if_pos (by decide), J_X5_advance_34_7, if_neg (by decide)]
    rfl
  · have k := key (d - 1) 1000 (by omega) (by omega)
    have ad : f_X5_advance σ = L_X5_advance_7 1000 σ (nI (d - 1) - 1) := by
      unfold f_X5_advance
      rw [hk, pu_nm, ← pk_sub (show 1 ≤ d by omega), Int32.sub_eq_add_neg, Int32.sub_eq_add_neg, Int32.sub_eq_add_neg, Int32.add_assoc]
      rfl
    rw [ad, k]
    refine ⟨fun e => by rw [if_pos e], fun t e => ?_⟩
    have tl := pu_tn_le o (d - 1)
    have nl := pu_nc_le o t (d - 1)
    rw [if_neg (by omega), e, Nat.add_sub_cancel, show nI d - 1 = nI (d - 1) from pk_sub (b := 1) (by omega), pu_ncX hd ho hb (d - 1) 1000 (by omega) (by omega) (by omega)]
    unfold pu_tlX
    obtain ⟨σ1, a1, a2, a3⟩ := pu_spX hd (show t < d by omega) (show pu_nc o t (d - 1) < d by omega) ho
    obtain ⟨σ2, r1, r2, r3⟩ := pu_rvX hd 6 (t + 1) (d - 1) 1000 _ σ1 (by omega) (by omega) (by omega) (by omega) a3
    refine ⟨σ2, ?_, fun q hq => by rw [r2 q hq, a2 q hq], r3⟩
    rw [pu_bd' _ a1, pu_nm, pu_nm, nI_1, a2 47 (by decide), hk, show nI d - 1 = nI (d - 1) from pk_sub (b := 1) (by omega)]
    exact r1
/-! the same, of the reference -/
theorem pu_spM {σ : ob_St} {d i j : Nat} {o : Nat → Nat} (hd : d ≤ 6) (hi : i < d) (hj : j < d) (ho : ∀ x, x < d → σ 6 x = nI (o x)) : ∃ σ', f_X11_swap σ (nI i) (nI j) = some ((), σ') ∧ (∀ q, q ≠ 6 → σ' q = σ q) ∧ ∀ x, x < d → σ' 6 x = nI (pu_sp o i j x) := by
  refine ⟨ob_up (ob_up σ 6 i (σ 6 j)) 6 j (σ 6 i), ?_, fun q hq => by rw [pu_un _ _ _ _ hq, pu_un _ _ _ _ hq], fun x hx => ?_⟩
  · unfold f_X11_swap
    rw [pu_ld (by omega) (by omega), pu_ld (by omega) (by omega), pu_sd (by omega) (by omega), pu_sd (by omega) (by omega)]
  · unfold pu_sp
    by_cases a : x = j
    · rw [if_pos a, a, pu_uss, ho i hi]
    · rw [if_neg a, pu_usn _ _ _ _ a]
      by_cases b : x = i
      · rw [if_pos b, b, pu_uss, ho j hj]
      · rw [if_neg b, pu_usn _ _ _ _ b, ho x hx]
theorem pu_rvM {d : Nat} (hd : d ≤ 6) : ∀ (k i j n : Nat) (o : Nat → Nat) (σ : ob_St), j ≤ i + k → i + k ≤ 20 → j < d → k < n → (∀ x, x < d → σ 6 x = nI (o x)) → ∃ σ', L_X11_next_86 n σ (nI i) (nI j) = some (1, σ') ∧ (∀ q, q ≠ 6 → σ' q = σ q) ∧ ∀ x, x < d → σ' 6 x = nI (pu_rv k o i j x) := by
  intro k
  induction k with
  | zero =>
    intro i j n o σ h1 h0 h2 h3 ho
    obtain ⟨n, rfl⟩ : ∃ z, n = z + 1 := ⟨n - 1, by omega⟩
    exact ⟨σ, by rw [L_X11_next_86, if_pos (nI_le (by omega) (by omega))]; rfl, fun _ _ => rfl, ho⟩
  | succ k ih =>
    intro i j n o σ h1 h0 h2 h3 ho
    obtain ⟨n, rfl⟩ : ∃ z, n = z + 1 := ⟨n - 1, by omega⟩
    by_cases c : j ≤ i
    · refine ⟨σ, by rw [L_X11_next_86, if_pos (nI_le c (by omega))]; rfl, fun _ _ => rfl, fun x hx => ?_⟩
      rw [pu_rv, if_pos c]
      exact ho x hx
    · obtain ⟨σ1, a1, a2, a3⟩ := pu_spM hd (show i < d by omega) h2 ho
      obtain ⟨j, rfl⟩ : ∃ z, j = z + 1 := ⟨j - 1, by omega⟩
      obtain ⟨σ2, b1, b2, b3⟩ := ih (i + 1) j n (pu_sp o i (j + 1)) σ1 (by omega) (by omega) (by omega) (by omega) a3
      refine ⟨σ2, ?_, fun q hq => by rw [b2 q hq, a2 q hq], fun x hx => ?_⟩
      · rw [L_X11_next_86, if_neg (nI_ge (by omega) (by omega)), pu_bd' _ a1, nI_1, pu_m1]
        exact b1
      · rw [b3 x hx, pu_rv, if_neg c, Nat.add_sub_cancel]
noncomputable def pu_tlM (σ : ob_St) (t j : Nat) : Option (Int32 × ob_St) :=
  ob_bd (f_X11_swap σ (nI t) (nI j)) fun _ σ4 =>
  ob_nm (nI t + 1) fun v_5 =>
  ob_nm ((σ4 0 0) - 1) fun v_6 =>
  L_X11_next_86 1000 σ4 v_5 v_6
theorem pu_ncM {σ : ob_St} {d t : Nat} {o : Nat → Nat} (hd : d ≤ 6) (ho : ∀ x, x < d → σ 6 x = nI (o x)) (hb : ∀ x, x < d → o x ≤ 9) : ∀ (j n : Nat), t ≤ j → j < d → j < n → L_X11_next_47 n σ (nI t) (nI j) = pu_tlM σ t (pu_nc o t j) := by
  intro j
  induction j with
  | zero =>
    intro n h1 h2 h3
    obtain ⟨n, rfl⟩ : ∃ z, n = z + 1 := ⟨n - 1, by omega⟩
    obtain rfl : t = 0 := by omega
    rw [L_X11_next_47, pu_ld (by omega) (by omega), pu_ld (by omega) (by omega), if_pos (Int32.le_refl _), pu_nc]
    rfl
  | succ j ih =>
    intro n h1 h2 h3
    obtain ⟨n, rfl⟩ : ∃ z, n = z + 1 := ⟨n - 1, by omega⟩
    have b1 := hb t (by omega)
    have b2 := hb (j + 1) h2
    rw [L_X11_next_47, pu_nc, pu_ld (by omega) (by omega), pu_ld (by omega) (by omega), ho (j + 1) h2, ho t (by omega)]
    by_cases c2 : o t ≤ o (j + 1)
    · rw [if_pos (nI_le c2 (by omega)), if_pos (Or.inr c2)]
      rfl
    · have c1 : ¬ j + 1 ≤ t := fun q => c2 (by rw [show t = j + 1 by omega]; exact Nat.le_refl _)
      rw [if_neg (nI_ge (by omega) (by omega)), if_neg (by omega), pu_m1]
      exact ih n (by omega) (by omega) (by omega)
theorem pu_nxM {σ : ob_St} {d : Nat} {o : Nat → Nat} (hd : d ≤ 6) (hk : σ 0 0 = nI d) (ho : ∀ x, x < d → σ 6 x = nI (o x)) (hb : ∀ x, x < d → o x ≤ 9) : (pu_tn o (d - 1) = 0 → f_X11_next σ = some (0, σ)) ∧ ∀ t, pu_tn o (d - 1) = t + 1 → ∃ σ', f_X11_next σ = some (1, σ') ∧ (∀ q, q ≠ 6 → σ' q = σ q) ∧ ∀ x, x < d → σ' 6 x = nI (pu_nx1 d o t x) := by
  have key : ∀ (i n : Nat), i + 1 ≤ d → i < n → L_X11_next_7 n σ (nI i - 1) = if pu_tn o i = 0 then some (0, σ) else L_X11_next_47 1000 σ (nI (pu_tn o i - 1)) (nI d - 1) := by
    intro i
    induction i with
    | zero =>
      intro n h1 h2
      obtain ⟨n, rfl⟩ : ∃ z, n = z + 1 := ⟨n - 1, by omega⟩
      rw [L_X11_next_7, if_pos (by decide), J_X11_next_34_7, if_neg (by decide), pu_tn, if_pos rfl]
      rfl
    | succ i ih =>
      intro n h1 h2
      obtain ⟨n, rfl⟩ : ∃ z, n = z + 1 := ⟨n - 1, by omega⟩
      have b1 := hb i (by omega)
      have b2 := hb (i + 1) (by omega)
      rw [show nI (i + 1) - 1 = nI i from pk_sub (b := 1) (by omega), L_X11_next_7, if_neg (nI_pos (by omega)), pu_ld (by omega) (by omega), nI_1, pu_ld (by omega) (by omega), ho i (by omega), ho (i + 1) (by omega), pu_tn]
      by_cases c : o i ≤ o (i + 1)
      · rw [if_pos (nI_le c (by omega)), if_pos c, if_neg (by omega), J_X11_next_34_7, if_pos (nI_pos' (by omega)), hk]
        rfl
      · rw [if_neg (nI_ge (by omega) (by omega)), if_neg c, ← Int32.sub_eq_add_neg]
        exact ih n (by omega) (by omega)
  by_cases d0 : d = 0
  · have e : pu_tn o (d - 1) = 0 := by rw [d0]; rfl
    refine ⟨fun _ => ?_, fun t h => by rw [e] at h; omega⟩
    unfold f_X11_next
    rw [hk, d0, pu_nm, show (1000 : Nat) = 999 + 1 from rfl, L_X11_next_7, if_pos (by decide), J_X11_next_34_7, if_neg (by decide)]
    rfl
  · have k := key (d - 1) 1000 (by omega) (by omega)
    have ad : f_X11_next σ = L_X11_next_7 1000 σ (nI (d - 1) - 1) := by
      unfold f_X11_next
      rw [hk, pu_nm, ← pk_sub (show 1 ≤ d by omega), Int32.sub_eq_add_neg, Int32.sub_eq_add_neg, Int32.sub_eq_add_neg, Int32.add_assoc]
      rfl
    rw [ad, k]
    refine ⟨fun e => by rw [if_pos e], fun t e => ?_⟩
    have tl := pu_tn_le o (d - 1)
    have nl := pu_nc_le o t (d - 1)
    rw [if_neg (by omega), e, Nat.add_sub_cancel, show nI d - 1 = nI (d - 1) from pk_sub (b := 1) (by omega), pu_ncM hd ho hb (d - 1) 1000 (by omega) (by omega) (by omega)]
    unfold pu_tlM
    obtain ⟨σ1, a1, a2, a3⟩ := pu_spM hd (show t < d by omega) (show pu_nc o t (d - 1) < d by omega) ho
    obtain ⟨σ2, r1, r2, r3⟩ := pu_rvM hd 6 (t + 1) (d - 1) 1000 _ σ1 (by omega) (by omega) (by omega) (by omega) a3
    refine ⟨σ2, ?_, fun q hq => by rw [r2 q hq, a2 q hq], r3⟩
    rw [pu_bd' _ a1, pu_nm, pu_nm, nI_1, a2 0 (by decide), hk, show nI d - 1 = nI (d - 1) from pk_sub (b := 1) (by omega)]
    exact r1
