/-! THE WORDS: one list for every method: all of the tables that stay as they are while classes load -/
def ob_all : List Cond := lw_tbl.filter goodWord
theorem ob_allI {w : Cond} (i : Nat) (h : lw_tbl[i]? = some w) (hg : goodWord w = true) : w ∈ ob_all := List.mem_filter.mpr ⟨List.mem_of_getElem? h, hg⟩
theorem ob_all_tbl {w : Cond} (h : w ∈ ob_all) : w ∈ lw_tbl := (List.mem_filter.mp h).1
abbrev ob_ws (y : MethodName) (c : ByteArray) (n : Nat) (ret : Option FieldType) : List Cond := .code y c n ret :: ob_all
theorem ob_good {y : MethodName} {c : ByteArray} {n : Nat} {ret : Option FieldType} {big : List Cond} (hb : ∀ w ∈ ob_all, w ∈ big) (hc : Cond.code y c n ret ∈ ob_all) : GoodIn big (ob_ws y c n ret) := by
  intro w hw
  have h : w ∈ ob_all := by
    rcases List.mem_cons.mp hw with h | h
    · rw [h]; exact hc
    · exact h
  exact ⟨hb w h, good_of_word (List.mem_filter.mp h).2⟩
/-! THE WORLD OF ONE SIDE (the class, or the reference): its cells never change their addresses or shapes; what changes is σ : cell, place ↦ a number. -/
abbrev ob_St : Type := Nat → Nat → Int32
def ob_upA (σ : ob_St) (k : Nat) (f : Nat → Int32) : ob_St := fun k' => if k' = k then f else σ k'
def ob_up (σ : ob_St) (k j : Nat) (v : Int32) : ob_St := ob_upA σ k (upd (σ k) j v)
/-- a cell's shape: so many ints; an object of a class by its fields (a number, or a cell); a row of cells -/
abbrev ob_Sh : Type := Nat ⊕ ((Nat × List (Option Nat)) ⊕ List Nat)
/-- a side: how many cells, their shapes, their addresses -/
abbrev ob_WT : Type := Nat × (Nat → ob_Sh) × (Nat → Nat)
/-- what is the same for both sides: launch, class numbers, int[]'s and Plain[]'s class, the texts' addresses, two static rows -/
abbrev ob_GT : Type := Launch × va_G × ClassId × ClassId × (Nat → Nat) × (Nat → Nat) × Nat × Nat
/-- a method: name, words, bytes, locals, what it returns, room -/
abbrev ob_MI : Type := MethodName × List Cond × ByteArray × Nat × Option FieldType × Room
def ob_fv (ad : Nat → Nat) (f : Nat → Int32) : Nat → List (Option Nat) → List Value
  | _, [] => []
  | i, none :: l => .int (f i) :: ob_fv ad f (i + 1) l
  | i, some k :: l => .ref (ad k) :: ob_fv ad f (i + 1) l
def ob_cell (g : ob_GT) (w : ob_WT) (σ : ob_St) (k : Nat) : va_E := match w.2.1 k with
  | .inl n => .inl (g.2.2.1, n, .inl (σ k))
  | .inr (.inl o) => .inr (o.1, ob_fv w.2.2 (σ k) 0 o.2)
  | .inr (.inr ks) => .inl (g.2.2.2.1, ks.length, .inr (.inr (.inr (.inr (fun j => (ks.map w.2.2)[j]?)))))
def ob_w (g : ob_GT) (w : ob_WT) (σ : ob_St) : va_W := (List.range w.1).map fun k => (w.2.2 k, ob_cell g w σ k)
theorem ob_w_get {g : ob_GT} {w : ob_WT} {σ : ob_St} {k : Nat} (h : k < w.1) : (ob_w g w σ)[k]? = some (w.2.2 k, ob_cell g w σ k) := by
  simp [ob_w, h]
theorem ob_w_set {g : ob_GT} {w : ob_WT} {σ σ' : ob_St} {k : Nat} {e : va_E} (h : k < w.1) (he : ob_cell g w σ' k = e) (ho : ∀ j, j ≠ k → σ' j = σ j) : (ob_w g w σ).set k (w.2.2 k, e) = ob_w g w σ' := by
  apply List.ext_getElem?
  intro i
  by_cases hi : i = k
  · subst hi
    rw [List.getElem?_set_self (by simp [ob_w, h]), ob_w_get h, he]
  · rw [List.getElem?_set_ne (fun q => hi q.symm)]
    by_cases h2 : i < w.1
    · rw [ob_w_get h2, ob_w_get h2]
      simp only [ob_cell, ho i hi]
    · have h3 : w.1 ≤ i := Nat.not_lt.mp h2
      rw [List.getElem?_eq_none (by simp [ob_w, h3]), List.getElem?_eq_none (by simp [ob_w, h3])]
theorem ob_upA_self (σ : ob_St) (k : Nat) (f : Nat → Int32) : ob_upA σ k f k = f := by simp [ob_upA]
theorem ob_upA_ne (σ : ob_St) (k : Nat) (f : Nat → Int32) {j : Nat} (h : j ≠ k) : ob_upA σ k f j = σ j := by simp [ob_upA, h]
theorem ob_cell_arr {g : ob_GT} {w : ob_WT} {σ : ob_St} {k n : Nat} (hs : w.2.1 k = .inl n) : ob_cell g w σ k = .inl (g.2.2.1, n, .inl (σ k)) := by
  simp only [ob_cell, hs]
theorem ob_cell_obj {g : ob_GT} {w : ob_WT} {σ : ob_St} {k ci : Nat} {fs : List (Option Nat)} (hs : w.2.1 k = .inr (.inl (ci, fs))) : ob_cell g w σ k = .inr (ci, ob_fv w.2.2 (σ k) 0 fs) := by
  simp only [ob_cell, hs]
theorem ob_cell_row {g : ob_GT} {w : ob_WT} {σ : ob_St} {k : Nat} {ks : List Nat} (hs : w.2.1 k = .inr (.inr ks)) : ob_cell g w σ k = .inl (g.2.2.2.1, ks.length, .inr (.inr (.inr (.inr (fun j => (ks.map w.2.2)[j]?))))) := by
  simp only [ob_cell, hs]
theorem ob_fv_len (ad : Nat → Nat) (f : Nat → Int32) : ∀ (l : List (Option Nat)) (i : Nat), (ob_fv ad f i l).length = l.length := by
  intro l
  induction l with
  | nil => intro i; rfl
  | cons a l ih => intro i; cases a <;> simp [ob_fv, ih]
theorem ob_fv_int (ad : Nat → Nat) (f : Nat → Int32) : ∀ (l : List (Option Nat)) (i j : Nat), l[j]? = some none → (ob_fv ad f i l)[j]? = some (.int (f (i + j))) := by
  intro l
  induction l with
  | nil => intro i j h; simp at h
  | cons a l ih =>
    intro i j h
    cases j with
    | zero =>
      simp at h
      subst h
      simp [ob_fv]
    | succ j =>
      have h1 := ih (i + 1) j (by simpa using h)
      rw [show i + 1 + j = i + (j + 1) from by omega] at h1
      cases a <;> simpa [ob_fv] using h1
theorem ob_fv_ref (ad : Nat → Nat) (f : Nat → Int32) {k : Nat} : ∀ (l : List (Option Nat)) (i j : Nat), l[j]? = some (some k) → (ob_fv ad f i l)[j]? = some (.ref (ad k)) := by
  intro l
  induction l with
  | nil => intro i j h; simp at h
  | cons a l ih =>
    intro i j h
    cases j with
    | zero =>
      simp at h
      subst h
      simp [ob_fv]
    | succ j =>
      have h1 := ih (i + 1) j (by simpa using h)
      cases a <;> simpa [ob_fv] using h1
theorem ob_fv_congr (ad : Nat → Nat) {f f' : Nat → Int32} : ∀ (l : List (Option Nat)) (i : Nat), (∀ j, i ≤ j → f j = f' j) → ob_fv ad f i l = ob_fv ad f' i l := by
  intro l
  induction l with
  | nil => intro i h; rfl
  | cons a l ih =>
    intro i h
    have h1 := ih (i + 1) (fun j hj => h j (by omega))
    cases a <;> simp [ob_fv, h1, h i (Nat.le_refl i)]
theorem ob_fv_set (ad : Nat → Nat) (f : Nat → Int32) (v : Int32) : ∀ (l : List (Option Nat)) (i j : Nat), l[j]? = some none → ob_fv ad (upd f (i + j) v) i l = (ob_fv ad f i l).set j (.int v) := by
  intro l
  induction l with
  | nil => intro i j h; simp at h
  | cons a l ih =>
    intro i j h
    cases j with
    | zero =>
      simp at h
      subst h
      have h2 : ob_fv ad (upd f (i + 0) v) (i + 1) l = ob_fv ad f (i + 1) l := ob_fv_congr ad l (i + 1) (fun j hj => pk_un (by omega))
      simp only [ob_fv, h2, List.set_cons_zero]
      rw [show upd f (i + 0) v i = v from pk_us]
    | succ j =>
      have h1 := ih (i + 1) j (by simpa using h)
      rw [show i + 1 + j = i + (j + 1) from by omega] at h1
      cases a with
      | some k => simp [ob_fv, h1]
      | none =>
        simp only [ob_fv, h1, List.set_cons_succ]
        rw [show upd f (i + (j + 1)) v i = f i from pk_un (by omega)]
/-- the cells that a side may change: its own, and new ones -/
def ob_A (w : ob_WT) (sz : Nat) : Nat → Prop := fun q => (∃ k, k < w.1 ∧ q = w.2.2 k) ∨ sz ≤ q
abbrev ob_tys (g : ob_GT) : List (ClassId × FieldType) := [(g.2.2.1, .int), (g.2.2.2.1, .object "BoxOnARope$Plain")]
/-! TEXTS AND STATIC ROWS: seven texts (Telling's six forms, the kinds' letters), LEAST and GREATEST -/
def ob_tx (i : Nat) : List Int32 := match i with
  | 0 => [107, 48, 48, 48, 48, 48, 59]
  | 1 => [48, 48, 48, 48, 48, 48, 48, 59]
  | 2 => [48, 48, 48, 59]
  | 3 => [48, 59]
  | 4 => [48, 48, 59]
  | 5 => []
  | _ => [100, 115, 108, 107, 103, 97]
def ob_txl : List (List Int32) := [ob_tx 0, ob_tx 1, ob_tx 2, ob_tx 3, ob_tx 4, ob_tx 5, ob_tx 6]
def ob_txn : List Nat := [7, 8, 4, 2, 3, 0, 6]
def ob_least (j : Nat) : Int32 := match j with
  | 0 => 1
  | 3 => 1
  | _ => 0
def ob_great (j : Nat) : Int32 := match j with
  | 0 => 11
  | 1 => 9
  | 2 => 40
  | 3 => 20
  | 4 => 2
  | _ => 400
def ob_S1 (g : ob_GT) (A : Nat → Prop) (U : State) (H : Heap) : Prop := vk_S 7 ob_txn ob_txl g.2.2.2.2.1 g.2.2.2.2.2.1 A U H ∧ va_Z "java/lang/String" "COMPACT_STRINGS" "Z" (.int 1) A U H ∧ va_Zq "jdk/internal/util/Preconditions" "SIOOBE_FORMATTER" "Ljava/util/function/BiFunction;" A U H
def ob_S2 (g : ob_GT) (A : Nat → Prop) (U : State) (H : Heap) : Prop := va_Z "BoxOnARope" "LEAST" "[I" (.ref g.2.2.2.2.2.2.1) A U H ∧ va_T .int g.2.2.2.2.2.2.1 6 (fun j => .int (ob_least j)) A U H ∧ va_Z "BoxOnARope" "GREATEST" "[I" (.ref g.2.2.2.2.2.2.2) A U H ∧ va_T .int g.2.2.2.2.2.2.2 6 (fun j => .int (ob_great j)) A U H
def ob_S3 (g : ob_GT) (U : State) : Prop := (vk_R "BoxOnARope$Telling" 19 "k00000;" (g.2.2.2.2.1 0) U ∧ vk_R "BoxOnARope$Telling" 21 "0000000;" (g.2.2.2.2.1 1) U ∧ vk_R "BoxOnARope$Telling" 23 "000;" (g.2.2.2.2.1 2) U ∧ vk_R "BoxOnARope$Telling" 25 "0;" (g.2.2.2.2.1 3) U) ∧ (vk_R "BoxOnARope$Telling" 27 "00;" (g.2.2.2.2.1 4) U ∧ vk_R "BoxOnARope$Telling" 29 "" (g.2.2.2.2.1 5) U ∧ vk_R "BoxOnARope$Telling" 31 "dslkga" (g.2.2.2.2.1 6) U ∧ vk_R "BoxOnARopeModel" 84 "dslkga" (g.2.2.2.2.1 6) U) ∧ va_Nw (.fieldLinkNest "BoxOnARope$Kitchen" 53 "BoxOnARope" "LEAST" "[I" "BoxOnARope") U ∧ va_Nw (.fieldLinkNest "BoxOnARope$Kitchen" 56 "BoxOnARope" "GREATEST" "[I" "BoxOnARope") U ∧ va_Nw (.methodLinkNest "BoxOnARope$Kitchen" 50 ⟨"BoxOnARope", "isCourse", "(I)Z"⟩ "BoxOnARope") U
def ob_S (g : ob_GT) (A : Nat → Prop) (U : State) (H : Heap) : Prop := ob_S1 g A U H ∧ ob_S2 g A U H ∧ ob_S3 g U
theorem ob_S3.warm {g : ob_GT} {s U : State} (hW : s.WarmedH U.vm) (h : ob_S3 g s) : ob_S3 g U := by
  obtain ⟨⟨a1, a2, a3, a4⟩, ⟨a5, a6, a7, a8⟩, b1, b2, b3⟩ := h
  exact ⟨⟨a1.warm hW, a2.warm hW, a3.warm hW, a4.warm hW⟩, ⟨a5.warm hW, a6.warm hW, a7.warm hW, a8.warm hW⟩, va_Nw.warmF hW b1, va_Nw.warmF hW b2, va_Nw.warmM hW b3⟩
theorem ob_S3.same {g : ob_GT} {u U : State} (hv : U.vm = u.vm) (h : ob_S3 g u) : ob_S3 g U := by
  obtain ⟨⟨a1, a2, a3, a4⟩, ⟨a5, a6, a7, a8⟩, b1, b2, b3⟩ := h
  exact ⟨⟨a1.same hv, a2.same hv, a3.same hv, a4.same hv⟩, ⟨a5.same hv, a6.same hv, a7.same hv, a8.same hv⟩, va_Nw.same rfl hv.symm b1, va_Nw.same rfl hv.symm b2, va_Nw.same rfl hv.symm b3⟩
theorem ob_S.go {g : ob_GT} {A B : Nat → Prop} {s U : State} {H0 H : Heap} (h : ob_S g A s H0) (hv : s.vm.Alike U.vm) (h3 : ob_S3 g U) (hq : ∀ a : Nat, a < H0.size → ¬ A a → H[a]? = H0[a]?) (hAB : ∀ q, B q → A q) : ob_S g B U H := by
  obtain ⟨⟨a1, a2, a3⟩, ⟨b1, b2, b3, b4⟩, -⟩ := h
  exact ⟨⟨((a1.moved hv).kept hq).narrow hAB, ((a2.moved hv).kept hq).narrow hAB, ((a3.moved hv).kept hq).narrow hAB⟩, ⟨((b1.moved hv).kept hq).narrow hAB, ((b2.moved hv).kept hq).narrow hAB, ((b3.moved hv).kept hq).narrow hAB, ((b4.moved hv).kept hq).narrow hAB⟩, h3⟩
/-! A CONTRACT: from the side's world at σ, with these arguments, the method answers ov and leaves it at σ'; it makes nothing new, and touches nothing else. -/
def ob_Pre (g : ob_GT) (w : ob_WT) (σ : ob_St) (sz : Nat) (U : State) : Prop := U.heap.size = sz ∧ va_P g.2.1 vwCl (ob_w g w σ) U.heap ∧ va_K g.2.1 vwCl (ob_tys g) U ∧ va_D (fun _ => True) (ob_w g w σ) ∧ ob_S g (ob_A w sz) U U.heap
def ob_Q (g : ob_GT) (w : ob_WT) (ov : Option Value) (σ : ob_St) : Array Value → State → Outcome → State → Prop := fun _ st oc t => (oc = .returned ov ∧ va_P g.2.1 vwCl (ob_w g w σ) t.heap ∧ va_K g.2.1 vwCl (ob_tys g) t ∧ va_D (ob_A w st.heap.size) (ob_w g w σ)) ∧ va_F (ob_A w st.heap.size) st t
def ob_CT (g : ob_GT) (w : ob_WT) (mi : ob_MI) (as : List Value) (σ : ob_St) (ov : Option Value) (σ' : ob_St) : Prop :=
  ∀ sz : Nat, Met g.1 mi.1 mi.2.1 mi.2.2.2.2.2 (va_Pc as (ob_Pre g w σ sz)) (ob_Q g w ov σ') 0 0 (ob_A w sz)
/-- what is fixed while a method runs -/
def ob_Cx (g : ob_GT) (w : ob_WT) (mi : ob_MI) (p : Program) (s : State) (m : MethodId) (args : Array Value) (meth : Method) (c : Code) : Prop :=
  p.tables.exec = Jvm.exec ∧ c.code = mi.2.2.1 ∧ c.maxLocals = mi.2.2.2.1 ∧ meth.sig.returnType = mi.2.2.2.2.1 ∧ s.vm.findClass mi.1.cls = some m.cls ∧ (∀ x ∈ mi.2.1, x.before args s = true) ∧ meth.locks = false ∧ va_K g.2.1 vwCl (ob_tys g) s ∧ ob_S g (ob_A w s.heap.size) s s.heap
/-- the world, at a point of a method begun in s -/
def ob_Wd (g : ob_GT) (w : ob_WT) (σ : ob_St) (s : State) (H : Heap) (locs : List Loc) : Prop :=
  va_P g.2.1 vwCl (ob_w g w σ) H ∧ va_D (ob_A w s.heap.size) (ob_w g w σ) ∧ va_S (ob_A w s.heap.size) s.heap H locs
/-- from here (pc, locals, stack, the world at σ) the method comes to its end with ov and σ' -/
def ob_V (g : ob_GT) (w : ob_WT) (mi : ob_MI) (ov : Option Value) (σ' : ob_St) (σ : ob_St) (pc : Nat) (lv : List (Nat × Value)) (st : List Value) : Prop :=
  ∀ (p : Program) (e : Env) (s : State) (m : MethodId) (args : Array Value) (below : List Frame) (meth : Method) (c : Code), ob_Cx g w mi p s m args meth c → ∀ (H : Heap) (locs : List Loc) (ls : Array Slot), ob_Wd g w σ s H locs → lv_has ls mi.2.2.2.1 lv →
    W p g.1 e mi.2.2.2.2.2 s m args below meth c H locs 0 0 (MQ below (ob_Q g w ov σ') args s 0 0 (ob_A w s.heap.size)) (F0 m pc ls st)
set_option maxHeartbeats 4000000 in
theorem ob_ct {g : ob_GT} {w : ob_WT} {mi : ob_MI} {as : List Value} {σ σ' : ob_St} {ov : Option Value} (hy : plainName mi.1.cls = true) (hw : mi.2.1 = Cond.code mi.1 mi.2.2.1 mi.2.2.2.1 mi.2.2.2.2.1 :: mi.2.1.tail) (hlen : (lg_sl as).length ≤ mi.2.2.2.1)
    (hV : ob_V g w mi ov σ' σ 0 (lv_args 0 as) []) : ob_CT g w mi as σ ov σ' := by
  intro sz
  refine Met.ofW (cc := mi.2.2.1) (maxL := mi.2.2.2.1) (ret := mi.2.2.2.2.1) hy hw ?_
  intro p e s m args below meth c s₁ B hml hv
  obtain ⟨rfl, hsz, hP, hK, hD0, hS0⟩ := hv
  have hts := atoms_spec (ws := mi.2.1) B.pre
  have hown : s.vm.findClass mi.1.cls = some m.cls := findClass_of_methodNamed B.named
  subst hsz
  rw [lg_entry_eq]
  refine hV p e s m _ below meth c ⟨B.exec, B.bytes, hml, B.returns, hown, hts, B.notSynchronized, hK, hS0⟩ s.heap [] _ ⟨hP, ⟨hD0.1, fun k q hk => Or.inl ?_⟩, va_S.rf⟩ (lv_entry as hlen)
  have h1 : (ob_w g w σ)[k]? = some q := hk
  have h2 : k < w.1 := by
    rcases Nat.lt_or_ge k w.1 with z | z
    · exact z
    · rw [List.getElem?_eq_none (by simp [ob_w, z])] at h1
      cases h1
  rw [ob_w_get h2] at h1
  have h3 := Option.some.inj h1
  exact ⟨k, h2, by rw [← h3]⟩
section OBV
variable {g : ob_GT} {w : ob_WT} {mi : ob_MI} {ov : Option Value} {σ σ' : ob_St} {pc : Nat} {lv : List (Nat × Value)} {st : List Value}
def ob_nm {α : Type} (x : Int32) (K : Int32 → Option α) : Option α := K x
def ob_bd {β α : Type} (x : Option (β × ob_St)) (K : β → ob_St → Option α) : Option α := match x with
  | none => none
  | some q => K q.1 q.2
def ob_in (i : Int32) (n : Nat) : Bool := !(decide (i < 0)) && decide (i.toNatClampNeg < n)
def ob_ld {α : Type} (σ : ob_St) (k n : Nat) (i : Int32) (K : Int32 → Option α) : Option α := if ob_in i n = true then K (σ k i.toNatClampNeg) else none
def ob_sd {α : Type} (σ : ob_St) (k n : Nat) (i x : Int32) (K : ob_St → Option α) : Option α := if ob_in i n = true then K (ob_up σ k i.toNatClampNeg x) else none
def ob_pf {α : Type} (σ : ob_St) (k j : Nat) (x : Int32) (K : ob_St → Option α) : Option α := K (ob_up σ k j x)
def ob_cp {α : Type} (σ : ob_St) (k0 k1 n : Nat) (K : ob_St → Option α) : Option α := K (ob_upA σ k1 (va_cpy (σ k0) (σ k1) 0 0 n))
def ob_rb (x : Int32) (σ : ob_St) : Option (Int32 × ob_St) := if x = 0 ∨ x = 1 then some (x, σ) else none
def ob_max (x y : Int32) : Int32 := if x < y then y else x
def ob_min (x y : Int32) : Int32 := if y < x then y else x
def ob_rem (x y : Int32) : Int32 := x - x / y * y
theorem ob_bdE {β α : Type} {x : Option (β × ob_St)} {K : β → ob_St → Option α} {r : α} (h : ob_bd x K = some r) : ∃ q σ1, x = some (q, σ1) ∧ K q σ1 = some r := by
  cases x with
  | none => cases h
  | some q => exact ⟨q.1, q.2, rfl, h⟩
theorem ob_in_vp {i : Int32} {n : Nat} (h : ob_in i n = true) : vp_in i n := by
  intro q
  simp only [ob_in, Bool.and_eq_true, Bool.not_eq_true', decide_eq_false_iff_not, decide_eq_true_eq] at h
  rcases q with q | q
  · exact h.1 q
  · omega
theorem ob_ifs {α : Type} {c : Prop} {dc : Decidable c} {A : Option α} {r : α} (h : (if c then A else none) = some r) : c ∧ A = some r := by
  by_cases hc : c
  · rw [if_pos hc] at h; exact ⟨hc, h⟩
  · rw [if_neg hc] at h; cases h

theorem vv_iconst {n : Int} (hd : decode mi.2.2.1 pc = .ok (.iconst n, 1)) (v : Int32) (hv : Int32.ofInt n = v) (pc' : Nat) (hp : pc + 1 = pc') (k : ob_V g w mi ov σ' σ pc' lv (.int v :: st)) : ob_V g w mi ov σ' σ pc lv st := by
  subst hp
  intro p e s m args below meth c C H locs ls hW hl
  exact lv_iconst C.1 C.2.1 hd hv (k p e s m args below meth c C H locs ls hW hl)

theorem vv_bipush {n : Int} (hd : decode mi.2.2.1 pc = .ok (.bipush n, 2)) (v : Int32) (hv : (Int8.ofInt n).toInt32 = v) (pc' : Nat) (hp : pc + 2 = pc') (k : ob_V g w mi ov σ' σ pc' lv (.int v :: st)) : ob_V g w mi ov σ' σ pc lv st := by
  subst hp
  intro p e s m args below meth c C H locs ls hW hl
  exact lv_bipush C.1 C.2.1 hd hv (k p e s m args below meth c C H locs ls hW hl)

theorem vv_sipush {n : Int} (hd : decode mi.2.2.1 pc = .ok (.sipush n, 3)) (v : Int32) (hv : (Int16.ofInt n).toInt32 = v) (pc' : Nat) (hp : pc + 3 = pc') (k : ob_V g w mi ov σ' σ pc' lv (.int v :: st)) : ob_V g w mi ov σ' σ pc lv st := by
  subst hp
  intro p e s m args below meth c C H locs ls hW hl
  exact lv_sipush C.1 C.2.1 hd hv (k p e s m args below meth c C H locs ls hW hl)

theorem vv_ldc {idx : Nat} (hd : decode mi.2.2.1 pc = .ok (.ldc idx, 2)) (v : Int32) (hm : Cond.constant mi.1.cls idx v ∈ mi.2.1) (pc' : Nat) (hp : pc + 2 = pc') (k : ob_V g w mi ov σ' σ pc' lv (.int v :: st)) : ob_V g w mi ov σ' σ pc lv st := by
  subst hp
  intro p e s m args below meth c C H locs ls hW hl
  exact lv_ldc C.1 C.2.1 C.2.2.2.2.1 (C.2.2.2.2.2.1 _ hm) hd (k p e s m args below meth c C H locs ls hW hl)

theorem vv_ldcw {idx : Nat} (hd : decode mi.2.2.1 pc = .ok (.ldc_w idx, 3)) (v : Int32) (hm : Cond.constant mi.1.cls idx v ∈ mi.2.1) (pc' : Nat) (hp : pc + 3 = pc') (k : ob_V g w mi ov σ' σ pc' lv (.int v :: st)) : ob_V g w mi ov σ' σ pc lv st := by
  subst hp
  intro p e s m args below meth c C H locs ls hW hl
  exact lv_ldcw C.1 C.2.1 C.2.2.2.2.1 (C.2.2.2.2.2.1 _ hm) hd (k p e s m args below meth c C H locs ls hW hl)

theorem vv_ldcS {idx : Nat} (hd : decode mi.2.2.1 pc = .ok (.ldc idx, 2)) (i : Nat) (tx : String) (hm : ∀ u : State, ob_S3 g u → vk_R mi.1.cls idx tx (g.2.2.2.2.1 i) u) (pc' : Nat) (hp : pc + 2 = pc') (k : ob_V g w mi ov σ' σ pc' lv (.ref (g.2.2.2.2.1 i) :: st)) : ob_V g w mi ov σ' σ pc lv st := by
  subst hp
  intro p e s m args below meth c C H locs ls hW hl
  exact va_ldcS C.1 C.2.1 C.2.2.2.2.1 (hm s C.2.2.2.2.2.2.2.2.2.2) hd (k p e s m args below meth c C H locs ls hW hl)

theorem vv_iload_n {q : Fin 4} {i : Nat} {x : Int32} (hd : decode mi.2.2.1 pc = .ok (.iload_n q, 1)) (at' : Nat) (hi : (q : Nat) = i) (hk : lv[at']? = some (i, .int x)) (pc' : Nat) (hp : pc + 1 = pc') (k : ob_V g w mi ov σ' σ pc' lv (.int x :: st)) : ob_V g w mi ov σ' σ pc lv st := by
  subst hp
  intro p e s m args below meth c C H locs ls hW hl
  exact lv_iload_n C.1 C.2.1 hd hi (lv_at hl at' hk) (k p e s m args below meth c C H locs ls hW hl)

theorem vv_iload {i : Nat} {x : Int32} (hd : decode mi.2.2.1 pc = .ok (.iload i, 2)) (at' : Nat) (hk : lv[at']? = some (i, .int x)) (pc' : Nat) (hp : pc + 2 = pc') (k : ob_V g w mi ov σ' σ pc' lv (.int x :: st)) : ob_V g w mi ov σ' σ pc lv st := by
  subst hp
  intro p e s m args below meth c C H locs ls hW hl
  exact lv_iload C.1 C.2.1 hd (lv_at hl at' hk) (k p e s m args below meth c C H locs ls hW hl)

theorem vv_istore_n {q : Fin 4} {i : Nat} {x : Int32} (hd : decode mi.2.2.1 pc = .ok (.istore_n q, 1)) (lv' : List (Nat × Value)) (hi : (q : Nat) = i) (hn : i < mi.2.2.2.1) (hv : (i, Value.int x) :: lv.filter (fun q => !(q.1 == i) && !(q.1 + 1 == i && q.2.category == 2)) = lv') (pc' : Nat) (hp : pc + 1 = pc') (k : ob_V g w mi ov σ' σ pc' lv' st) : ob_V g w mi ov σ' σ pc lv (.int x :: st) := by
  subst hp
  intro p e s m args below meth c C H locs ls hW hl
  exact lv_istore_n C.1 C.2.1 hd hi hl hn hv (fun ls' hl' => k p e s m args below meth c C H locs ls' hW hl')

theorem vv_istore {i : Nat} {x : Int32} (hd : decode mi.2.2.1 pc = .ok (.istore i, 2)) (lv' : List (Nat × Value)) (hn : i < mi.2.2.2.1) (hv : (i, Value.int x) :: lv.filter (fun q => !(q.1 == i) && !(q.1 + 1 == i && q.2.category == 2)) = lv') (pc' : Nat) (hp : pc + 2 = pc') (k : ob_V g w mi ov σ' σ pc' lv' st) : ob_V g w mi ov σ' σ pc lv (.int x :: st) := by
  subst hp
  intro p e s m args below meth c C H locs ls hW hl
  exact lv_istore C.1 C.2.1 hd hl hn hv (fun ls' hl' => k p e s m args below meth c C H locs ls' hW hl')

theorem vv_aload_n {q : Fin 4} {i : Nat} {x : Nat} (hd : decode mi.2.2.1 pc = .ok (.aload_n q, 1)) (at' : Nat) (hi : (q : Nat) = i) (hk : lv[at']? = some (i, .ref x)) (pc' : Nat) (hp : pc + 1 = pc') (k : ob_V g w mi ov σ' σ pc' lv (.ref x :: st)) : ob_V g w mi ov σ' σ pc lv st := by
  subst hp
  intro p e s m args below meth c C H locs ls hW hl
  exact lv_aload_n C.1 C.2.1 hd hi (lv_at hl at' hk) (k p e s m args below meth c C H locs ls hW hl)

theorem vv_aload {i : Nat} {x : Nat} (hd : decode mi.2.2.1 pc = .ok (.aload i, 2)) (at' : Nat) (hk : lv[at']? = some (i, .ref x)) (pc' : Nat) (hp : pc + 2 = pc') (k : ob_V g w mi ov σ' σ pc' lv (.ref x :: st)) : ob_V g w mi ov σ' σ pc lv st := by
  subst hp
  intro p e s m args below meth c C H locs ls hW hl
  exact lv_aload C.1 C.2.1 hd (lv_at hl at' hk) (k p e s m args below meth c C H locs ls hW hl)

theorem vv_astore_n {q : Fin 4} {i : Nat} {x : Nat} (hd : decode mi.2.2.1 pc = .ok (.astore_n q, 1)) (lv' : List (Nat × Value)) (hi : (q : Nat) = i) (hn : i < mi.2.2.2.1) (hv : (i, Value.ref x) :: lv.filter (fun q => !(q.1 == i) && !(q.1 + 1 == i && q.2.category == 2)) = lv') (pc' : Nat) (hp : pc + 1 = pc') (k : ob_V g w mi ov σ' σ pc' lv' st) : ob_V g w mi ov σ' σ pc lv (.ref x :: st) := by
  subst hp
  intro p e s m args below meth c C H locs ls hW hl
  exact lv_astore_n C.1 C.2.1 hd hi hl hn hv (fun ls' hl' => k p e s m args below meth c C H locs ls' hW hl')

theorem vv_astore {i : Nat} {x : Nat} (hd : decode mi.2.2.1 pc = .ok (.astore i, 2)) (lv' : List (Nat × Value)) (hn : i < mi.2.2.2.1) (hv : (i, Value.ref x) :: lv.filter (fun q => !(q.1 == i) && !(q.1 + 1 == i && q.2.category == 2)) = lv') (pc' : Nat) (hp : pc + 2 = pc') (k : ob_V g w mi ov σ' σ pc' lv' st) : ob_V g w mi ov σ' σ pc lv (.ref x :: st) := by
  subst hp
  intro p e s m args below meth c C H locs ls hW hl
  exact lv_astore C.1 C.2.1 hd hl hn hv (fun ls' hl' => k p e s m args below meth c C H locs ls' hW hl')

theorem vv_iinc {i : Nat} {n : Int} {x : Int32} (hd : decode mi.2.2.1 pc = .ok (.iinc i n, 3)) (v : Int32) (at' : Nat) (lv' : List (Nat × Value)) (hk : lv[at']? = some (i, .int x)) (hv : x + Int32.ofInt n = v) (hn : i < mi.2.2.2.1) (hl9 : (i, Value.int v) :: lv.filter (fun q => !(q.1 == i) && !(q.1 + 1 == i && q.2.category == 2)) = lv') (pc' : Nat) (hp : pc + 3 = pc') (k : ob_V g w mi ov σ' σ pc' lv' st) : ob_V g w mi ov σ' σ pc lv st := by
  subst hp
  intro p e s m args below meth c C H locs ls hW hl
  exact lv_iinc C.1 C.2.1 hd hl hk hv hn hl9 (fun ls' hl' => k p e s m args below meth c C H locs ls' hW hl')

theorem vv_iadd {x y : Int32}(hd : decode mi.2.2.1 pc = .ok (.iadd, 1))  (pc' : Nat) (hp : pc + 1 = pc') (k : ob_V g w mi ov σ' σ pc' lv (.int (x + y) :: st)) : ob_V g w mi ov σ' σ pc lv (.int y :: .int x :: st) := by
  subst hp
  intro p e s m args below meth c C H locs ls hW hl
  exact lv_iadd C.1 C.2.1 hd (k p e s m args below meth c C H locs ls hW hl)

theorem vv_isub {x y : Int32}(hd : decode mi.2.2.1 pc = .ok (.isub, 1))  (pc' : Nat) (hp : pc + 1 = pc') (k : ob_V g w mi ov σ' σ pc' lv (.int (x - y) :: st)) : ob_V g w mi ov σ' σ pc lv (.int y :: .int x :: st) := by
  subst hp
  intro p e s m args below meth c C H locs ls hW hl
  exact lv_isub C.1 C.2.1 hd (k p e s m args below meth c C H locs ls hW hl)

theorem vv_imul {x y : Int32}(hd : decode mi.2.2.1 pc = .ok (.imul, 1))  (pc' : Nat) (hp : pc + 1 = pc') (k : ob_V g w mi ov σ' σ pc' lv (.int (x * y) :: st)) : ob_V g w mi ov σ' σ pc lv (.int y :: .int x :: st) := by
  subst hp
  intro p e s m args below meth c C H locs ls hW hl
  exact lv_imul C.1 C.2.1 hd (k p e s m args below meth c C H locs ls hW hl)

theorem vv_iand {x y : Int32}(hd : decode mi.2.2.1 pc = .ok (.iand, 1))  (pc' : Nat) (hp : pc + 1 = pc') (k : ob_V g w mi ov σ' σ pc' lv (.int (x &&& y) :: st)) : ob_V g w mi ov σ' σ pc lv (.int y :: .int x :: st) := by
  subst hp
  intro p e s m args below meth c C H locs ls hW hl
  exact lv_iand C.1 C.2.1 hd (k p e s m args below meth c C H locs ls hW hl)

theorem vv_ior {x y : Int32}(hd : decode mi.2.2.1 pc = .ok (.ior, 1))  (pc' : Nat) (hp : pc + 1 = pc') (k : ob_V g w mi ov σ' σ pc' lv (.int (x ||| y) :: st)) : ob_V g w mi ov σ' σ pc lv (.int y :: .int x :: st) := by
  subst hp
  intro p e s m args below meth c C H locs ls hW hl
  exact lv_ior C.1 C.2.1 hd (k p e s m args below meth c C H locs ls hW hl)

theorem vv_ishl {x y : Int32}(hd : decode mi.2.2.1 pc = .ok (.ishl, 1))  (pc' : Nat) (hp : pc + 1 = pc') (k : ob_V g w mi ov σ' σ pc' lv (.int (x <<< (y &&& 31)) :: st)) : ob_V g w mi ov σ' σ pc lv (.int y :: .int x :: st) := by
  subst hp
  intro p e s m args below meth c C H locs ls hW hl
  exact lv_ishl C.1 C.2.1 hd (k p e s m args below meth c C H locs ls hW hl)

theorem vv_ishr {x y : Int32}(hd : decode mi.2.2.1 pc = .ok (.ishr, 1))  (pc' : Nat) (hp : pc + 1 = pc') (k : ob_V g w mi ov σ' σ pc' lv (.int (x >>> (y &&& 31)) :: st)) : ob_V g w mi ov σ' σ pc lv (.int y :: .int x :: st) := by
  subst hp
  intro p e s m args below meth c C H locs ls hW hl
  exact lv_ishr C.1 C.2.1 hd (k p e s m args below meth c C H locs ls hW hl)

theorem vv_idiv {x y : Int32} (hd : decode mi.2.2.1 pc = .ok (.idiv, 1)) (hne : ¬ y = 0) (pc' : Nat) (hp : pc + 1 = pc') (k : ob_V g w mi ov σ' σ pc' lv (.int (x / y) :: st)) : ob_V g w mi ov σ' σ pc lv (.int y :: .int x :: st) := by
  subst hp
  intro p e s m args below meth c C H locs ls hW hl
  exact lv_idiv C.1 C.2.1 hd hne (k p e s m args below meth c C H locs ls hW hl)

theorem vv_irem {x y : Int32} (hd : decode mi.2.2.1 pc = .ok (.irem, 1)) (hne : ¬ y = 0) (pc' : Nat) (hp : pc + 1 = pc') (k : ob_V g w mi ov σ' σ pc' lv (.int (ob_rem x y) :: st)) : ob_V g w mi ov σ' σ pc lv (.int y :: .int x :: st) := by
  subst hp
  intro p e s m args below meth c C H locs ls hW hl
  exact lv_irem C.1 C.2.1 hd hne (k p e s m args below meth c C H locs ls hW hl)

theorem vv_ineg {x : Int32}(hd : decode mi.2.2.1 pc = .ok (.ineg, 1))  (pc' : Nat) (hp : pc + 1 = pc') (k : ob_V g w mi ov σ' σ pc' lv (.int (-x) :: st)) : ob_V g w mi ov σ' σ pc lv (.int x :: st) := by
  subst hp
  intro p e s m args below meth c C H locs ls hW hl
  exact lv_ineg C.1 C.2.1 hd (k p e s m args below meth c C H locs ls hW hl)

theorem vv_i2c {x : Int32}(hd : decode mi.2.2.1 pc = .ok (.i2c, 1))  (pc' : Nat) (hp : pc + 1 = pc') (k : ob_V g w mi ov σ' σ pc' lv (.int (x.toUInt32 % 65536).toInt32 :: st)) : ob_V g w mi ov σ' σ pc lv (.int x :: st) := by
  subst hp
  intro p e s m args below meth c C H locs ls hW hl
  exact lv_i2c C.1 C.2.1 hd rfl (k p e s m args below meth c C H locs ls hW hl)

theorem vv_i2b {x : Int32}(hd : decode mi.2.2.1 pc = .ok (.i2b, 1))  (pc' : Nat) (hp : pc + 1 = pc') (k : ob_V g w mi ov σ' σ pc' lv (.int x.toInt8.toInt32 :: st)) : ob_V g w mi ov σ' σ pc lv (.int x :: st) := by
  subst hp
  intro p e s m args below meth c C H locs ls hW hl
  exact lv_i2b C.1 C.2.1 hd rfl (k p e s m args below meth c C H locs ls hW hl)

theorem vv_dup {a : Value} (hd : decode mi.2.2.1 pc = .ok (.dup, 1)) (ha : a.category = 1) (pc' : Nat) (hp : pc + 1 = pc') (k : ob_V g w mi ov σ' σ pc' lv (a :: a :: st)) : ob_V g w mi ov σ' σ pc lv (a :: st) := by
  subst hp
  intro p e s m args below meth c C H locs ls hW hl
  exact lv_dup C.1 C.2.1 hd ha (k p e s m args below meth c C H locs ls hW hl)

theorem vv_pop {a : Value} (hd : decode mi.2.2.1 pc = .ok (.pop, 1)) (ha : a.category = 1) (pc' : Nat) (hp : pc + 1 = pc') (k : ob_V g w mi ov σ' σ pc' lv st) : ob_V g w mi ov σ' σ pc lv (a :: st) := by
  subst hp
  intro p e s m args below meth c C H locs ls hW hl
  exact lv_pop C.1 C.2.1 hd ha (k p e s m args below meth c C H locs ls hW hl)

theorem vv_dup_x1 {a b : Value} (hd : decode mi.2.2.1 pc = .ok (.dup_x1, 1)) (ha : a.category = 1) (hb : b.category = 1) (pc' : Nat) (hp : pc + 1 = pc') (k : ob_V g w mi ov σ' σ pc' lv (a :: b :: a :: st)) : ob_V g w mi ov σ' σ pc lv (a :: b :: st) := by
  subst hp
  intro p e s m args below meth c C H locs ls hW hl
  exact lv_dup_x1 C.1 C.2.1 hd ha hb (k p e s m args below meth c C H locs ls hW hl)

theorem vv_dup_x2 {a b d : Value} (hd : decode mi.2.2.1 pc = .ok (.dup_x2, 1)) (ha : a.category = 1) (hb : b.category = 1) (hd9 : d.category = 1) (pc' : Nat) (hp : pc + 1 = pc') (k : ob_V g w mi ov σ' σ pc' lv (a :: b :: d :: a :: st)) : ob_V g w mi ov σ' σ pc lv (a :: b :: d :: st) := by
  subst hp
  intro p e s m args below meth c C H locs ls hW hl
  exact lv_dup_x2 C.1 C.2.1 hd ha hb hd9 (k p e s m args below meth c C H locs ls hW hl)

theorem vv_dup2 {a b : Value} (hd : decode mi.2.2.1 pc = .ok (.dup2, 1)) (ha : a.category = 1) (hb : b.category = 1) (pc' : Nat) (hp : pc + 1 = pc') (k : ob_V g w mi ov σ' σ pc' lv (a :: b :: a :: b :: st)) : ob_V g w mi ov σ' σ pc lv (a :: b :: st) := by
  subst hp
  intro p e s m args below meth c C H locs ls hW hl
  exact lv_dup2_11 C.1 C.2.1 hd ha hb (k p e s m args below meth c C H locs ls hW hl)

theorem vv_goto {off : Int} (hd : decode mi.2.2.1 pc = .ok (.goto off, 3)) (tgt : Nat) (ht : (pc : Int) + off = (tgt : Int)) (k : ob_V g w mi ov σ' σ tgt lv st) : ob_V g w mi ov σ' σ pc lv st := by
  intro p e s m args below meth c C H locs ls hW hl
  exact lv_goto C.1 C.2.1 hd ht (k p e s m args below meth c C H locs ls hW hl)

theorem vv_if_eq {α : Type} {r : α} {A B : Option α} {x : Int32} {off : Int} (hd : decode mi.2.2.1 pc = .ok (.ifCond .eq off, 3)) (tgt pc' : Nat) (ht : (pc : Int) + off = (tgt : Int)) (hp : pc + 3 = pc') (hf : (if x = 0 then A else B) = some r) (kt : A = some r → ob_V g w mi ov σ' σ tgt lv st) (kf : B = some r → ob_V g w mi ov σ' σ pc'  lv st) : ob_V g w mi ov σ' σ pc lv (.int x :: st) := by
  subst hp
  intro p e s m args below meth c C H locs ls hW hl
  refine lv_if_eq C.1 C.2.1 hd ht (fun h => ?_) (fun h => ?_)
  · rw [if_pos h] at hf; exact kt hf p e s m args below meth c C H locs ls hW hl
  · rw [if_neg h] at hf; exact kf hf p e s m args below meth c C H locs ls hW hl

theorem vv_if_ne {α : Type} {r : α} {A B : Option α} {x : Int32} {off : Int} (hd : decode mi.2.2.1 pc = .ok (.ifCond .ne off, 3)) (tgt pc' : Nat) (ht : (pc : Int) + off = (tgt : Int)) (hp : pc + 3 = pc') (hf : (if x = 0 then B else A) = some r) (kt : A = some r → ob_V g w mi ov σ' σ tgt lv st) (kf : B = some r → ob_V g w mi ov σ' σ pc'  lv st) : ob_V g w mi ov σ' σ pc lv (.int x :: st) := by
  subst hp
  intro p e s m args below meth c C H locs ls hW hl
  refine lv_if_ne C.1 C.2.1 hd ht (fun h => ?_) (fun h => ?_)
  · rw [if_neg h] at hf; exact kt hf p e s m args below meth c C H locs ls hW hl
  · rw [if_pos h] at hf; exact kf hf p e s m args below meth c C H locs ls hW hl

theorem vv_if_lt {α : Type} {r : α} {A B : Option α} {x : Int32} {off : Int} (hd : decode mi.2.2.1 pc = .ok (.ifCond .lt off, 3)) (tgt pc' : Nat) (ht : (pc : Int) + off = (tgt : Int)) (hp : pc + 3 = pc') (hf : (if x < 0 then A else B) = some r) (kt : A = some r → ob_V g w mi ov σ' σ tgt lv st) (kf : B = some r → ob_V g w mi ov σ' σ pc'  lv st) : ob_V g w mi ov σ' σ pc lv (.int x :: st) := by
  subst hp
  intro p e s m args below meth c C H locs ls hW hl
  refine lv_if_lt C.1 C.2.1 hd ht (fun h => ?_) (fun h => ?_)
  · rw [if_pos h] at hf; exact kt hf p e s m args below meth c C H locs ls hW hl
  · rw [if_neg h] at hf; exact kf hf p e s m args below meth c C H locs ls hW hl

theorem vv_if_ge {α : Type} {r : α} {A B : Option α} {x : Int32} {off : Int} (hd : decode mi.2.2.1 pc = .ok (.ifCond .ge off, 3)) (tgt pc' : Nat) (ht : (pc : Int) + off = (tgt : Int)) (hp : pc + 3 = pc') (hf : (if 0 ≤ x then A else B) = some r) (kt : A = some r → ob_V g w mi ov σ' σ tgt lv st) (kf : B = some r → ob_V g w mi ov σ' σ pc'  lv st) : ob_V g w mi ov σ' σ pc lv (.int x :: st) := by
  subst hp
  intro p e s m args below meth c C H locs ls hW hl
  refine lv_if_ge C.1 C.2.1 hd ht (fun h => ?_) (fun h => ?_)
  · rw [if_pos h] at hf; exact kt hf p e s m args below meth c C H locs ls hW hl
  · rw [if_neg h] at hf; exact kf hf p e s m args below meth c C H locs ls hW hl

theorem vv_if_gt {α : Type} {r : α} {A B : Option α} {x : Int32} {off : Int} (hd : decode mi.2.2.1 pc = .ok (.ifCond .gt off, 3)) (tgt pc' : Nat) (ht : (pc : Int) + off = (tgt : Int)) (hp : pc + 3 = pc') (hf : (if 0 < x then A else B) = some r) (kt : A = some r → ob_V g w mi ov σ' σ tgt lv st) (kf : B = some r → ob_V g w mi ov σ' σ pc'  lv st) : ob_V g w mi ov σ' σ pc lv (.int x :: st) := by
  subst hp
  intro p e s m args below meth c C H locs ls hW hl
  refine lv_if_gt C.1 C.2.1 hd ht (fun h => ?_) (fun h => ?_)
  · rw [if_pos h] at hf; exact kt hf p e s m args below meth c C H locs ls hW hl
  · rw [if_neg h] at hf; exact kf hf p e s m args below meth c C H locs ls hW hl

theorem vv_if_le {α : Type} {r : α} {A B : Option α} {x : Int32} {off : Int} (hd : decode mi.2.2.1 pc = .ok (.ifCond .le off, 3)) (tgt pc' : Nat) (ht : (pc : Int) + off = (tgt : Int)) (hp : pc + 3 = pc') (hf : (if x ≤ 0 then A else B) = some r) (kt : A = some r → ob_V g w mi ov σ' σ tgt lv st) (kf : B = some r → ob_V g w mi ov σ' σ pc'  lv st) : ob_V g w mi ov σ' σ pc lv (.int x :: st) := by
  subst hp
  intro p e s m args below meth c C H locs ls hW hl
  refine lv_if_le C.1 C.2.1 hd ht (fun h => ?_) (fun h => ?_)
  · rw [if_pos h] at hf; exact kt hf p e s m args below meth c C H locs ls hW hl
  · rw [if_neg h] at hf; exact kf hf p e s m args below meth c C H locs ls hW hl

theorem vv_icmp_eq {α : Type} {r : α} {A B : Option α} {x y : Int32} {off : Int} (hd : decode mi.2.2.1 pc = .ok (.if_icmp .eq off, 3)) (tgt pc' : Nat) (ht : (pc : Int) + off = (tgt : Int)) (hp : pc + 3 = pc') (hf : (if x = y then A else B) = some r) (kt : A = some r → ob_V g w mi ov σ' σ tgt lv st) (kf : B = some r → ob_V g w mi ov σ' σ pc'  lv st) : ob_V g w mi ov σ' σ pc lv (.int y :: .int x :: st) := by
  subst hp
  intro p e s m args below meth c C H locs ls hW hl
  refine lv_icmp_eq C.1 C.2.1 hd ht (fun h => ?_) (fun h => ?_)
  · rw [if_pos h] at hf; exact kt hf p e s m args below meth c C H locs ls hW hl
  · rw [if_neg h] at hf; exact kf hf p e s m args below meth c C H locs ls hW hl

theorem vv_icmp_ne {α : Type} {r : α} {A B : Option α} {x y : Int32} {off : Int} (hd : decode mi.2.2.1 pc = .ok (.if_icmp .ne off, 3)) (tgt pc' : Nat) (ht : (pc : Int) + off = (tgt : Int)) (hp : pc + 3 = pc') (hf : (if x = y then B else A) = some r) (kt : A = some r → ob_V g w mi ov σ' σ tgt lv st) (kf : B = some r → ob_V g w mi ov σ' σ pc'  lv st) : ob_V g w mi ov σ' σ pc lv (.int y :: .int x :: st) := by
  subst hp
  intro p e s m args below meth c C H locs ls hW hl
  refine lv_icmp_ne C.1 C.2.1 hd ht (fun h => ?_) (fun h => ?_)
  · rw [if_neg h] at hf; exact kt hf p e s m args below meth c C H locs ls hW hl
  · rw [if_pos h] at hf; exact kf hf p e s m args below meth c C H locs ls hW hl

theorem vv_icmp_lt {α : Type} {r : α} {A B : Option α} {x y : Int32} {off : Int} (hd : decode mi.2.2.1 pc = .ok (.if_icmp .lt off, 3)) (tgt pc' : Nat) (ht : (pc : Int) + off = (tgt : Int)) (hp : pc + 3 = pc') (hf : (if x < y then A else B) = some r) (kt : A = some r → ob_V g w mi ov σ' σ tgt lv st) (kf : B = some r → ob_V g w mi ov σ' σ pc'  lv st) : ob_V g w mi ov σ' σ pc lv (.int y :: .int x :: st) := by
  subst hp
  intro p e s m args below meth c C H locs ls hW hl
  refine lv_icmp_lt C.1 C.2.1 hd ht (fun h => ?_) (fun h => ?_)
  · rw [if_pos h] at hf; exact kt hf p e s m args below meth c C H locs ls hW hl
  · rw [if_neg h] at hf; exact kf hf p e s m args below meth c C H locs ls hW hl

theorem vv_icmp_ge {α : Type} {r : α} {A B : Option α} {x y : Int32} {off : Int} (hd : decode mi.2.2.1 pc = .ok (.if_icmp .ge off, 3)) (tgt pc' : Nat) (ht : (pc : Int) + off = (tgt : Int)) (hp : pc + 3 = pc') (hf : (if y ≤ x then A else B) = some r) (kt : A = some r → ob_V g w mi ov σ' σ tgt lv st) (kf : B = some r → ob_V g w mi ov σ' σ pc'  lv st) : ob_V g w mi ov σ' σ pc lv (.int y :: .int x :: st) := by
  subst hp
  intro p e s m args below meth c C H locs ls hW hl
  refine lv_icmp_ge C.1 C.2.1 hd ht (fun h => ?_) (fun h => ?_)
  · rw [if_pos h] at hf; exact kt hf p e s m args below meth c C H locs ls hW hl
  · rw [if_neg h] at hf; exact kf hf p e s m args below meth c C H locs ls hW hl

theorem vv_icmp_gt {α : Type} {r : α} {A B : Option α} {x y : Int32} {off : Int} (hd : decode mi.2.2.1 pc = .ok (.if_icmp .gt off, 3)) (tgt pc' : Nat) (ht : (pc : Int) + off = (tgt : Int)) (hp : pc + 3 = pc') (hf : (if y < x then A else B) = some r) (kt : A = some r → ob_V g w mi ov σ' σ tgt lv st) (kf : B = some r → ob_V g w mi ov σ' σ pc'  lv st) : ob_V g w mi ov σ' σ pc lv (.int y :: .int x :: st) := by
  subst hp
  intro p e s m args below meth c C H locs ls hW hl
  refine lv_icmp_gt C.1 C.2.1 hd ht (fun h => ?_) (fun h => ?_)
  · rw [if_pos h] at hf; exact kt hf p e s m args below meth c C H locs ls hW hl
  · rw [if_neg h] at hf; exact kf hf p e s m args below meth c C H locs ls hW hl

theorem vv_icmp_le {α : Type} {r : α} {A B : Option α} {x y : Int32} {off : Int} (hd : decode mi.2.2.1 pc = .ok (.if_icmp .le off, 3)) (tgt pc' : Nat) (ht : (pc : Int) + off = (tgt : Int)) (hp : pc + 3 = pc') (hf : (if x ≤ y then A else B) = some r) (kt : A = some r → ob_V g w mi ov σ' σ tgt lv st) (kf : B = some r → ob_V g w mi ov σ' σ pc'  lv st) : ob_V g w mi ov σ' σ pc lv (.int y :: .int x :: st) := by
  subst hp
  intro p e s m args below meth c C H locs ls hW hl
  refine lv_icmp_le C.1 C.2.1 hd ht (fun h => ?_) (fun h => ?_)
  · rw [if_pos h] at hf; exact kt hf p e s m args below meth c C H locs ls hW hl
  · rw [if_neg h] at hf; exact kf hf p e s m args below meth c C H locs ls hW hl

theorem vv_case {α : Type} {r : α} {A B : Option α} {x : Int32} (n : Int32) (hf : (if x = n then A else B) = some r) (kt : A = some r → ob_V g w mi ov σ' σ pc lv (.int n :: st)) (kf : ¬ x = n → B = some r → ob_V g w mi ov σ' σ pc lv (.int x :: st)) : ob_V g w mi ov σ' σ pc lv (.int x :: st) := by
  by_cases h : x = n
  · subst h; rw [if_pos rfl] at hf; exact kt hf
  · rw [if_neg h] at hf; exact kf h hf
theorem vv_tabIn {dflt lo hi : Int} {offs : Array Int} {len : Nat} {x : Int32} {off : Int} (hd : decode mi.2.2.1 pc = .ok (.tableswitch dflt lo hi offs, len)) (tgt : Nat) (h1 : ¬ x.toInt < lo) (h2 : ¬ hi < x.toInt) (ho : offs[(x.toInt - lo).toNat]? = some off) (ht : (pc : Int) + off = (tgt : Int)) (k : ob_V g w mi ov σ' σ tgt lv st) : ob_V g w mi ov σ' σ pc lv (.int x :: st) := by
  intro p e s m args below meth c C H locs ls hW hl
  exact lv_tableIn C.1 C.2.1 hd h1 h2 ho ht (k p e s m args below meth c C H locs ls hW hl)
theorem vv_tabOut {dflt lo hi : Int} {offs : Array Int} {len : Nat} {x : Int32} (hd : decode mi.2.2.1 pc = .ok (.tableswitch dflt lo hi offs, len)) (tgt : Nat) (h : x.toInt < lo ∨ hi < x.toInt) (ht : (pc : Int) + dflt = (tgt : Int)) (k : ob_V g w mi ov σ' σ tgt lv st) : ob_V g w mi ov σ' σ pc lv (.int x :: st) := by
  intro p e s m args below meth c C H locs ls hW hl
  exact lv_tableOut C.1 C.2.1 hd h ht (k p e s m args below meth c C H locs ls hW hl)
theorem vv_look {dflt : Int} {ps : Array (Int × Int)} {len : Nat} {x : Int32} {off : Int} (hd : decode mi.2.2.1 pc = .ok (.lookupswitch dflt ps, len)) (tgt : Nat) (hq : (ps.toList.zip (ps.toList.drop 1)).all (fun (a, next) => a.1 < next.1) = true) (ho : Op.lookupswitch.offset ps.toList dflt x.toInt = off) (ht : (pc : Int) + off = (tgt : Int)) (k : ob_V g w mi ov σ' σ tgt lv st) : ob_V g w mi ov σ' σ pc lv (.int x :: st) := by
  intro p e s m args below meth c C H locs ls hW hl
  exact lv_lookup C.1 C.2.1 hd hq ho ht (k p e s m args below meth c C H locs ls hW hl)
theorem ob_neI {x k : Int32} {a : Int} (h : ¬ x = k) (hk : k.toInt = a) : ¬ x.toInt = a := fun q => h (Int32.toInt_inj.mp (q.trans hk.symm))
theorem vv_sub (ks : List Nat) (lv' : List (Nat × Value)) (h : lv_pick lv ks = lv') (k : ob_V g w mi ov σ' σ pc lv' st) : ob_V g w mi ov σ' σ pc lv st := by
  intro p e s m args below meth c C H locs ls hW hl
  exact k p e s m args below meth c C H locs ls hW (lv_sub hl ks h)
theorem vv_nm {α : Type} {r : α} {x : Int32} {K : Int32 → Option α} (hf : ob_nm x K = some r) (k : ∀ y : Int32, K y = some r → ob_V g w mi ov σ' σ pc lv (.int y :: st)) : ob_V g w mi ov σ' σ pc lv (.int x :: st) := k x hf
def ob_abs (x : Int32) : Int32 := if 0 ≤ x then x else 0 - x
/-! THE WORLD'S ROWS -/
def ob_GF (mi : ob_MI) (idx ci j : Nat) : Prop := ∃ (C : String) (T : u_T) (N : Nat), vwCl[ci]? = some (C, T, N) ∧ j < N ∧ (∀ x ∈ u_ws C T N, x ∈ mi.2.1) ∧ Cond.fieldLink mi.1.cls idx (T j).1 (T j).2.1 (T j).2.2.1 ∈ mi.2.1
def ob_PF (mi : ob_MI) (idx ci j : Nat) (ty : FieldType) : Prop := ∃ (C : String) (T : u_T) (N : Nat) (ty0 : Nat → FieldType), vwCl[ci]? = some (C, T, N) ∧ j < N ∧ (∀ x ∈ u_ws C T N, x ∈ mi.2.1) ∧ Cond.fieldLink mi.1.cls idx (T j).1 (T j).2.1 (T j).2.2.1 ∈ mi.2.1 ∧ (∀ k, k < N → parseFieldDescriptor (T k).2.2.1 = some (ty0 k)) ∧ (∀ a, a < N → ∀ b, b < N → a ≠ b → (T a).2.1 ≠ (T b).2.1) ∧ (T j).2.2.2 = false ∧ parseFieldDescriptor (T j).2.2.1 = some ty
def ob_fit (ty : FieldType) (v : Int32) : Prop := narrow ty (.int v) = .int v ∧ fits ty (.int v) = true
theorem ob_fit_int (v : Int32) : ob_fit .int v := ⟨rfl, rfl⟩
theorem ob_obj_at {g : ob_GT} {w : ob_WT} {σ : ob_St} {k ci : Nat} {fs : List (Option Nat)} (hk : k < w.1) (hs : w.2.1 k = .inr (.inl (ci, fs))) : (ob_w g w σ)[k]? = some (w.2.2 k, .inr (ci, ob_fv w.2.2 (σ k) 0 fs)) := by
  rw [ob_w_get hk, ob_cell_obj hs]
theorem ob_arr_at {g : ob_GT} {w : ob_WT} {σ : ob_St} {k n : Nat} (hk : k < w.1) (hs : w.2.1 k = .inl n) : (ob_w g w σ)[k]? = some (w.2.2 k, .inl (g.2.2.1, n, .inl (σ k))) := by
  rw [ob_w_get hk, ob_cell_arr hs]
theorem vv_getI {k ci idx : Nat} {fs : List (Option Nat)} (hd : decode mi.2.2.1 pc = .ok (.getfield idx, 3)) (j : Nat) (hG : ob_GF mi idx ci j) (hk : k < w.1) (hs : w.2.1 k = .inr (.inl (ci, fs))) (hj : fs[j]? = some none) (pc' : Nat) (hp : pc + 3 = pc') (kk : ob_V g w mi ov σ' σ pc' lv (.int (σ k j) :: st)) : ob_V g w mi ov σ' σ pc lv (.ref (w.2.2 k) :: st) := by
  subst hp
  intro p e s m args below meth c C H locs ls hW hl
  obtain ⟨Cn, T, N, h1, h2, h3, h4⟩ := hG
  have hv := ob_fv_int w.2.2 (σ k) fs 0 j hj
  rw [Nat.zero_add] at hv
  exact va_get (D := g.2.1) (cl := vwCl) (ci := ci) (C := Cn) (T := T) (N := N) C.1 C.2.1 C.2.2.2.2.2.1 h3 C.2.2.2.2.1 C.2.2.2.2.2.2.2.1 hW.1 k (ob_obj_at hk hs) h1 j h2 (C.2.2.2.2.2.1 _ h4) (fun _ h => h) hv hd (kk p e s m args below meth c C H locs ls hW hl)
theorem vv_getR {k ci idx k1 : Nat} {fs : List (Option Nat)} (hd : decode mi.2.2.1 pc = .ok (.getfield idx, 3)) (j : Nat) (hG : ob_GF mi idx ci j) (hk : k < w.1) (hs : w.2.1 k = .inr (.inl (ci, fs))) (hj : fs[j]? = some (some k1)) (pc' : Nat) (hp : pc + 3 = pc') (kk : ob_V g w mi ov σ' σ pc' lv (.ref (w.2.2 k1) :: st)) : ob_V g w mi ov σ' σ pc lv (.ref (w.2.2 k) :: st) := by
  subst hp
  intro p e s m args below meth c C H locs ls hW hl
  obtain ⟨Cn, T, N, h1, h2, h3, h4⟩ := hG
  have hv := ob_fv_ref w.2.2 (σ k) fs 0 j hj
  exact va_get (D := g.2.1) (cl := vwCl) (ci := ci) (C := Cn) (T := T) (N := N) C.1 C.2.1 C.2.2.2.2.2.1 h3 C.2.2.2.2.1 C.2.2.2.2.2.2.2.1 hW.1 k (ob_obj_at hk hs) h1 j h2 (C.2.2.2.2.2.1 _ h4) (fun _ h => h) hv hd (kk p e s m args below meth c C H locs ls hW hl)
theorem vv_putI {α : Type} {r : α} {x : Int32} {K : ob_St → Option α} {k ci idx : Nat} {fs : List (Option Nat)} {ty : FieldType} (hd : decode mi.2.2.1 pc = .ok (.putfield idx, 3)) (j : Nat) (hG : ob_PF mi idx ci j ty) (hk : k < w.1) (hs : w.2.1 k = .inr (.inl (ci, fs))) (hj : fs[j]? = some none) (hx : ob_fit ty x) (pc' : Nat) (hp : pc + 3 = pc') (hf : ob_pf σ k j x K = some r) (kk : ∀ σ1 : ob_St, K σ1 = some r → ob_V g w mi ov σ' σ1 pc' lv st) : ob_V g w mi ov σ' σ pc lv (.int x :: .ref (w.2.2 k) :: st) := by
  subst hp
  intro p e s m args below meth c C H locs ls hW hl
  obtain ⟨Cn, T, N, ty0, h1, h2, h3, h4, h5, h6, h7, h8⟩ := hG
  have hjl : j < (ob_fv w.2.2 (σ k) 0 fs).length := by
    rw [ob_fv_len]
    exact (List.getElem?_eq_some_iff.mp hj).1
  have hset : (ob_w g w σ).set k (w.2.2 k, .inr (ci, (ob_fv w.2.2 (σ k) 0 fs).set j (.int x))) = ob_w g w (ob_up σ k j x) := by
    refine ob_w_set hk ?_ (fun i hi => ob_upA_ne _ _ _ hi)
    rw [ob_cell_obj hs]
    have h9 := ob_fv_set w.2.2 (σ k) x fs 0 j hj
    rw [Nat.zero_add] at h9
    rw [show ob_up σ k j x k = upd (σ k) j x from ob_upA_self _ _ _, h9]
  refine va_put (D := g.2.1) (cl := vwCl) (ci := ci) (C := Cn) (T := T) (N := N) (v := .int x) (ty := ty) C.1 C.2.1 C.2.2.2.2.2.1 h3 ty0 h5 h6 C.2.2.2.2.1 C.2.2.2.2.2.2.2.1 hW.1 hW.2.1 hW.2.2 k (ob_obj_at hk hs) h1 j h2 (C.2.2.2.2.2.1 _ h4) (fun _ h => h) h7 h8 hx.1 hx.2 hjl hd (fun H1 locs1 hP hD hS => ?_)
  rw [hset] at hP hD
  exact kk _ hf p e s m args below meth c C H1 locs1 ls ⟨hP, hD, hS⟩ hl
theorem vv_iald {α : Type} {r : α} {i : Int32} {K : Int32 → Option α} {k n : Nat} (hd : decode mi.2.2.1 pc = .ok (.iaload, 1)) (hk : k < w.1) (hs : w.2.1 k = .inl n) (pc' : Nat) (hp : pc + 1 = pc') (hf : ob_ld σ k n i K = some r) (kk : ∀ y : Int32, K y = some r → ob_V g w mi ov σ' σ pc' lv (.int y :: st)) : ob_V g w mi ov σ' σ pc lv (.int i :: .ref (w.2.2 k) :: st) := by
  subst hp
  intro p e s m args below meth c C H locs ls hW hl
  obtain ⟨h1, h2⟩ := ob_ifs hf
  exact va_iald C.1 C.2.1 C.2.2.2.2.2.2.2.1 hW.1 k 0 (ob_arr_at hk hs) rfl (ob_in_vp h1) hd (kk _ h2 p e s m args below meth c C H locs ls hW hl)
theorem vv_iast {α : Type} {r : α} {i x : Int32} {K : ob_St → Option α} {k n : Nat} (hd : decode mi.2.2.1 pc = .ok (.iastore, 1)) (hk : k < w.1) (hs : w.2.1 k = .inl n) (pc' : Nat) (hp : pc + 1 = pc') (hf : ob_sd σ k n i x K = some r) (kk : ∀ σ1 : ob_St, K σ1 = some r → ob_V g w mi ov σ' σ1 pc' lv st) : ob_V g w mi ov σ' σ pc lv (.int x :: .int i :: .ref (w.2.2 k) :: st) := by
  subst hp
  intro p e s m args below meth c C H locs ls hW hl
  obtain ⟨h1, h2⟩ := ob_ifs hf
  have hset : (ob_w g w σ).set k (w.2.2 k, .inl (g.2.2.1, n, .inl (upd (σ k) i.toNatClampNeg x))) = ob_w g w (ob_up σ k i.toNatClampNeg x) := by
    refine ob_w_set hk ?_ (fun q hq => ob_upA_ne _ _ _ hq)
    rw [ob_cell_arr hs, show ob_up σ k i.toNatClampNeg x k = upd (σ k) i.toNatClampNeg x from ob_upA_self _ _ _]
  refine va_iast C.1 C.2.1 C.2.2.2.2.2.2.2.1 hW.1 hW.2.1 hW.2.2 k 0 (ob_arr_at hk hs) rfl (ob_in_vp h1) hd (fun H1 locs1 hP hD hS => ?_)
  rw [hset] at hP hD
  exact kk _ h2 p e s m args below meth c C H1 locs1 ls ⟨hP, hD, hS⟩ hl
theorem vv_alen {k n : Nat} (hd : decode mi.2.2.1 pc = .ok (.arraylength, 1)) (v : Int32) (hk : k < w.1) (hs : w.2.1 k = .inl n) (hv : Int32.ofNat n = v) (pc' : Nat) (hp : pc + 1 = pc') (kk : ob_V g w mi ov σ' σ pc' lv (.int v :: st)) : ob_V g w mi ov σ' σ pc lv (.ref (w.2.2 k) :: st) := by
  subst hp
  intro p e s m args below meth c C H locs ls hW hl
  exact va_alen C.1 C.2.1 C.2.2.2.2.2.2.2.1 hW.1 k 0 (x := (n, .inl (σ k))) (ob_arr_at hk hs) rfl hv hd (kk p e s m args below meth c C H locs ls hW hl)
theorem vv_qlen {k : Nat} {ks : List Nat} (hd : decode mi.2.2.1 pc = .ok (.arraylength, 1)) (v : Int32) (hk : k < w.1) (hs : w.2.1 k = .inr (.inr ks)) (hv : Int32.ofNat ks.length = v) (pc' : Nat) (hp : pc + 1 = pc') (kk : ob_V g w mi ov σ' σ pc' lv (.int v :: st)) : ob_V g w mi ov σ' σ pc lv (.ref (w.2.2 k) :: st) := by
  subst hp
  intro p e s m args below meth c C H locs ls hW hl
  exact va_alen C.1 C.2.1 C.2.2.2.2.2.2.2.1 hW.1 k 1 (x := (ks.length, .inr (.inr (.inr (.inr (fun j => (ks.map w.2.2)[j]?)))))) (by rw [ob_w_get hk, ob_cell_row hs]) rfl hv hd (kk p e s m args below meth c C H locs ls hW hl)
def ob_lq {α : Type} (ks : List Nat) (i : Int32) (K : Nat → Option α) : Option α := if ob_in i ks.length = true then (match ks[i.toNatClampNeg]? with | none => none | some q => K q) else none
theorem vv_aald {α : Type} {r : α} {i : Int32} {K : Nat → Option α} {k : Nat} {ks : List Nat} (hd : decode mi.2.2.1 pc = .ok (.aaload, 1)) (hk : k < w.1) (hs : w.2.1 k = .inr (.inr ks)) (pc' : Nat) (hp : pc + 1 = pc') (hf : ob_lq ks i K = some r) (kk : ∀ q : Nat, ks[i.toNatClampNeg]? = some q → K q = some r → ob_V g w mi ov σ' σ pc' lv (.ref (w.2.2 q) :: st)) : ob_V g w mi ov σ' σ pc lv (.int i :: .ref (w.2.2 k) :: st) := by
  subst hp
  intro p e s m args below meth c C H locs ls hW hl
  obtain ⟨h1, h2⟩ := ob_ifs hf
  cases hq : ks[i.toNatClampNeg]? with
  | none => rw [hq] at h2; cases h2
  | some q =>
    rw [hq] at h2
    have hk2 := kk q hq h2 p e s m args below meth c C H locs ls hW hl
    refine va_aldq C.1 C.2.1 C.2.2.2.2.2.2.2.1 hW.1 k 1 (f := fun j => (ks.map w.2.2)[j]?) (by rw [ob_w_get hk, ob_cell_row hs]) rfl (ob_in_vp h1) hd ?_
    rw [show va_rf ((fun j => (ks.map w.2.2)[j]?) i.toNatClampNeg) = .ref (w.2.2 q) from by show va_rf ((ks.map w.2.2)[i.toNatClampNeg]?) = _; rw [List.getElem?_map, hq]; rfl]
    exact hk2
/-- System.arraycopy(a, 0, b, 0, n) -/
theorem vv_copy {α : Type} {r : α} {K : ob_St → Option α} {k0 k1 n0 n1 idx : Nat} {x : Int32} (hd : decode mi.2.2.1 pc = .ok (.invokestatic idx, 3)) (n : Nat) (hk0 : k0 < w.1) (hs0 : w.2.1 k0 = .inl n0) (hk1 : k1 < w.1) (hs1 : w.2.1 k1 = .inl n1) (hx : ¬ x < 0 ∧ x.toNatClampNeg = n) (hn : n ≤ n0 ∧ n ≤ n1) (hm : Cond.methodLink mi.1.cls idx arraycopyName ∈ mi.2.1 ∧ Cond.native arraycopyName ∈ mi.2.1 ∧ Cond.static arraycopyName ∈ mi.2.1 ∧ Cond.initialized "java/lang/System" ∈ mi.2.1) (hrm : 1 ≤ mi.2.2.2.2.2.frames) (hro : (st.map fun v => v.category).sum + (nativeFrameWords "java/lang/System" "arraycopy" 5 + 11) ≤ mi.2.2.2.2.2.locals) (pc' : Nat) (hp : pc + 3 = pc') (hf : ob_cp σ k0 k1 n K = some r) (kk : ∀ σ1 : ob_St, K σ1 = some r → ob_V g w mi ov σ' σ1 pc' lv st) : ob_V g w mi ov σ' σ pc lv (.int x :: .int 0 :: .ref (w.2.2 k1) :: .int 0 :: .ref (w.2.2 k0) :: st) := by
  subst hp
  intro p e s m args below meth c C H locs ls hW hl
  have hts := C.2.2.2.2.2.1
  have z0 : (0 : Int32).toNatClampNeg = 0 := by decide
  have hset : (ob_w g w σ).set k1 (w.2.2 k1, .inl (g.2.2.1, n1, .inl (va_cpy (σ k0) (σ k1) 0 0 n))) = ob_w g w (ob_upA σ k1 (va_cpy (σ k0) (σ k1) 0 0 n)) := by
    refine ob_w_set hk1 ?_ (fun q hq => ob_upA_ne _ _ _ hq)
    rw [ob_cell_arr hs1, ob_upA_self]
  refine va_copyi (sp := 0) (dp := 0) (n := x) (ty := .int) C.1 C.2.1 (C.2.2.1.trans hl.1.symm) C.2.2.2.2.1 (hts _ hm.1) (hts _ hm.2.1) (hts _ hm.2.2.1) (hts _ hm.2.2.2) C.2.2.2.2.2.2.2.1 hW.1 hW.2.1 hW.2.2 k0 k1 0 0 (ob_arr_at hk0 hs0) (ob_arr_at hk1 hs1) rfl rfl rfl (by decide) (by decide) hx.1 (by rw [z0, hx.2]; omega) (by rw [z0, hx.2]; omega) (fun _ _ => rfl) hrm hro hd (fun H1 locs1 hP hD hS => ?_)
  rw [z0, hx.2, hset] at hP hD
  exact kk _ hf p e s m args below meth c C H1 locs1 ls ⟨hP, hD, hS⟩ hl
def ob_mm (mi : ob_MI) (idx : Nat) (y : MethodName) (cd : Cond) : Prop := Cond.methodLink mi.1.cls idx y ∈ mi.2.1 ∧ Cond.static y ∈ mi.2.1 ∧ Cond.initialized "java/lang/Math" ∈ mi.2.1 ∧ cd ∈ mi.2.1
theorem vv_max {idx : Nat} {x y : Int32} (hd : decode mi.2.2.1 pc = .ok (.invokestatic idx, 3)) (hm : ob_mm mi idx Lib.Math.max.name (.code Lib.Math.max.name Lib.Math.max.code 2 (some .int))) (hrm : 1 ≤ mi.2.2.2.2.2.frames) (hro : (st.map fun v => v.category).sum + 13 ≤ mi.2.2.2.2.2.locals) (pc' : Nat) (hp : pc + 3 = pc') (kk : ob_V g w mi ov σ' σ pc' lv (.int (ob_max x y) :: st)) : ob_V g w mi ov σ' σ pc lv (.int y :: .int x :: st) := by
  subst hp
  intro p e s m args below meth c C H locs ls hW hl
  have hts := C.2.2.2.2.2.1
  exact va_mmax C.1 C.2.1 (C.2.2.1.trans hl.1.symm) C.2.2.2.2.1 (hts _ hm.1) (hts _ hm.2.1) (hts _ hm.2.2.1) (hts _ hm.2.2.2) hrm hro (Nat.zero_le _) (Nat.zero_le _) hd (kk p e s m args below meth c C H locs ls hW hl)
theorem vv_min {idx : Nat} {x y : Int32} (hd : decode mi.2.2.1 pc = .ok (.invokestatic idx, 3)) (hm : ob_mm mi idx Lib.Math.min.name (.code Lib.Math.min.name Lib.Math.min.code 2 (some .int))) (hrm : 1 ≤ mi.2.2.2.2.2.frames) (hro : (st.map fun v => v.category).sum + 13 ≤ mi.2.2.2.2.2.locals) (pc' : Nat) (hp : pc + 3 = pc') (kk : ob_V g w mi ov σ' σ pc' lv (.int (ob_min x y) :: st)) : ob_V g w mi ov σ' σ pc lv (.int y :: .int x :: st) := by
  subst hp
  intro p e s m args below meth c C H locs ls hW hl
  have hts := C.2.2.2.2.2.1
  exact va_mmin C.1 C.2.1 (C.2.2.1.trans hl.1.symm) C.2.2.2.2.1 (hts _ hm.1) (hts _ hm.2.1) (hts _ hm.2.2.1) (hts _ hm.2.2.2) hrm hro (Nat.zero_le _) (Nat.zero_le _) hd (kk p e s m args below meth c C H locs ls hW hl)
theorem vv_abs {idx : Nat} {x : Int32} (hd : decode mi.2.2.1 pc = .ok (.invokestatic idx, 3)) (hm : ob_mm mi idx Lib.Math.abs.name (.code Lib.Math.abs.name Lib.Math.abs.code 1 (some .int))) (hrm : 1 ≤ mi.2.2.2.2.2.frames) (hro : (st.map fun v => v.category).sum + 13 ≤ mi.2.2.2.2.2.locals) (pc' : Nat) (hp : pc + 3 = pc') (kk : ob_V g w mi ov σ' σ pc' lv (.int (ob_abs x) :: st)) : ob_V g w mi ov σ' σ pc lv (.int x :: st) := by
  subst hp
  intro p e s m args below meth c C H locs ls hW hl
  have hts := C.2.2.2.2.2.1
  exact va_mabs C.1 C.2.1 (C.2.2.1.trans hl.1.symm) C.2.2.2.2.1 (hts _ hm.1) (hts _ hm.2.1) (hts _ hm.2.2.1) (hts _ hm.2.2.2) hrm hro (Nat.zero_le _) (Nat.zero_le _) hd (kk p e s m args below meth c C H locs ls hW hl)
/-! ENDS -/
theorem ob_end {p : Program} {s : State} {m : MethodId} {args : Array Value} {meth : Method} {c : Code} {H : Heap} {locs : List Loc} (C : ob_Cx g w mi p s m args meth c) (hW : ob_Wd g w σ s H locs) : ∀ t : State, t.heap = H → s.WarmedH t.vm → ob_Q g w ov σ args s (.returned ov) t := by
  intro t ht hW2
  refine ⟨⟨rfl, ?_, va_K.moved hW2.alike C.2.2.2.2.2.2.2.1, hW.2.1⟩, hW.2.2.F ht⟩
  rw [ht]
  exact hW.1
theorem vv_ireti {v r : Int32} (hr : mi.2.2.2.2.1 = some .int) (hd : decode mi.2.2.1 pc = .ok (.ireturn, 1)) (hf : some (v, σ) = some (r, σ')) : ob_V g w mi (some (.int r)) σ' σ pc lv [.int v] := by
  obtain ⟨rfl, rfl⟩ := Prod.mk.inj (Option.some.inj hf)
  intro p e s m args below meth c C H locs ls hW hl
  exact W.iret C.1 C.2.1 (C.2.2.2.1.trans hr) (ob_end C hW) hW.2.2.2.2 hd C.2.2.2.2.2.2.1
theorem ob_rb_inv {v r : Int32} (hf : ob_rb v σ = some (r, σ')) : (v = 0 ∨ v = 1) ∧ v = r ∧ σ = σ' := by
  obtain ⟨h1, h2⟩ := ob_ifs hf
  obtain ⟨h3, h4⟩ := Prod.mk.inj (Option.some.inj h2)
  exact ⟨h1, h3, h4⟩
theorem vv_iretz {v r : Int32} (hr : mi.2.2.2.2.1 = some .boolean) (hd : decode mi.2.2.1 pc = .ok (.ireturn, 1)) (hf : ob_rb v σ = some (r, σ')) : ob_V g w mi (some (.int r)) σ' σ pc lv [.int v] := by
  obtain ⟨h1, rfl, rfl⟩ := ob_rb_inv hf
  intro p e s m args below meth c C H locs ls hW hl
  refine W.zret C.1 C.2.1 (C.2.2.2.1.trans hr) ?_ (ob_end C hW) hW.2.2.2.2 hd C.2.2.2.2.2.2.1
  rcases h1 with rfl | rfl <;> rfl
theorem vv_ret {r : Unit} (hr : mi.2.2.2.2.1 = none) (hd : decode mi.2.2.1 pc = .ok (.return_, 1)) (hf : some ((), σ) = some (r, σ')) : ob_V g w mi none σ' σ pc lv [] := by
  obtain ⟨-, rfl⟩ := Prod.mk.inj (Option.some.inj hf)
  intro p e s m args below meth c C H locs ls hW hl
  exact W.vret C.1 C.2.1 (C.2.2.2.1.trans hr) (ob_end C hW) hW.2.2.2.2 hd C.2.2.2.2.2.2.1
/-- a reference's return, to a cell of the world or to a text: its place is the value -/
theorem vv_aret {q r : Nat} (f : Nat → Nat) {nm : String} (hr : mi.2.2.2.2.1 = some (.object nm)) (hd : decode mi.2.2.1 pc = .ok (.areturn, 1)) (hf : some (q, σ) = some (r, σ')) : ob_V g w mi (some (.ref (f r))) σ' σ pc lv [.ref (f q)] := by
  obtain ⟨rfl, rfl⟩ := Prod.mk.inj (Option.some.inj hf)
  intro p e s m args below meth c C H locs ls hW hl
  exact W.aret C.1 C.2.1 (C.2.2.2.1.trans hr) (Or.inl ⟨nm, rfl⟩) (Or.inr ⟨_, rfl⟩) (ob_end C hW) hW.2.2.2.2 hd C.2.2.2.2.2.2.1
/-! CALLS -/
theorem ob_A_mono {w : ob_WT} {a b : Nat} (h : a ≤ b) : ∀ q, ob_A w b q → ob_A w a q := fun _ hq => hq.elim Or.inl (fun z => Or.inr (Nat.le_trans h z))
theorem ob_blind (g : ob_GT) (w : ob_WT) (σ : ob_St) (sz : Nat) (as : List Value) : FrameBlind (va_Pc as (ob_Pre g w σ sz)) := by
  intro a U f mk hq
  obtain ⟨q0, q1, q2, q3, q4, q5⟩ := hq
  exact ⟨q0, q1, q2, va_K.moved (u := U) (U := U.calling f mk a) (Vm.Alike.refl U.vm) q3, q4, ob_S.go (U := U.calling f mk a) q5 (Vm.Alike.refl U.vm) (ob_S3.same (u := U) rfl q5.2.2) (fun _ _ _ => rfl) (fun _ h => h)⟩
theorem ob_preU {p : Program} {s : State} {m : MethodId} {args : Array Value} {meth : Method} {c : Code} {H : Heap} {locs : List Loc} (C : ob_Cx g w mi p s m args meth c) (hW : ob_Wd g w σ s H locs) (U : State) (hU : U.heap = H) (hw : s.WarmedH U.vm) : ob_Pre g w σ H.size U := by
  have hS0 := C.2.2.2.2.2.2.2.2
  refine ⟨by rw [hU], ?_, va_K.moved hw.alike C.2.2.2.2.2.2.2.1, hW.2.1.weaken (fun _ _ _ _ => trivial), ?_⟩
  · rw [hU]; exact hW.1
  · rw [hU]; exact ob_S.go hS0 hw.alike (ob_S3.warm hw hS0.2.2) hW.2.2.2.1 (ob_A_mono hW.2.2.1)
theorem ob_callG {ov1 : Option Value} {σ1 : ob_St} {a : Array Value} {rest st0 : List Value} {p : Program} {e : Env} {s : State} {m : MethodId} {args : Array Value} {below : List Frame} {meth : Method} {c : Code} {H : Heap} {locs : List Loc} {ls : Array Slot}
    (kk : ob_V g w mi ov σ' σ1 (pc + 3) lv (ov1.toList ++ rest)) (C : ob_Cx g w mi p s m args meth c) (hW : ob_Wd g w σ s H locs) (hl : lv_has ls mi.2.2.2.1 lv)
    (hr : va_Run p g.1 e mi.2.2.2.2.2 s m args below meth c H locs 0 0 0 0 (F0 m pc ls st0) rest (ob_Q g w ov1 σ1 a) (ob_A w H.size)) :
    W p g.1 e mi.2.2.2.2.2 s m args below meth c H locs 0 0 (MQ below (ob_Q g w ov σ') args s 0 0 (ob_A w s.heap.size)) (F0 m pc ls st0) := by
  intro T hT X
  obtain ⟨v, st₀, t, T', L, h0, X', hL, e1, e2, ⟨⟨hv, hP1, hK1, hD1⟩, hz, hk⟩, st⟩ := hr T hT X
  cases hv
  rw [h0] at hz hk hD1
  have hS := hW.2.2
  have hWd : ob_Wd g w σ1 s T'.heap (locs ++ L) := by
    rw [e1]
    refine ⟨hP1, hD1.weaken (fun _ q _ hq => ob_A_mono hS.1 _ hq), Nat.le_trans hS.1 hz, fun q h1 h2 => ?_, fun q hq => ?_⟩
    · rw [hk q (Nat.lt_of_lt_of_le h1 hS.1) (fun z => h2 (ob_A_mono hS.1 _ z))]
      exact hS.2.1 q h1 h2
    · rcases List.mem_append.mp hq with h | h
      · exact hS.2.2 q h
      · exact ob_A_mono hS.1 _ (hL q h)
  obtain ⟨t2, a1, b1⟩ := kk p e s m args below meth c C T'.heap (locs ++ L) ls hWd hl T' rfl X'
  exact ⟨t2, st t2 a1, b1⟩
def ob_CV (mi mj : ob_MI) (idx : Nat) (Cn : String) (n : Nat) : Prop := GoodIn mi.2.1 (wsV mi.1.cls idx Cn mj.1 mj.2.1) ∧ mj.2.1 = Cond.code mj.1 mj.2.2.1 mj.2.2.2.1 mj.2.2.2.2.1 :: mj.2.1.tail ∧ mj.2.2.2.2.2.cells = 0 ∧ mj.2.2.2.2.2.slots = 0 ∧ (mj.1.cls = Cn ∧ mj.1.cls ≠ "java/lang/invoke/MethodHandle" ∧ mj.1.cls ≠ "java/lang/invoke/VarHandle" ∧ (parseMethodDescriptor mj.1.desc).map (fun d => d.parameters.length) = some n) ∧ (mj.2.2.2.2.2.frames + 1 ≤ mi.2.2.2.2.2.frames ∧ 8 + (mj.2.2.2.1 + 11) + mj.2.2.2.2.2.locals ≤ mi.2.2.2.2.2.locals)
def ob_CS (mi mj : ob_MI) (idx : Nat) (n : Nat) : Prop := GoodIn mi.2.1 (va_wsS mi.1.cls idx mj.1 mj.2.1) ∧ mj.2.1 = Cond.code mj.1 mj.2.2.1 mj.2.2.2.1 mj.2.2.2.2.1 :: mj.2.1.tail ∧ mj.2.2.2.2.2.cells = 0 ∧ mj.2.2.2.2.2.slots = 0 ∧ (mj.1.cls ≠ "java/lang/invoke/MethodHandle" ∧ mj.1.cls ≠ "java/lang/invoke/VarHandle" ∧ (parseMethodDescriptor mj.1.desc).map (fun d => d.parameters.length) = some n) ∧ (mj.2.2.2.2.2.frames + 1 ≤ mi.2.2.2.2.2.frames ∧ 8 + (mj.2.2.2.1 + 11) + mj.2.2.2.2.2.locals ≤ mi.2.2.2.2.2.locals)
theorem ob_goodA {big ws : List Cond} (hb : ∀ w ∈ ob_all, w ∈ big) (ws1 : List Cond) (h1 : ∀ w ∈ ws1, w ∈ ob_all) (h2 : GoodIn big ws) : GoodIn big (ws1 ++ ws) := by
  intro w hw
  rcases List.mem_append.mp hw with h | h
  · exact ⟨hb w (h1 w h), good_of_word (List.mem_filter.mp (h1 w h)).2⟩
  · exact h2 w h
theorem ob_cvI {mi mj : ob_MI} {idx n : Nat} {Cn : String} (hi : mi.2.1 = Cond.code mi.1 mi.2.2.1 mi.2.2.2.1 mi.2.2.2.2.1 :: ob_all) (hj : mj.2.1 = Cond.code mj.1 mj.2.2.1 mj.2.2.2.1 mj.2.2.2.2.1 :: ob_all) (h1 : Cond.methodLink mi.1.cls idx mj.1 ∈ ob_all) (h2 : Cond.instanceMethod mj.1 ∈ ob_all) (h3 : Cond.selects Cn mj.1 mj.1 ∈ ob_all) (h4 : Cond.initialized Cn ∈ ob_all) (h5 : Cond.code mj.1 mj.2.2.1 mj.2.2.2.1 mj.2.2.2.2.1 ∈ ob_all)
    (h0 : mj.2.2.2.2.2.cells = 0 ∧ mj.2.2.2.2.2.slots = 0) (hd : mj.1.cls = Cn ∧ mj.1.cls ≠ "java/lang/invoke/MethodHandle" ∧ mj.1.cls ≠ "java/lang/invoke/VarHandle" ∧ (parseMethodDescriptor mj.1.desc).map (fun d => d.parameters.length) = some n) (hR : mj.2.2.2.2.2.frames + 1 ≤ mi.2.2.2.2.2.frames ∧ 8 + (mj.2.2.2.1 + 11) + mj.2.2.2.2.2.locals ≤ mi.2.2.2.2.2.locals) : ob_CV mi mj idx Cn n := by
  have hb : ∀ w ∈ ob_all, w ∈ mi.2.1 := fun w h => by rw [hi]; exact List.mem_cons_of_mem _ h
  refine ⟨?_, by rw [hj]; rfl, h0.1, h0.2, hd, hR⟩
  unfold wsV
  refine ob_goodA hb _ ?_ (by rw [hj]; exact ob_good hb h5)
  intro w hw
  simp only [List.mem_cons, List.not_mem_nil, or_false] at hw
  rcases hw with rfl | rfl | rfl | rfl
  · exact h1
  · exact h2
  · exact h3
  · exact h4
theorem ob_csI {mi mj : ob_MI} {idx n : Nat} (hi : mi.2.1 = Cond.code mi.1 mi.2.2.1 mi.2.2.2.1 mi.2.2.2.2.1 :: ob_all) (hj : mj.2.1 = Cond.code mj.1 mj.2.2.1 mj.2.2.2.1 mj.2.2.2.2.1 :: ob_all) (h1 : Cond.methodLink mi.1.cls idx mj.1 ∈ ob_all) (h2 : Cond.static mj.1 ∈ ob_all) (h4 : Cond.initialized mj.1.cls ∈ ob_all) (h5 : Cond.code mj.1 mj.2.2.1 mj.2.2.2.1 mj.2.2.2.2.1 ∈ ob_all)
    (h0 : mj.2.2.2.2.2.cells = 0 ∧ mj.2.2.2.2.2.slots = 0) (hd : mj.1.cls ≠ "java/lang/invoke/MethodHandle" ∧ mj.1.cls ≠ "java/lang/invoke/VarHandle" ∧ (parseMethodDescriptor mj.1.desc).map (fun d => d.parameters.length) = some n) (hR : mj.2.2.2.2.2.frames + 1 ≤ mi.2.2.2.2.2.frames ∧ 8 + (mj.2.2.2.1 + 11) + mj.2.2.2.2.2.locals ≤ mi.2.2.2.2.2.locals) : ob_CS mi mj idx n := by
  have hb : ∀ w ∈ ob_all, w ∈ mi.2.1 := fun w h => by rw [hi]; exact List.mem_cons_of_mem _ h
  refine ⟨?_, by rw [hj]; rfl, h0.1, h0.2, hd, hR⟩
  unfold va_wsS
  refine ob_goodA hb _ ?_ (by rw [hj]; exact ob_good hb h5)
  intro w hw
  simp only [List.mem_cons, List.not_mem_nil, or_false] at hw
  rcases hw with rfl | rfl | rfl
  · exact h1
  · exact h2
  · exact h4
/-- a receiver: a cell that holds an object of the class Cn, at every point of the method -/
def ob_Rec (g : ob_GT) (w : ob_WT) (σ : ob_St) (Cn : String) (b : Nat) : Prop := ∀ (s : State) (H : Heap) (locs : List Loc), va_K g.2.1 vwCl (ob_tys g) s → ob_S g (ob_A w s.heap.size) s s.heap → ob_Wd g w σ s H locs → ∃ cell : Cell, H[b]? = some cell ∧ cell.vm.isStatics = false ∧ s.vm.findClass Cn = some cell.cls
theorem ob_rec {k ci : Nat} {fs : List (Option Nat)} {Cn : String} {T : u_T} {N : Nat} (hk : k < w.1) (hs : w.2.1 k = .inr (.inl (ci, fs))) (hcl : vwCl[ci]? = some (Cn, T, N)) : ob_Rec g w σ Cn (w.2.2 k) := by
  intro s H locs hK _ hW
  exact va_recv (q := (Cn, T, N)) hK hW.1 hcl (ob_obj_at hk hs)
theorem ob_recS {i : Nat} (hi : i < 7) : ob_Rec g w σ "java/lang/String" (g.2.2.2.2.1 i) := by
  intro s H locs _ hS hW
  exact vk_recv hS.1.1 hi hW.2.2
theorem vv_callVg {α β : Type} {r : α} {F : Option (β × ob_St)} {K : β → ob_St → Option α} {mj : ob_MI} {b idx n : Nat} {Cn : String} (As rest : List Value) (val : β → Option Value) (hc : ∀ (r1 : β) (σ1 : ob_St), F = some (r1, σ1) → ob_CT g w mj (.ref b :: As) σ (val r1) σ1) (hR : ob_Rec g w σ Cn b) (hG : ob_CV mi mj idx Cn n) (hn : As.length = n)
    (hro : (rest.map fun v => v.category).sum ≤ 8) (pc' : Nat) (hp : pc + 3 = pc') (hd : decode mi.2.2.1 pc = .ok (.invokevirtual idx, 3)) (hst : st = As.reverse ++ .ref b :: rest) (hf : ob_bd F K = some r) (kk : ∀ (r1 : β) (σ1 : ob_St), K r1 σ1 = some r → ob_V g w mi ov σ' σ1 pc' lv ((val r1).toList ++ rest)) : ob_V g w mi ov σ' σ pc lv st := by
  subst hp
  intro p e s m args below meth c C H locs ls hW hl
  obtain ⟨h1, h2, h3, h4, h5, h6⟩ := hG
  cases hF : F with
  | none => rw [hF] at hf; cases hf
  | some q =>
    obtain ⟨r1, σ1⟩ := q
    rw [hF] at hf
    exact ob_callG (kk r1 σ1 hf) C hW hl (va_runV (As := As) (rest := rest) ⟨C.1, C.2.1, C.2.2.1, C.2.2.2.2.1, C.2.2.2.2.2.1⟩ (hc r1 σ1 hF H.size) (cwV n C.2.2.2.2.2.1 h1 h2 h3 h4 h5 h6) ⟨ob_blind g w σ H.size _, hR s H locs C.2.2.2.2.2.2.2.1 C.2.2.2.2.2.2.2.2 hW, fun U hU hw => ⟨rfl, ob_preU C hW U hU hw⟩⟩ rfl hn hl.1 hst (lv_room hro) hd ⟨Nat.zero_le _, Nat.zero_le _⟩)
theorem vv_callSg {α β : Type} {r : α} {F : Option (β × ob_St)} {K : β → ob_St → Option α} {mj : ob_MI} {idx n : Nat} (As rest : List Value) (val : β → Option Value) (hc : ∀ (r1 : β) (σ1 : ob_St), F = some (r1, σ1) → ob_CT g w mj As σ (val r1) σ1) (hG : ob_CS mi mj idx n) (hn : As.length = n)
    (hro : (rest.map fun v => v.category).sum ≤ 8) (pc' : Nat) (hp : pc + 3 = pc') (hd : decode mi.2.2.1 pc = .ok (.invokestatic idx, 3)) (hst : st = As.reverse ++ rest) (hf : ob_bd F K = some r) (kk : ∀ (r1 : β) (σ1 : ob_St), K r1 σ1 = some r → ob_V g w mi ov σ' σ1 pc' lv ((val r1).toList ++ rest)) : ob_V g w mi ov σ' σ pc lv st := by
  subst hp
  intro p e s m args below meth c C H locs ls hW hl
  obtain ⟨h1, h2, h3, h4, h5, h6⟩ := hG
  cases hF : F with
  | none => rw [hF] at hf; cases hf
  | some q =>
    obtain ⟨r1, σ1⟩ := q
    rw [hF] at hf
    exact ob_callG (kk r1 σ1 hf) C hW hl (va_runS (As := As) (rest := rest) ⟨C.1, C.2.1, C.2.2.1, C.2.2.2.2.1, C.2.2.2.2.2.1⟩ (hc r1 σ1 hF H.size) (va_cwS n C.2.2.2.2.2.1 h1 h2 h3 h4 h5 h6) ⟨ob_blind g w σ H.size _, fun U hU hw => ⟨rfl, ob_preU C hW U hU hw⟩⟩ rfl hn hl.1 hst (lv_room hro) hd ⟨Nat.zero_le _, Nat.zero_le _⟩)
theorem vv_callV {α : Type} {r : α} {F : Option (Int32 × ob_St)} {K : Int32 → ob_St → Option α} {mj : ob_MI} {b idx n : Nat} {Cn : String} (As rest : List Value) (hc : ∀ (r1 : Int32) (σ1 : ob_St), F = some (r1, σ1) → ob_CT g w mj (.ref b :: As) σ (some (.int r1)) σ1) (hR : ob_Rec g w σ Cn b) (hG : ob_CV mi mj idx Cn n) (hn : As.length = n)
    (hro : (rest.map fun v => v.category).sum ≤ 8) (pc' : Nat) (hp : pc + 3 = pc') (hd : decode mi.2.2.1 pc = .ok (.invokevirtual idx, 3)) (hst : st = As.reverse ++ .ref b :: rest) (hf : ob_bd F K = some r) (kk : ∀ (r1 : Int32) (σ1 : ob_St), K r1 σ1 = some r → ob_V g w mi ov σ' σ1 pc' lv (.int r1 :: rest)) : ob_V g w mi ov σ' σ pc lv st :=
  vv_callVg As rest (fun r1 => some (.int r1)) hc hR hG hn hro pc' hp hd hst hf kk
theorem vv_callVu {α : Type} {r : α} {F : Option (Unit × ob_St)} {K : Unit → ob_St → Option α} {mj : ob_MI} {b idx n : Nat} {Cn : String} (As rest : List Value) (hc : ∀ (r1 : Unit) (σ1 : ob_St), F = some (r1, σ1) → ob_CT g w mj (.ref b :: As) σ none σ1) (hR : ob_Rec g w σ Cn b) (hG : ob_CV mi mj idx Cn n) (hn : As.length = n)
    (hro : (rest.map fun v => v.category).sum ≤ 8) (pc' : Nat) (hp : pc + 3 = pc') (hd : decode mi.2.2.1 pc = .ok (.invokevirtual idx, 3)) (hst : st = As.reverse ++ .ref b :: rest) (hf : ob_bd F K = some r) (kk : ∀ (r1 : Unit) (σ1 : ob_St), K r1 σ1 = some r → ob_V g w mi ov σ' σ1 pc' lv rest) : ob_V g w mi ov σ' σ pc lv st :=
  vv_callVg As rest (fun _ => none) hc hR hG hn hro pc' hp hd hst hf kk
theorem vv_callVr {α : Type} {r : α} {F : Option (Nat × ob_St)} {K : Nat → ob_St → Option α} {mj : ob_MI} {b idx n : Nat} {Cn : String} (As rest : List Value) (f : Nat → Nat) (hc : ∀ (r1 : Nat) (σ1 : ob_St), F = some (r1, σ1) → ob_CT g w mj (.ref b :: As) σ (some (.ref (f r1))) σ1) (hR : ob_Rec g w σ Cn b) (hG : ob_CV mi mj idx Cn n) (hn : As.length = n)
    (hro : (rest.map fun v => v.category).sum ≤ 8) (pc' : Nat) (hp : pc + 3 = pc') (hd : decode mi.2.2.1 pc = .ok (.invokevirtual idx, 3)) (hst : st = As.reverse ++ .ref b :: rest) (hf : ob_bd F K = some r) (kk : ∀ (r1 : Nat) (σ1 : ob_St), K r1 σ1 = some r → ob_V g w mi ov σ' σ1 pc' lv (.ref (f r1) :: rest)) : ob_V g w mi ov σ' σ pc lv st :=
  vv_callVg As rest (fun r1 => some (.ref (f r1))) hc hR hG hn hro pc' hp hd hst hf kk
theorem vv_callS {α : Type} {r : α} {F : Option (Int32 × ob_St)} {K : Int32 → ob_St → Option α} {mj : ob_MI} {idx n : Nat} (As rest : List Value) (hc : ∀ (r1 : Int32) (σ1 : ob_St), F = some (r1, σ1) → ob_CT g w mj As σ (some (.int r1)) σ1) (hG : ob_CS mi mj idx n) (hn : As.length = n)
    (hro : (rest.map fun v => v.category).sum ≤ 8) (pc' : Nat) (hp : pc + 3 = pc') (hd : decode mi.2.2.1 pc = .ok (.invokestatic idx, 3)) (hst : st = As.reverse ++ rest) (hf : ob_bd F K = some r) (kk : ∀ (r1 : Int32) (σ1 : ob_St), K r1 σ1 = some r → ob_V g w mi ov σ' σ1 pc' lv (.int r1 :: rest)) : ob_V g w mi ov σ' σ pc lv st :=
  vv_callSg As rest (fun r1 => some (.int r1)) hc hG hn hro pc' hp hd hst hf kk
theorem vv_callSu {α : Type} {r : α} {F : Option (Unit × ob_St)} {K : Unit → ob_St → Option α} {mj : ob_MI} {idx n : Nat} (As rest : List Value) (hc : ∀ (r1 : Unit) (σ1 : ob_St), F = some (r1, σ1) → ob_CT g w mj As σ none σ1) (hG : ob_CS mi mj idx n) (hn : As.length = n)
    (hro : (rest.map fun v => v.category).sum ≤ 8) (pc' : Nat) (hp : pc + 3 = pc') (hd : decode mi.2.2.1 pc = .ok (.invokestatic idx, 3)) (hst : st = As.reverse ++ rest) (hf : ob_bd F K = some r) (kk : ∀ (r1 : Unit) (σ1 : ob_St), K r1 σ1 = some r → ob_V g w mi ov σ' σ1 pc' lv rest) : ob_V g w mi ov σ' σ pc lv st :=
  vv_callSg As rest (fun _ => none) hc hG hn hro pc' hp hd hst hf kk
theorem vv_callSr {α : Type} {r : α} {F : Option (Nat × ob_St)} {K : Nat → ob_St → Option α} {mj : ob_MI} {idx n : Nat} (As rest : List Value) (f : Nat → Nat) (hc : ∀ (r1 : Nat) (σ1 : ob_St), F = some (r1, σ1) → ob_CT g w mj As σ (some (.ref (f r1))) σ1) (hG : ob_CS mi mj idx n) (hn : As.length = n)
    (hro : (rest.map fun v => v.category).sum ≤ 8) (pc' : Nat) (hp : pc + 3 = pc') (hd : decode mi.2.2.1 pc = .ok (.invokestatic idx, 3)) (hst : st = As.reverse ++ rest) (hf : ob_bd F K = some r) (kk : ∀ (r1 : Nat) (σ1 : ob_St), K r1 σ1 = some r → ob_V g w mi ov σ' σ1 pc' lv (.ref (f r1) :: rest)) : ob_V g w mi ov σ' σ pc lv st :=
  vv_callSg As rest (fun r1 => some (.ref (f r1))) hc hG hn hro pc' hp hd hst hf kk
/-- a private static of a nest mate -/
theorem vv_callSN {α : Type} {r : α} {F : Option (Int32 × ob_St)} {K : Int32 → ob_St → Option α} {mj : ob_MI} {idx n : Nat} {host : String} (As rest : List Value) (hc : ∀ (r1 : Int32) (σ1 : ob_St), F = some (r1, σ1) → ob_CT g w mj As σ (some (.int r1)) σ1) (hG : GoodIn mi.2.1 mj.2.1) (hw : mj.2.1 = Cond.code mj.1 mj.2.2.1 mj.2.2.2.1 mj.2.2.2.2.1 :: mj.2.1.tail) (h0 : mj.2.2.2.2.2.cells = 0 ∧ mj.2.2.2.2.2.slots = 0) (h5 : mj.1.cls ≠ "java/lang/invoke/MethodHandle" ∧ mj.1.cls ≠ "java/lang/invoke/VarHandle" ∧ (parseMethodDescriptor mj.1.desc).map (fun d => d.parameters.length) = some n) (h6 : mj.2.2.2.2.2.frames + 1 ≤ mi.2.2.2.2.2.frames ∧ 8 + (mj.2.2.2.1 + 11) + mj.2.2.2.2.2.locals ≤ mi.2.2.2.2.2.locals) (hi : Cond.initialized mj.1.cls ∈ mi.2.1 ∧ Cond.static mj.1 ∈ mi.2.1) (hN : ∀ u : State, ob_S3 g u → va_Nw (.methodLinkNest mi.1.cls idx mj.1 host) u) (hn : As.length = n)
    (hro : (rest.map fun v => v.category).sum ≤ 8) (pc' : Nat) (hp : pc + 3 = pc') (hd : decode mi.2.2.1 pc = .ok (.invokestatic idx, 3)) (hst : st = As.reverse ++ rest) (hf : ob_bd F K = some r) (kk : ∀ (r1 : Int32) (σ1 : ob_St), K r1 σ1 = some r → ob_V g w mi ov σ' σ1 pc' lv (.int r1 :: rest)) : ob_V g w mi ov σ' σ pc lv st := by
  subst hp
  intro p e s m args below meth c C H locs ls hW hl
  have hts := C.2.2.2.2.2.1
  cases hF : F with
  | none => rw [hF] at hf; cases hf
  | some q =>
    obtain ⟨r1, σ1⟩ := q
    rw [hF] at hf
    exact ob_callG (ov1 := some (.int r1)) (kk r1 σ1 hf) C hW hl (va_runSN (As := As) (rest := rest) ⟨C.1, C.2.1, C.2.2.1, C.2.2.2.2.1, C.2.2.2.2.2.1⟩ (hc r1 σ1 hF H.size) ⟨va_cnB n hts hG hw h0.1 h0.2 (hN s C.2.2.2.2.2.2.2.2.2.2) (hts _ hi.1) h5 h6, hts _ hi.2, trivial⟩ ⟨ob_blind g w σ H.size _, fun U hU hw => ⟨rfl, ob_preU C hW U hU hw⟩⟩ rfl hn hl.1 hst (lv_room hro) hd ⟨Nat.zero_le _, Nat.zero_le _⟩)
/-- LEAST[i], GREATEST[i]: the static row of numbers, from a nest mate or from the class itself -/
theorem vv_gstN {idx : Nat} {host Cn n d : String} {v : Value} (hd : decode mi.2.2.1 pc = .ok (.getstatic idx, 3)) (hN : ∀ u : State, ob_S3 g u → va_Nw (.fieldLinkNest mi.1.cls idx Cn n d host) u) (hZ : ∀ (u : State) (A : Nat → Prop), ob_S g A u u.heap → va_Z Cn n d v A u u.heap) (pc' : Nat) (hp : pc + 3 = pc') (kk : ob_V g w mi ov σ' σ pc' lv (v :: st)) : ob_V g w mi ov σ' σ pc lv st := by
  subst hp
  intro p e s m args below meth c C H locs ls hW hl
  exact va_getsN C.1 C.2.1 (hZ s _ C.2.2.2.2.2.2.2.2) hW.2.2 C.2.2.2.2.1 (va_Nw.use rfl (hN s C.2.2.2.2.2.2.2.2.2.2)) (fun _ h => h) hd (kk p e s m args below meth c C H locs ls hW hl)
theorem vv_gst {idx : Nat} {Cn n d : String} {v : Value} (hd : decode mi.2.2.1 pc = .ok (.getstatic idx, 3)) (hm : Cond.fieldLink mi.1.cls idx Cn n d ∈ mi.2.1) (hZ : ∀ (u : State) (A : Nat → Prop), ob_S g A u u.heap → va_Z Cn n d v A u u.heap) (pc' : Nat) (hp : pc + 3 = pc') (kk : ob_V g w mi ov σ' σ pc' lv (v :: st)) : ob_V g w mi ov σ' σ pc lv st := by
  subst hp
  intro p e s m args below meth c C H locs ls hW hl
  exact va_gets C.1 C.2.1 (hZ s _ C.2.2.2.2.2.2.2.2) hW.2.2 C.2.2.2.2.1 (C.2.2.2.2.2.1 _ hm) (fun _ h => h) hd (kk p e s m args below meth c C H locs ls hW hl)
def ob_lt {α : Type} (f : Nat → Int32) (n : Nat) (i : Int32) (K : Int32 → Option α) : Option α := if ob_in i n = true then K (f i.toNatClampNeg) else none
theorem vv_tald {α : Type} {r : α} {i : Int32} {K : Int32 → Option α} {t n : Nat} {f : Nat → Int32} (hd : decode mi.2.2.1 pc = .ok (.iaload, 1)) (hT : ∀ (u : State) (A : Nat → Prop), ob_S g A u u.heap → va_T .int t n (fun j => .int (f j)) A u u.heap) (pc' : Nat) (hp : pc + 1 = pc') (hf : ob_lt f n i K = some r) (kk : ∀ y : Int32, K y = some r → ob_V g w mi ov σ' σ pc' lv (.int y :: st)) : ob_V g w mi ov σ' σ pc lv (.int i :: .ref t :: st) := by
  subst hp
  intro p e s m args below meth c C H locs ls hW hl
  obtain ⟨h1, h2⟩ := ob_ifs hf
  exact va_ti C.1 C.2.1 (hT s _ C.2.2.2.2.2.2.2.2) hW.2.2 (ob_in_vp h1) rfl hd (kk _ h2 p e s m args below meth c C H locs ls hW hl)
end OBV
section OBV2
variable {g : ob_GT} {w : ob_WT} {mi : ob_MI} {ov : Option Value} {σ σ' : ob_St} {pc : Nat} {lv : List (Nat × Value)} {st : List Value}
/-! VIRTUAL CALLS on a cell whose class inherits the method (C: the object's class; x: what is named; y: what is run) or overrides it; and super.m(..) -/
theorem ob_clAt {s : State} {ci : Nat} {Cn : String} {T : u_T} {N : Nat} (hK : va_K g.2.1 vwCl (ob_tys g) s) (hcl : vwCl[ci]? = some (Cn, T, N)) : ClassAt s Cn (g.2.1.1 ci) := (hK.1 ci _ hcl).2
def ob_ld' (mj : ob_MI) (n : Nat) (d : String) : Prop := (parseMethodDescriptor d).map (fun q => q.parameters.length) = some n
theorem vv_callU {α : Type} {r : α} {F : Option (Int32 × ob_St)} {K : Int32 → ob_St → Option α} {mj : ob_MI} {b idx n : Nat} {Cn owner : String} {x : MethodName} (hd : decode mi.2.2.1 pc = .ok (.invokevirtual idx, 3)) (As rest : List Value) (hc : ∀ (r1 : Int32) (σ1 : ob_St), F = some (r1, σ1) → ob_CT g w mj (.ref b :: As) σ (some (.int r1)) σ1) (hR : ob_Rec g w σ Cn b)
    (hi : mi.2.1 = Cond.code mi.1 mi.2.2.1 mi.2.2.2.1 mi.2.2.2.2.1 :: ob_all) (hj : mj.2.1 = Cond.code mj.1 mj.2.2.1 mj.2.2.2.1 mj.2.2.2.2.1 :: ob_all) (h1 : Cond.methodLink mi.1.cls idx x ∈ ob_all) (h2 : Cond.sameMethod x.cls owner x.name x.desc ∈ ob_all) (h3 : Cond.selects Cn x mj.1 ∈ ob_all) (h4 : Cond.instanceMethod mj.1 ∈ ob_all) (h5 : Cond.initialized mj.1.cls ∈ ob_all) (h6 : Cond.code mj.1 mj.2.2.1 mj.2.2.2.1 mj.2.2.2.2.1 ∈ ob_all)
    (hyx : mj.1 = ⟨owner, x.name, x.desc⟩ ∨ (Cond.instanceMethod ⟨owner, x.name, x.desc⟩ ∈ ob_all ∧ ∃ b0 m0 r0, Cond.code ⟨owner, x.name, x.desc⟩ b0 m0 r0 ∈ ob_all)) (h0 : mj.2.2.2.2.2.cells = 0 ∧ mj.2.2.2.2.2.slots = 0) (hq : owner ≠ "java/lang/invoke/MethodHandle" ∧ owner ≠ "java/lang/invoke/VarHandle" ∧ (parseMethodDescriptor x.desc).map (fun d => d.parameters.length) = some n) (hm : mj.2.2.2.2.2.frames + 1 ≤ mi.2.2.2.2.2.frames ∧ 8 + (mj.2.2.2.1 + 11) + mj.2.2.2.2.2.locals ≤ mi.2.2.2.2.2.locals)
    (hn : As.length = n) (hro : (rest.map fun v => v.category).sum ≤ 8) (pc' : Nat) (hp : pc + 3 = pc') (hst : st = As.reverse ++ .ref b :: rest) (hf : ob_bd F K = some r) (kk : ∀ (r1 : Int32) (σ1 : ob_St), K r1 σ1 = some r → ob_V g w mi ov σ' σ1 pc' lv (.int r1 :: rest)) : ob_V g w mi ov σ' σ pc lv st := by
  subst hp
  intro p e s m args below meth c C H locs ls hW hl
  have hb : ∀ w ∈ ob_all, w ∈ mi.2.1 := fun w h => by rw [hi]; exact List.mem_cons_of_mem _ h
  have hw : mj.2.1 = Cond.code mj.1 mj.2.2.1 mj.2.2.2.1 mj.2.2.2.2.1 :: mj.2.1.tail := by rw [hj]; rfl
  have hGj : GoodIn mi.2.1 mj.2.1 := by rw [hj]; exact ob_good hb h6
  have hts := C.2.2.2.2.2.1
  cases hF : F with
  | none => rw [hF] at hf; cases hf
  | some q =>
    obtain ⟨r1, σ1⟩ := q
    rw [hF] at hf
    have cw : va_CU mi.2.2.2.2.2 s args mi.1.cls Cn owner idx x mj.1 mj.2.2.1 mj.2.2.2.1 mj.2.2.2.2.1 mj.2.1 mj.2.2.2.2.2 0 0 n := by
      rcases hyx with hyx | ⟨hy1, b0, m0, r0, hy2⟩
      · refine va_cwU n hts ?_ hw h0.1 h0.2 hyx hq hm
        unfold va_wsU
        refine ob_goodA hb _ ?_ hGj
        intro w hw
        simp only [List.mem_cons, List.not_mem_nil, or_false] at hw
        rcases hw with rfl | rfl | rfl | rfl | rfl
        · exact h1
        · exact h2
        · exact h3
        · exact h4
        · exact h5
      · refine va_cwO n hts ?_ hw h0.1 h0.2 (hb _ hy2) hq hm
        unfold va_wsO
        refine ob_goodA hb _ ?_ hGj
        intro w hw
        simp only [List.mem_cons, List.not_mem_nil, or_false] at hw
        rcases hw with rfl | rfl | rfl | rfl | rfl | rfl
        · exact h1
        · exact h2
        · exact hy1
        · exact h3
        · exact h4
        · exact h5
    exact ob_callG (ov1 := some (.int r1)) (kk r1 σ1 hf) C hW hl (va_runU (As := As) (rest := rest) ⟨C.1, C.2.1, C.2.2.1, C.2.2.2.2.1, C.2.2.2.2.2.1⟩ (hc r1 σ1 hF H.size) cw ⟨ob_blind g w σ H.size _, hR s H locs C.2.2.2.2.2.2.2.1 C.2.2.2.2.2.2.2.2 hW, fun U hU hw => ⟨rfl, ob_preU C hW U hU hw⟩⟩ rfl hn hl.1 hst (lv_room hro) hd ⟨Nat.zero_le _, Nat.zero_le _⟩)
/-- super.m(..): the superclass's own method, or one that the superclass inherits (owner) -/
theorem vv_callP {α : Type} {r : α} {F : Option (Int32 × ob_St)} {K : Int32 → ob_St → Option α} {mj : ob_MI} {b idx n ci : Nat} {Cn : String} {T : u_T} {N : Nat} {x : MethodName} (hd : decode mi.2.2.1 pc = .ok (.invokespecial idx, 3)) (As rest : List Value) (hc : ∀ (r1 : Int32) (σ1 : ob_St), F = some (r1, σ1) → ob_CT g w mj (.ref b :: As) σ (some (.int r1)) σ1) (hR : ob_Rec g w σ Cn b) (hcl : vwCl[ci]? = some (Cn, T, N))
    (hi : mi.2.1 = Cond.code mi.1 mi.2.2.1 mi.2.2.2.1 mi.2.2.2.2.1 :: ob_all) (hj : mj.2.1 = Cond.code mj.1 mj.2.2.1 mj.2.2.2.1 mj.2.2.2.2.1 :: ob_all) (h1 : Cond.methodLink mi.1.cls idx x ∈ ob_all) (h2 : Cond.sameMethod x.cls mj.1.cls x.name x.desc ∈ ob_all) (h3 : Cond.superclass mi.1.cls x.cls ∈ ob_all) (h4 : Cond.instanceMethod mj.1 ∈ ob_all) (h5 : Cond.initialized mj.1.cls ∈ ob_all) (h6 : Cond.code mj.1 mj.2.2.1 mj.2.2.2.1 mj.2.2.2.2.1 ∈ ob_all)
    (hyx : mj.1 = ⟨mj.1.cls, x.name, x.desc⟩) (hup : x.cls = mj.1.cls ∨ Cond.superclass x.cls mj.1.cls ∈ ob_all) (h0 : mj.2.2.2.2.2.cells = 0 ∧ mj.2.2.2.2.2.slots = 0) (hq : x.name ≠ "<init>" ∧ (parseMethodDescriptor mj.1.desc).map (fun d => d.parameters.length) = some n) (hm : mj.2.2.2.2.2.frames + 1 ≤ mi.2.2.2.2.2.frames ∧ 8 + (mj.2.2.2.1 + 11) + mj.2.2.2.2.2.locals ≤ mi.2.2.2.2.2.locals)
    (hn : As.length = n) (hro : (rest.map fun v => v.category).sum ≤ 8) (pc' : Nat) (hp : pc + 3 = pc') (hst : st = As.reverse ++ .ref b :: rest) (hf : ob_bd F K = some r) (kk : ∀ (r1 : Int32) (σ1 : ob_St), K r1 σ1 = some r → ob_V g w mi ov σ' σ1 pc' lv (.int r1 :: rest)) : ob_V g w mi ov σ' σ pc lv st := by
  subst hp
  intro p e s m args below meth c C H locs ls hW hl
  have hb : ∀ w ∈ ob_all, w ∈ mi.2.1 := fun w h => by rw [hi]; exact List.mem_cons_of_mem _ h
  have hw : mj.2.1 = Cond.code mj.1 mj.2.2.1 mj.2.2.2.1 mj.2.2.2.2.1 :: mj.2.1.tail := by rw [hj]; rfl
  have hGj : GoodIn mi.2.1 mj.2.1 := by rw [hj]; exact ob_good hb h6
  have hts := C.2.2.2.2.2.1
  have tb : ∀ w ∈ ob_all, w.before args s = true := fun w h => hts w (hb w h)
  cases hF : F with
  | none => rw [hF] at hf; cases hf
  | some q =>
    obtain ⟨r1, σ1⟩ := q
    rw [hF] at hf
    refine ob_callG (ov1 := some (.int r1)) (a := (Value.ref b :: As).toArray) (rest := rest) (kk r1 σ1 hf) C hW hl ?_
    have hM := hc r1 σ1 hF H.size
    have hcw : Cond.code mj.1 mj.2.2.1 mj.2.2.2.1 mj.2.2.2.2.1 ∈ mj.2.1 := by rw [hj]; exact List.mem_cons_self
    have hK : Back g.1 mi.2.2.2.2.2 p e below s args mj.1 3 8 (PreOf mi.2.2.2.2.2 0 0 (va_Pc (.ref b :: As) (ob_Pre g w σ H.size))) (PostOf (ob_Q g w (some (.int r1)) σ1) 0 0 (ob_A w H.size)) := back_of (bytes := mj.2.2.1) (maxL := mj.2.2.2.1) (ret := mj.2.2.2.2.1) hM (ob_blind g w σ H.size _) h0.1 h0.2 hm.1 hm.2 (pay_in hts hGj) hcw (fun a' U hW => word_at hW (Or.inl (by first | rfl | simp [Cond.onTables, Cond.keeps, Cond.steady])) (tb _ h5))
    obtain ⟨cellB, hcB, hoB, hclB⟩ := hR s H locs C.2.2.2.2.2.2.2.1 C.2.2.2.2.2.2.2.2 hW
    obtain ⟨hfc, kB, hkB, -⟩ := ob_clAt (g := g) C.2.2.2.2.2.2.2.1 hcl
    have hcc : cellB.cls = g.2.1.1 ci := Option.some.inj (hclB.symm.trans hfc)
    rw [← hcc] at hkB
    obtain ⟨mk, methM, hnamed, hmethM, hstM, habM⟩ := Cond.instanceMethod_spec (tb _ h4)
    obtain ⟨methM', cM, hmethM', -, -, -, -, -, -, hsigM⟩ := Cond.code_spec hnamed (tb _ h6)
    cases hmethM.symm.trans hmethM'
    obtain ⟨ps, dk, kp, hps, hdk, hkp, hsuper, -, -, hnid⟩ := Cond.superclass_spec C.2.2.2.2.1 (tb _ h3)
    have hmc : s.vm.findClass mj.1.cls = some mk.cls := findClass_of_methodNamed hnamed
    have hn2 : s.methodNamed? ⟨mj.1.cls, x.name, x.desc⟩ = some mk := by rw [← hyx]; exact hnamed
    have hsub : s.vm.isSubclass ps mk.cls = true := by
      rcases hup with hup | hup
      · have e1 : ps = mk.cls := by rw [hup] at hps; exact Option.some.inj (hps.symm.trans hmc)
        rw [e1]; simp [Vm.isSubclass, Vm.isSubclassAux]
      · obtain ⟨pp, k2, kq, hpp, hk2, hkq, hsup2, -, -, -⟩ := Cond.superclass_spec hps (tb _ hup)
        have e1 : pp = mk.cls := Option.some.inj (hpp.symm.trans hmc)
        have hsz : 0 < s.vm.classes.size := by
          have z := (Array.getElem?_eq_some_iff.mp hk2).1
          omega
        obtain ⟨z, hz⟩ : ∃ z, s.vm.classes.size = z + 1 := ⟨s.vm.classes.size - 1, by omega⟩
        simp only [Vm.isSubclass, hz, Vm.isSubclassAux, hk2, hsup2, e1]
        simp
    intro T0 hT X
    have hlen2 : As.length = methM.sig.parameters.length := by
      have h2 := hq.2
      rw [hsigM] at h2
      rw [hn]; exact (Option.some.inj h2).symm
    obtain ⟨vm₁, X₁, hstep₁⟩ := X.invokespecialUp C.1 C.2.2.2.2.1 (tb _ h1) (tb _ h2) hn2 hmethM hstM habM hq.1 hdk hnid hps hsuper hsub (a := b) (cell := cellB) (by rw [hT]; exact hcB)
      (fun z h => by rw [h] at hoB; cases hoB) hkB (g := F0 m pc ls st) rfl (argsL := As) (rest := rest) hlen2 hst (by rw [C.2.1]; exact hd)
    have hlsz : ls.size = c.maxLocals := hl.1.trans C.2.2.1.symm
    obtain ⟨v, B, X', hpost, hsteps⟩ := hK m meth c ⟨T0.setVm vm₁, locs, 0, 0⟩ { (F0 m pc ls st) with stack := rest } (.invokespecial idx) mk (Value.ref b :: As).toArray X₁ rfl hlsz (by rw [C.2.1]; exact hd) (lv_room hro) (X₁.named hnamed) ⟨Nat.zero_le _, Nat.zero_le _, rfl, ob_preU C hW (T0.setVm vm₁) hT X₁.warmed⟩
    obtain ⟨U', l2, c2, s2⟩ := B
    obtain ⟨g', mk', t, L, e1, e2, hq9, h9, hL, h10, h11⟩ := hpost
    dsimp only [Pt.U, Pt.locs, Pt.cells, Pt.slots] at X' e1 e2 h9 h10 h11 hsteps
    subst h9; subst h10; subst h11
    exact ⟨v, (T0.setVm vm₁).calling g' mk' (Value.ref b :: As).toArray, t, U', L, hT, X', hL, e1, e2, hq9, fun target h => hstep₁ _ (by rw [doInvoke_state]; exact hsteps.trans h)⟩
/-! TEXTS: what the JDK's own members read of them -/
def ob_tl (i : Nat) : Int32 := Int32.ofNat (ob_txn.getD i 0)
def ob_ltx {α : Type} (i : Nat) (k : Int32) (K : Int32 → Option α) : Option α := if ob_in k (ob_txn.getD i 0) = true then K ((ob_txl.getD i []).getD k.toNatClampNeg 0) else none
def ob_tg {α : Type} (i : Nat) (x : Option α) : Option α := if i < 7 then x else none
theorem ob_tgI {β α : Type} {i : Nat} {x : Option (β × ob_St)} {K : β → ob_St → Option α} {r : α} (h : ob_bd (ob_tg i x) K = some r) : i < 7 := by
  obtain ⟨q, σ1, h1, -⟩ := ob_bdE h
  exact (ob_ifs h1).1
theorem ob_tgE {α : Type} {i : Nat} {x : Option α} {r : α} (h : ob_tg i x = some r) : x = some r := (ob_ifs h).2
def ob_rc (x : Int32) (σ : ob_St) : Option (Int32 × ob_St) := if (x.toUInt32 % 65536).toInt32 = x then some (x, σ) else none
def ob_rby (x : Int32) (σ : ob_St) : Option (Int32 × ob_St) := if x.toInt8.toInt32 = x then some (x, σ) else none
theorem vv_iretc {v r : Int32} (hr : mi.2.2.2.2.1 = some .char) (hd : decode mi.2.2.1 pc = .ok (.ireturn, 1)) (hf : ob_rc v σ = some (r, σ')) : ob_V g w mi (some (.int r)) σ' σ pc lv [.int v] := by
  obtain ⟨h1, h2⟩ := ob_ifs hf
  obtain ⟨rfl, rfl⟩ := Prod.mk.inj (Option.some.inj h2)
  intro p e s m args below meth c C H locs ls hW hl
  refine W.zret C.1 C.2.1 (C.2.2.2.1.trans hr) ?_ (ob_end C hW) hW.2.2.2.2 hd C.2.2.2.2.2.2.1
  have h3 := pk_nc v
  rw [h1] at h3
  exact h3
theorem vv_iretb {v r : Int32} (hr : mi.2.2.2.2.1 = some .byte) (hd : decode mi.2.2.1 pc = .ok (.ireturn, 1)) (hf : ob_rby v σ = some (r, σ')) : ob_V g w mi (some (.int r)) σ' σ pc lv [.int v] := by
  obtain ⟨h1, h2⟩ := ob_ifs hf
  obtain ⟨rfl, rfl⟩ := Prod.mk.inj (Option.some.inj h2)
  intro p e s m args below meth c C H locs ls hW hl
  refine W.zret C.1 C.2.1 (C.2.2.2.1.trans hr) ?_ (ob_end C hW) hW.2.2.2.2 hd C.2.2.2.2.2.2.1
  have h3 := pk_nb v
  rw [h1] at h3
  exact h3
theorem vv_tx_value {idx i : Nat} (hd : decode mi.2.2.1 pc = .ok (.getfield idx, 3)) (hi : i < 7) (hm : Cond.fieldLink mi.1.cls idx "java/lang/String" "value" "[B" ∈ mi.2.1) (pc' : Nat) (hp : pc + 3 = pc') (kk : ob_V g w mi ov σ' σ pc' lv (.ref (g.2.2.2.2.2.1 i) :: st)) : ob_V g w mi ov σ' σ pc lv (.ref (g.2.2.2.2.1 i) :: st) := by
  subst hp
  intro p e s m args below meth c C H locs ls hW hl
  exact vk_getf C.1 C.2.1 (C.2.2.2.2.2.2.2.2.1.1.1 i hi).2.2.1 hW.2.2 C.2.2.2.2.1 (C.2.2.2.2.2.1 _ hm) (fun _ h => h) hd (kk p e s m args below meth c C H locs ls hW hl)
theorem vv_tx_coder {idx i : Nat} (hd : decode mi.2.2.1 pc = .ok (.getfield idx, 3)) (hi : i < 7) (hm : Cond.fieldLink mi.1.cls idx "java/lang/String" "coder" "B" ∈ mi.2.1) (pc' : Nat) (hp : pc + 3 = pc') (kk : ob_V g w mi ov σ' σ pc' lv (.int 0 :: st)) : ob_V g w mi ov σ' σ pc lv (.ref (g.2.2.2.2.1 i) :: st) := by
  subst hp
  intro p e s m args below meth c C H locs ls hW hl
  exact vk_getf C.1 C.2.1 (C.2.2.2.2.2.2.2.2.1.1.1 i hi).2.1 hW.2.2 C.2.2.2.2.1 (C.2.2.2.2.2.1 _ hm) (fun _ h => h) hd (kk p e s m args below meth c C H locs ls hW hl)
theorem vv_tx_len {i : Nat} (hd : decode mi.2.2.1 pc = .ok (.arraylength, 1)) (hi : i < 7) (pc' : Nat) (hp : pc + 1 = pc') (kk : ob_V g w mi ov σ' σ pc' lv (.int (ob_tl i) :: st)) : ob_V g w mi ov σ' σ pc lv (.ref (g.2.2.2.2.2.1 i) :: st) := by
  subst hp
  intro p e s m args below meth c C H locs ls hW hl
  exact va_tlen C.1 C.2.1 (C.2.2.2.2.2.2.2.2.1.1.1 i hi).2.2.2 hW.2.2 rfl hd (kk p e s m args below meth c C H locs ls hW hl)
theorem vv_tx_ld {α : Type} {r : α} {i : Nat} {k : Int32} {K : Int32 → Option α} (hd : decode mi.2.2.1 pc = .ok (.baload, 1)) (hi : i < 7) (pc' : Nat) (hp : pc + 1 = pc') (hf : ob_ltx i k K = some r) (kk : ∀ y : Int32, K y = some r → ob_V g w mi ov σ' σ pc' lv (.int y :: st)) : ob_V g w mi ov σ' σ pc lv (.int k :: .ref (g.2.2.2.2.2.1 i) :: st) := by
  subst hp
  intro p e s m args below meth c C H locs ls hW hl
  obtain ⟨h1, h2⟩ := ob_ifs hf
  exact va_tb C.1 C.2.1 (C.2.2.2.2.2.2.2.2.1.1.1 i hi).2.2.2 hW.2.2 (ob_in_vp h1) rfl hd (kk _ h2 p e s m args below meth c C H locs ls hW hl)
/-- a static that is null or a reference -/
theorem vv_gstQ {idx : Nat} {Cn n d : String} (hd : decode mi.2.2.1 pc = .ok (.getstatic idx, 3)) (hm : Cond.fieldLink mi.1.cls idx Cn n d ∈ mi.2.1) (hZ : ∀ (u : State) (A : Nat → Prop), ob_S g A u u.heap → va_Zq Cn n d A u u.heap) (pc' : Nat) (hp : pc + 3 = pc') (kk : ∀ v : Value, (v = .null ∨ ∃ t, v = .ref t) → ob_V g w mi ov σ' σ pc' lv (v :: st)) : ob_V g w mi ov σ' σ pc lv st := by
  subst hp
  intro p e s m args below meth c C H locs ls hW hl
  rcases hZ s _ C.2.2.2.2.2.2.2.2 with h | ⟨t, h⟩
  · exact va_gets C.1 C.2.1 h hW.2.2 C.2.2.2.2.1 (C.2.2.2.2.2.1 _ hm) (fun _ h => h) hd (kk .null (Or.inl rfl) p e s m args below meth c C H locs ls hW hl)
  · exact va_gets C.1 C.2.1 h hW.2.2 C.2.2.2.2.1 (C.2.2.2.2.2.1 _ hm) (fun _ h => h) hd (kk (.ref t) (Or.inr ⟨t, rfl⟩) p e s m args below meth c C H locs ls hW hl)
end OBV2
