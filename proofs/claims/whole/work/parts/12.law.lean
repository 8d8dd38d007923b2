/-! THE LAW: both sides beside each other -/
def R_law : String := "BoxOnARopeLaw"
def lw_P (b : Addr) (xs : List Int32) (args : Array Value) (s : State) : Prop := args = #[.ref b] ∧ s.IntsAt b xs ∧ xs.length ≤ 1536 ∧ (Jvm.Cond.and given_1 narrow_1).before args s = true
def lw_Q (_ : Array Value) (s : State) (o : Outcome) (t : State) : Prop := o = .returned (some (.int 1)) ∧ Framed s o t [] 70 689
def lw_Z (below : List Frame) (a : Array Value) (s : State) : State → Prop := fun t => ∃ o, t.status = .running ∧ Ended t below o ∧ lw_Q a s o t
/-- the law's own end, with 1 on the stack, nothing written that was there before, its room as the claim has it -/
theorem lw_ret {p : Program} {l : Launch} {e : Env} {s : State} {m : MethodId} {below : List Frame} {meth : Method} {c : Code} {b : Nat} (hx : p.tables.exec = Jvm.exec) (hb : c.code = code) (hr : meth.sig.returnType = ret) (hlocks : meth.locks = false) {pc : Nat} {H : Heap} {ls : Array Slot} (hdg : decode code pc = .ok (.ireturn, 1)) : W p l e room_1 s m #[Value.ref b] below meth c H [] 70 689 (lw_Z below #[Value.ref b] s) (F0 m pc ls [.int 1]) := by
  intro T hT X
  obtain ⟨fs, hret, hrun, hended, hW, hframe⟩ := X.leave (v := some (.int 1)) (hlocks := hlocks) (fun h => by rw [hr] at h; cases h)
  have hmeth' : T.vm.method? m = some meth := X.method'
  refine ⟨T.setFrames fs, ?_, .returned (some (.int 1)), hrun, hended, rfl, ⟨_, rfl⟩, hW, hframe⟩
  jvm_step X.here [X.here.top, hx, hb, hdg, hmeth', hr, ret, narrow_b1]
  (try refine ⟨rfl, ?_⟩); (try refine ⟨rfl, ?_⟩)
  first | (intro acts; rw [hret _ acts rfl rfl rfl]) | rw [hret _ _ rfl rfl rfl]
  exact Steps.refl _

theorem ob_A_va {g : ob_GT} {w : ob_WT} {σ : ob_St} {sz q : Nat} : ob_A w sz q ↔ va_A (ob_w g w σ) sz q := by
  constructor
  · rintro (⟨k, hk, rfl⟩ | h)
    · exact Or.inl ⟨k, ob_cell g w σ k, ob_w_get hk⟩
    · exact Or.inr h
  · rintro (⟨k, e, h⟩ | h)
    · have hk : k < w.1 := by
        rcases Nat.lt_or_ge k w.1 with z | z
        · exact z
        · rw [List.getElem?_eq_none (by simp [ob_w, z])] at h
          cases h
      rw [ob_w_get hk] at h
      have h3 := congrArg Prod.fst (Option.some.inj h)
      exact Or.inl ⟨k, hk, h3.symm⟩
    · exact Or.inr h
theorem ob_Pswap {D : va_G} {a b : va_W} {H : Heap} (h : va_P D vwCl (a ++ b) H) : va_P D vwCl (b ++ a) H := by
  refine va_P.app (fun k q hq => ?_) (fun k q hq => ?_)
  · exact h (a.length + k) q (by rw [List.getElem?_append_right (by omega), show a.length + k - a.length = k from by omega]; exact hq)
  · have h1 := (List.getElem?_eq_some_iff.mp hq).1
    exact h k q (by rw [List.getElem?_append_left h1]; exact hq)
theorem ob_Dswap {A : Nat → Prop} {a b : va_W} (h : va_D A (a ++ b)) : va_D A (b ++ a) := by
  have pa : ∀ (k : Nat) (q : Nat × va_E), a[k]? = some q → k < a.length ∧ (a ++ b)[k]? = some q := fun k q hq => by
    have h1 := (List.getElem?_eq_some_iff.mp hq).1
    exact ⟨h1, by rw [List.getElem?_append_left h1]; exact hq⟩
  have pb : ∀ (k : Nat) (q : Nat × va_E), b[k]? = some q → (a ++ b)[a.length + k]? = some q := fun k q hq => by
    rw [List.getElem?_append_right (by omega), show a.length + k - a.length = k from by omega]; exact hq
  refine va_D.app ⟨fun i j x y hx hy hxy => ?_, fun k q hq => h.2 _ q (pb k q hq)⟩ ⟨fun i j x y hx hy hxy => ?_, fun k q hq => h.2 _ q (pa k q hq).2⟩ (fun i j x y hx hy hxy => ?_)
  · have := h.1 _ _ x y (pb i x hx) (pb j y hy) hxy
    omega
  · exact h.1 _ _ x y (pa i x hx).2 (pa j y hy).2 hxy
  · have h1 := pa j y hy
    have := h.1 _ _ x y (pb i x hx) h1.2 hxy
    omega
section OBL
variable {p : Program} {e : Env} {s : State} {m : MethodId} {below : List Frame} {meth : Method} {c : Code} {b L : Nat} {xs : Nat → Int32} {g : ob_GT} {ax am : Nat → Nat}
/-- what is fixed while the law runs -/
def ob_LC (p : Program) (s : State) (m : MethodId) (meth : Method) (c : Code) (b L : Nat) (xs : Nat → Int32) (g : ob_GT) : Prop :=
  p.tables.exec = Jvm.exec ∧ c.code = code ∧ meth.sig.returnType = ret ∧ c.maxLocals = 4 ∧ s.vm.findClass R_law = some m.cls ∧ (∀ w ∈ lw_tbl, w.before #[Value.ref b] s = true) ∧ va_X b L xs s s.heap ∧ b < s.heap.size ∧ meth.locks = false ∧ va_K g.2.1 vwCl (ob_tys g) s ∧ ob_S g (fun q => s.heap.size ≤ q) s s.heap ∧ L ≤ 1536
def ob_2W (g : ob_GT) (ax am : Nat → Nat) (σx σm : ob_St) (s : State) (H : Heap) (locs : List Loc) : Prop :=
  va_P g.2.1 vwCl (ob_w g (ob_X ax) σx ++ ob_w g (ob_M am) σm) H ∧ va_D (fun q => s.heap.size ≤ q) (ob_w g (ob_X ax) σx ++ ob_w g (ob_M am) σm) ∧ va_S (fun q => s.heap.size ≤ q) s.heap H locs
def ob_LV (p : Program) (e : Env) (s : State) (m : MethodId) (below : List Frame) (meth : Method) (c : Code) (b : Nat) (g : ob_GT) (ax am : Nat → Nat) (σx σm : ob_St) (pc : Nat) (lv : List (Nat × Value)) (st : List Value) : Prop :=
  ∀ (H : Heap) (locs : List Loc) (ls : Array Slot), ob_2W g ax am σx σm s H locs → lv_has ls 4 lv → W p g.1 e room_1 s m #[Value.ref b] below meth c H locs 70 689 (lw_Z below #[Value.ref b] s) (F0 m pc ls st)
variable {σx σm : ob_St} {pc : Nat} {lv : List (Nat × Value)} {st : List Value}
theorem ll_iload {q : Fin 4} {i : Nat} {x : Int32} (C : ob_LC p s m meth c b L xs g) (hd : decode code pc = .ok (.iload_n q, 1)) (at' : Nat) (hi : (q : Nat) = i) (hk : lv[at']? = some (i, .int x)) (pc' : Nat) (hp : pc + 1 = pc') (k : ob_LV p e s m below meth c b g ax am σx σm pc' lv (.int x :: st)) : ob_LV p e s m below meth c b g ax am σx σm pc lv st := by
  subst hp
  intro H locs ls hW hl
  exact lv_iload_n C.1 C.2.1 hd hi (lv_at hl at' hk) (k H locs ls hW hl)
theorem ll_aload {q : Fin 4} {i x : Nat} (C : ob_LC p s m meth c b L xs g) (hd : decode code pc = .ok (.aload_n q, 1)) (at' : Nat) (hi : (q : Nat) = i) (hk : lv[at']? = some (i, .ref x)) (pc' : Nat) (hp : pc + 1 = pc') (k : ob_LV p e s m below meth c b g ax am σx σm pc' lv (.ref x :: st)) : ob_LV p e s m below meth c b g ax am σx σm pc lv st := by
  subst hp
  intro H locs ls hW hl
  exact lv_aload_n C.1 C.2.1 hd hi (lv_at hl at' hk) (k H locs ls hW hl)
theorem ll_iconst {z : Int} (C : ob_LC p s m meth c b L xs g) (hd : decode code pc = .ok (.iconst z, 1)) (v : Int32) (hv : Int32.ofInt z = v) (pc' : Nat) (hp : pc + 1 = pc') (k : ob_LV p e s m below meth c b g ax am σx σm pc' lv (.int v :: st)) : ob_LV p e s m below meth c b g ax am σx σm pc lv st := by
  subst hp
  intro H locs ls hW hl
  exact lv_iconst C.1 C.2.1 hd hv (k H locs ls hW hl)
theorem ll_bipush {z : Int} (C : ob_LC p s m meth c b L xs g) (hd : decode code pc = .ok (.bipush z, 2)) (v : Int32) (hv : (Int8.ofInt z).toInt32 = v) (pc' : Nat) (hp : pc + 2 = pc') (k : ob_LV p e s m below meth c b g ax am σx σm pc' lv (.int v :: st)) : ob_LV p e s m below meth c b g ax am σx σm pc lv st := by
  subst hp
  intro H locs ls hW hl
  exact lv_bipush C.1 C.2.1 hd hv (k H locs ls hW hl)
theorem ll_iadd {x y : Int32} (C : ob_LC p s m meth c b L xs g) (hd : decode code pc = .ok (.iadd, 1)) (pc' : Nat) (hp : pc + 1 = pc') (k : ob_LV p e s m below meth c b g ax am σx σm pc' lv (.int (x + y) :: st)) : ob_LV p e s m below meth c b g ax am σx σm pc lv (.int y :: .int x :: st) := by
  subst hp
  intro H locs ls hW hl
  exact lv_iadd C.1 C.2.1 hd (k H locs ls hW hl)
theorem ll_isub {x y : Int32} (C : ob_LC p s m meth c b L xs g) (hd : decode code pc = .ok (.isub, 1)) (pc' : Nat) (hp : pc + 1 = pc') (k : ob_LV p e s m below meth c b g ax am σx σm pc' lv (.int (x - y) :: st)) : ob_LV p e s m below meth c b g ax am σx σm pc lv (.int y :: .int x :: st) := by
  subst hp
  intro H locs ls hW hl
  exact lv_isub C.1 C.2.1 hd (k H locs ls hW hl)
theorem ll_iand {x y : Int32} (C : ob_LC p s m meth c b L xs g) (hd : decode code pc = .ok (.iand, 1)) (pc' : Nat) (hp : pc + 1 = pc') (k : ob_LV p e s m below meth c b g ax am σx σm pc' lv (.int (x &&& y) :: st)) : ob_LV p e s m below meth c b g ax am σx σm pc lv (.int y :: .int x :: st) := by
  subst hp
  intro H locs ls hW hl
  exact lv_iand C.1 C.2.1 hd (k H locs ls hW hl)
theorem ob_bA (C : ob_LC p s m meth c b L xs g) : ¬ (fun q : Nat => s.heap.size ≤ q) b := Nat.not_le.mpr C.2.2.2.2.2.2.2.1
theorem ll_alen (C : ob_LC p s m meth c b L xs g) (hd : decode code pc = .ok (.arraylength, 1)) (pc' : Nat) (hp : pc + 1 = pc') (k : ob_LV p e s m below meth c b g ax am σx σm pc' lv (.int (nI L) :: st)) : ob_LV p e s m below meth c b g ax am σx σm pc lv (.ref b :: st) := by
  subst hp
  intro H locs ls hW hl
  exact va_slen C.1 C.2.1 C.2.2.2.2.2.2.1 C.2.2.2.2.2.2.2.1 (ob_bA C) hW.2.2 hd (k H locs ls hW hl)
theorem ll_iald {i : Int32} (C : ob_LC p s m meth c b L xs g) (hd : decode code pc = .ok (.iaload, 1)) (hi : vp_in i L) (pc' : Nat) (hp : pc + 1 = pc') (k : ob_LV p e s m below meth c b g ax am σx σm pc' lv (.int (xs i.toNatClampNeg) :: st)) : ob_LV p e s m below meth c b g ax am σx σm pc lv (.int i :: .ref b :: st) := by
  subst hp
  intro H locs ls hW hl
  exact va_sld C.1 C.2.1 C.2.2.2.2.2.2.1 C.2.2.2.2.2.2.2.1 (ob_bA C) hW.2.2 hi hd (k H locs ls hW hl)
theorem ll_gt {x y : Int32} {off : Int} (C : ob_LC p s m meth c b L xs g) (hd : decode code pc = .ok (.if_icmp .gt off, 3)) (tgt pc' : Nat) (ht : (pc : Int) + off = (tgt : Int)) (hp : pc + 3 = pc') (kt : y < x → ob_LV p e s m below meth c b g ax am σx σm tgt lv st) (kf : ¬ y < x → ob_LV p e s m below meth c b g ax am σx σm pc' lv st) : ob_LV p e s m below meth c b g ax am σx σm pc lv (.int y :: .int x :: st) := by
  subst hp
  intro H locs ls hW hl
  exact lv_icmp_gt C.1 C.2.1 hd ht (fun h => kt h H locs ls hW hl) (fun h => kf h H locs ls hW hl)
theorem ll_eqT {x : Int32} {off : Int} (C : ob_LC p s m meth c b L xs g) (hd : decode code pc = .ok (.if_icmp .eq off, 3)) (tgt : Nat) (ht : (pc : Int) + off = (tgt : Int)) (kt : ob_LV p e s m below meth c b g ax am σx σm tgt lv st) : ob_LV p e s m below meth c b g ax am σx σm pc lv (.int x :: .int x :: st) := by
  intro H locs ls hW hl
  exact lv_icmp_eq C.1 C.2.1 hd ht (fun _ => kt H locs ls hW hl) (fun h => absurd rfl h)
theorem ll_goto {off : Int} (C : ob_LC p s m meth c b L xs g) (hd : decode code pc = .ok (.goto off, 3)) (tgt : Nat) (ht : (pc : Int) + off = (tgt : Int)) (k : ob_LV p e s m below meth c b g ax am σx σm tgt lv st) : ob_LV p e s m below meth c b g ax am σx σm pc lv st := by
  intro H locs ls hW hl
  exact lv_goto C.1 C.2.1 hd ht (k H locs ls hW hl)
theorem ll_iinc {i : Nat} {z : Int} {x : Int32} (C : ob_LC p s m meth c b L xs g) (hd : decode code pc = .ok (.iinc i z, 3)) (v : Int32) (at' : Nat) (lv' : List (Nat × Value)) (hk : lv[at']? = some (i, .int x)) (hv : x + Int32.ofInt z = v) (hn : i < 4) (hl9 : (i, Value.int v) :: lv.filter (fun q => !(q.1 == i) && !(q.1 + 1 == i && q.2.category == 2)) = lv') (pc' : Nat) (hp : pc + 3 = pc') (k : ob_LV p e s m below meth c b g ax am σx σm pc' lv' st) : ob_LV p e s m below meth c b g ax am σx σm pc lv st := by
  subst hp
  intro H locs ls hW hl
  exact lv_iinc C.1 C.2.1 hd hl hk hv hn hl9 (fun ls' hl' => k H locs ls' hW hl')
theorem ll_tabIn {dflt lo hi : Int} {offs : Array Int} {len : Nat} {x : Int32} {off : Int} (C : ob_LC p s m meth c b L xs g) (hd : decode code pc = .ok (.tableswitch dflt lo hi offs, len)) (tgt : Nat) (h1 : ¬ x.toInt < lo) (h2 : ¬ hi < x.toInt) (ho : offs[(x.toInt - lo).toNat]? = some off) (ht : (pc : Int) + off = (tgt : Int)) (k : ob_LV p e s m below meth c b g ax am σx σm tgt lv st) : ob_LV p e s m below meth c b g ax am σx σm pc lv (.int x :: st) := by
  intro H locs ls hW hl
  exact lv_tableIn C.1 C.2.1 hd h1 h2 ho ht (k H locs ls hW hl)
theorem ll_tabOut {dflt lo hi : Int} {offs : Array Int} {len : Nat} {x : Int32} (C : ob_LC p s m meth c b L xs g) (hd : decode code pc = .ok (.tableswitch dflt lo hi offs, len)) (tgt : Nat) (h : x.toInt < lo ∨ hi < x.toInt) (ht : (pc : Int) + dflt = (tgt : Int)) (k : ob_LV p e s m below meth c b g ax am σx σm tgt lv st) : ob_LV p e s m below meth c b g ax am σx σm pc lv (.int x :: st) := by
  intro H locs ls hW hl
  exact lv_tableOut C.1 C.2.1 hd h ht (k H locs ls hW hl)
theorem ll_sub (ks : List Nat) (lv' : List (Nat × Value)) (h : lv_pick lv ks = lv') (k : ob_LV p e s m below meth c b g ax am σx σm pc lv' st) : ob_LV p e s m below meth c b g ax am σx σm pc lv st := by
  intro H locs ls hW hl
  exact k H locs ls hW (lv_sub hl ks h)
theorem ll_end (C : ob_LC p s m meth c b L xs g) (hd : decode code pc = .ok (.ireturn, 1)) : ob_LV p e s m below meth c b g ax am σx σm pc lv [.int 1] := by
  intro H locs ls hW hl
  refine va_forget (fun q hq => hW.2.2.2.2 q hq) ?_
  exact lw_ret C.1 C.2.1 C.2.2.1 C.2.2.2.2.2.2.2.2.1 hd
/-- a call's frame: one side's world, taken from beside another -/
theorem ob_lcall {w : ob_WT} {σ σ1 : ob_St} {wr : va_W} {ov1 : Option Value} {a : Array Value} {rest st0 : List Value} {H : Heap} {locs : List Loc} {ls : Array Slot} (hP : va_P g.2.1 vwCl (wr ++ ob_w g w σ) H) (hD : va_D (fun q => s.heap.size ≤ q) (wr ++ ob_w g w σ)) (hS : va_S (fun q => s.heap.size ≤ q) s.heap H locs)
    (kk : ∀ (H1 : Heap) (locs1 : List Loc), va_P g.2.1 vwCl (wr ++ ob_w g w σ1) H1 → va_D (fun q => s.heap.size ≤ q) (wr ++ ob_w g w σ1) → va_S (fun q => s.heap.size ≤ q) s.heap H1 locs1 → W p g.1 e room_1 s m #[Value.ref b] below meth c H1 locs1 70 689 (lw_Z below #[Value.ref b] s) (F0 m (pc + 3) ls (ov1.toList ++ rest)))
    (hr : va_Run p g.1 e room_1 s m #[Value.ref b] below meth c H locs 70 689 0 0 (F0 m pc ls st0) rest (ob_Q g w ov1 σ1 a) (ob_A w H.size)) : W p g.1 e room_1 s m #[Value.ref b] below meth c H locs 70 689 (lw_Z below #[Value.ref b] s) (F0 m pc ls st0) := by
  have hF : ∀ q, va_A (ob_w g w σ) H.size q → s.heap.size ≤ q := by
    rintro q (⟨k, e, h⟩ | h)
    · exact hD.2 (wr.length + k) (q, e) (by rw [List.getElem?_append_right (by omega), show wr.length + k - wr.length = k from by omega]; exact h)
    · exact Nat.le_trans hS.1 h
  intro T hT X
  obtain ⟨v, st₀, t, T', L', h0, X', hL, e1, e2, ⟨⟨hv, hP1, hK1, hD1⟩, hz, hk⟩, stp⟩ := hr T hT X
  cases hv
  rw [h0] at hz hk hD1
  have hD1' : va_D (va_A (ob_w g w σ) H.size) (ob_w g w σ1) := hD1.weaken (fun _ q _ h => ob_A_va.mp h)
  obtain ⟨hPj, hDj⟩ := ob_join (H1 := t.heap) hP hD (fun q h1 h2 => hk q h1 (fun h => h2 (ob_A_va.mp h))) hF hP1 hD1'
  rw [← e1] at hPj
  obtain ⟨t2, a1, b1⟩ := kk T'.heap (locs ++ L') hPj hDj ⟨Nat.le_trans hS.1 (by rw [e1]; exact hz), fun q h1 h2 => by rw [e1, hk q (Nat.lt_of_lt_of_le h1 hS.1) (fun y => h2 (hF q (ob_A_va.mp y)))]; exact hS.2.1 q h1 h2, fun q hq => by
      rcases List.mem_append.mp hq with h | h
      · exact hS.2.2 q h
      · exact hF _ (ob_A_va.mp (hL q h))⟩ T' rfl X'
  exact ⟨t2, stp t2 a1, b1⟩
theorem ob_lpre {w : ob_WT} {σ : ob_St} {wr : va_W} {H : Heap} {locs : List Loc} (C : ob_LC p s m meth c b L xs g) (hP : va_P g.2.1 vwCl (wr ++ ob_w g w σ) H) (hD : va_D (fun q => s.heap.size ≤ q) (wr ++ ob_w g w σ)) (hS : va_S (fun q => s.heap.size ≤ q) s.heap H locs) (U : State) (hU : U.heap = H) (hw : s.WarmedH U.vm) : ob_Pre g w σ H.size U := by
  have hS0 := C.2.2.2.2.2.2.2.2.2.2.1
  have hK := C.2.2.2.2.2.2.2.2.2.1
  have pb : ∀ (k : Nat) (q : Nat × va_E), (ob_w g w σ)[k]? = some q → (wr ++ ob_w g w σ)[wr.length + k]? = some q := fun k q hq => by
    rw [List.getElem?_append_right (by omega), show wr.length + k - wr.length = k from by omega]; exact hq
  refine ⟨by rw [hU], by rw [hU]; exact fun k q hq => hP _ q (pb k q hq), va_K.moved hw.alike hK, ⟨fun i j x y hx hy hxy => ?_, fun _ _ _ => trivial⟩, ?_⟩
  · have := hD.1 _ _ x y (pb i x hx) (pb j y hy) hxy
    omega
  · rw [hU]
    refine ob_S.go hS0 hw.alike (ob_S3.warm hw hS0.2.2) hS.2.1 (fun q hq => ?_)
    rcases ob_A_va.mp hq with ⟨k, e, h⟩ | h
    · exact hD.2 _ (q, e) (pb k (q, e) h)
    · exact Nat.le_trans hS.1 h
def ob_LK (mj : ob_MI) (idx : Nat) (Cn : String) (n : Nat) : Prop := GoodIn lw_tbl (wsV R_law idx Cn mj.1 mj.2.1) ∧ mj.2.1 = Cond.code mj.1 mj.2.2.1 mj.2.2.2.1 mj.2.2.2.2.1 :: mj.2.1.tail ∧ mj.2.2.2.2.2.cells = 0 ∧ mj.2.2.2.2.2.slots = 0 ∧ (mj.1.cls = Cn ∧ mj.1.cls ≠ "java/lang/invoke/MethodHandle" ∧ mj.1.cls ≠ "java/lang/invoke/VarHandle" ∧ (parseMethodDescriptor mj.1.desc).map (fun d => d.parameters.length) = some n) ∧ (mj.2.2.2.2.2.frames + 1 ≤ room_1.frames ∧ 8 + (mj.2.2.2.1 + 11) + mj.2.2.2.2.2.locals ≤ room_1.locals)
theorem ob_LKI {mj : ob_MI} {idx n : Nat} {Cn : String} (hj : mj.2.1 = Cond.code mj.1 mj.2.2.1 mj.2.2.2.1 mj.2.2.2.2.1 :: ob_all) (h1 : Cond.methodLink R_law idx mj.1 ∈ ob_all) (h2 : Cond.instanceMethod mj.1 ∈ ob_all) (h3 : Cond.selects Cn mj.1 mj.1 ∈ ob_all) (h4 : Cond.initialized Cn ∈ ob_all) (h5 : Cond.code mj.1 mj.2.2.1 mj.2.2.2.1 mj.2.2.2.2.1 ∈ ob_all)
    (h0 : mj.2.2.2.2.2.cells = 0 ∧ mj.2.2.2.2.2.slots = 0) (hd : mj.1.cls = Cn ∧ mj.1.cls ≠ "java/lang/invoke/MethodHandle" ∧ mj.1.cls ≠ "java/lang/invoke/VarHandle" ∧ (parseMethodDescriptor mj.1.desc).map (fun d => d.parameters.length) = some n) (hR : mj.2.2.2.2.2.frames + 1 ≤ room_1.frames ∧ 8 + (mj.2.2.2.1 + 11) + mj.2.2.2.2.2.locals ≤ room_1.locals) : ob_LK mj idx Cn n := by
  have hb : ∀ w ∈ ob_all, w ∈ lw_tbl := fun w h => ob_all_tbl h
  refine ⟨?_, by rw [hj]; rfl, h0.1, h0.2, hd, hR⟩
  unfold wsV
  refine ob_goodA hb _ ?_ (by rw [hj]; exact ob_good hb h5)
  intro w hw
  simp only [List.mem_cons, List.not_mem_nil, or_false] at hw
  rcases hw with rfl | rfl | rfl | rfl
  · exact h1
  · exact h2
  · exact h3
  · exact h4
theorem ll_callX {r : Int32} {σ1 : ob_St} {mj : ob_MI} {idx n : Nat} (As rest : List Value) (C : ob_LC p s m meth c b L xs g) (hd : decode code pc = .ok (.invokevirtual idx, 3)) (hc : ob_CT g (ob_X ax) mj (.ref (ax 0) :: As) σx (some (.int r)) σ1) (hG : ob_LK mj idx "BoxOnARope" n) (hn : As.length = n) (hro : (rest.map fun v => v.category).sum ≤ 8) (pc' : Nat) (hp : pc + 3 = pc') (hst : st = As.reverse ++ .ref (ax 0) :: rest) (kk : ob_LV p e s m below meth c b g ax am σ1 σm pc' lv (.int r :: rest)) : ob_LV p e s m below meth c b g ax am σx σm pc lv st := by
  subst hp
  intro H locs ls hW hl
  obtain ⟨h1, h2, h3, h4, h5, h6⟩ := hG
  obtain ⟨hP, hD, hS⟩ := hW
  have hP' := ob_Pswap hP
  have hD' := ob_Dswap hD
  refine ob_lcall (ov1 := some (.int r)) (a := (Value.ref (ax 0) :: As).toArray) (rest := rest) (σ1 := σ1) hP' hD' hS (fun H1 locs1 a1 a2 a3 => kk H1 locs1 ls ⟨ob_Pswap a1, ob_Dswap a2, a3⟩ hl) ?_
  exact va_runV (As := As) (rest := rest) ⟨C.1, C.2.1, C.2.2.2.1, C.2.2.2.2.1, C.2.2.2.2.2.1⟩ (hc H.size) (cwV n C.2.2.2.2.2.1 h1 h2 h3 h4 h5 h6) ⟨ob_blind g _ σx H.size _, va_recv (q := (RX10, TX10, 11)) (ci := 10) (q0 := 0) C.2.2.2.2.2.2.2.2.2.1 hP rfl (by rw [List.getElem?_append_left (by simp [ob_w])]; exact ob_obj_at (w := ob_X ax) ob_l0 rfl), fun U hU hw => ⟨rfl, ob_lpre C hP' hD' hS U hU hw⟩⟩ rfl hn hl.1 hst (lv_room hro) hd ⟨Nat.le_refl _, Nat.le_refl _⟩
theorem ll_callM {r : Int32} {σ1 : ob_St} {mj : ob_MI} {idx n : Nat} (As rest : List Value) (C : ob_LC p s m meth c b L xs g) (hd : decode code pc = .ok (.invokevirtual idx, 3)) (hc : ob_CT g (ob_M am) mj (.ref (am 0) :: As) σm (some (.int r)) σ1) (hG : ob_LK mj idx "BoxOnARopeModel" n) (hn : As.length = n) (hro : (rest.map fun v => v.category).sum ≤ 8) (pc' : Nat) (hp : pc + 3 = pc') (hst : st = As.reverse ++ .ref (am 0) :: rest) (kk : ob_LV p e s m below meth c b g ax am σx σ1 pc' lv (.int r :: rest)) : ob_LV p e s m below meth c b g ax am σx σm pc lv st := by
  subst hp
  intro H locs ls hW hl
  obtain ⟨h1, h2, h3, h4, h5, h6⟩ := hG
  obtain ⟨hP, hD, hS⟩ := hW
  refine ob_lcall (ov1 := some (.int r)) (a := (Value.ref (am 0) :: As).toArray) (rest := rest) (σ1 := σ1) hP hD hS (fun H1 locs1 a1 a2 a3 => kk H1 locs1 ls ⟨a1, a2, a3⟩ hl) ?_
  exact va_runV (As := As) (rest := rest) ⟨C.1, C.2.1, C.2.2.2.1, C.2.2.2.2.1, C.2.2.2.2.2.1⟩ (hc H.size) (cwV n C.2.2.2.2.2.1 h1 h2 h3 h4 h5 h6) ⟨ob_blind g _ σm H.size _, va_recv (q := (RX11, TX11, 24)) (ci := 11) (q0 := 52) C.2.2.2.2.2.2.2.2.2.1 hP rfl (by rw [List.getElem?_append_right (by simp [ob_w])]; simp only [ob_w, List.length_map, List.length_range]; exact ob_obj_at (w := ob_M am) ob_m0 rfl), fun U hU hw => ⟨rfl, ob_lpre C hP hD hS U hU hw⟩⟩ rfl hn hl.1 hst (lv_room hro) hd ⟨Nat.le_refl _, Nat.le_refl _⟩
end OBL
def ob_ok2 (RR : ob_St → ob_St → Prop) (fx fm : Option (Int32 × ob_St)) : Prop := ∃ (r : Int32) (σx σm : ob_St), fx = some (r, σx) ∧ fm = some (r, σm) ∧ RR σx σm
theorem dL_law_0 : decode cL_law 0 = .ok (.new 7, 3) := by decide +kernel
theorem dL_law_3 : decode cL_law 3 = .ok (.dup, 1) := by decide +kernel
theorem dL_law_4 : decode cL_law 4 = .ok (.invokespecial 9, 3) := by decide +kernel
theorem dL_law_7 : decode cL_law 7 = .ok (.astore_n 1, 1) := by decide +kernel
theorem dL_law_8 : decode cL_law 8 = .ok (.new 10, 3) := by decide +kernel
theorem dL_law_11 : decode cL_law 11 = .ok (.dup, 1) := by decide +kernel
theorem dL_law_12 : decode cL_law 12 = .ok (.invokespecial 12, 3) := by decide +kernel
theorem dL_law_15 : decode cL_law 15 = .ok (.astore_n 2, 1) := by decide +kernel
theorem dL_law_16 : decode cL_law 16 = .ok (.iconst 0, 1) := by decide +kernel
theorem dL_law_17 : decode cL_law 17 = .ok (.istore_n 3, 1) := by decide +kernel
theorem dL_law_18 : decode cL_law 18 = .ok (.iload_n 3, 1) := by decide +kernel
theorem dL_law_19 : decode cL_law 19 = .ok (.aload_n 0, 1) := by decide +kernel
theorem dL_law_20 : decode cL_law 20 = .ok (.arraylength, 1) := by decide +kernel
theorem dL_law_21 : decode cL_law 21 = .ok (.iconst 3, 1) := by decide +kernel
theorem dL_law_22 : decode cL_law 22 = .ok (.isub, 1) := by decide +kernel
theorem dL_law_23 : decode cL_law 23 = .ok (.if_icmp .gt 834, 3) := by decide +kernel
theorem dL_law_26 : decode cL_law 26 = .ok (.aload_n 0, 1) := by decide +kernel
theorem dL_law_27 : decode cL_law 27 = .ok (.iload_n 3, 1) := by decide +kernel
theorem dL_law_28 : decode cL_law 28 = .ok (.iaload, 1) := by decide +kernel
theorem dL_law_29 : decode cL_law 29 = .ok (.bipush 31, 2) := by decide +kernel
theorem dL_law_31 : decode cL_law 31 = .ok (.iand, 1) := by decide +kernel
theorem dL_law_32 : decode cL_law 32 = .ok (.tableswitch 819 0 28 #[132, 155, 168, 201, 224, 257, 290, 323, 356, 379, 402, 435, 458, 491, 514, 527, 540, 563, 586, 609, 632, 655, 678, 701, 724, 737, 770, 783, 796], 132) := by decide +kernel
theorem dL_law_164 : decode cL_law 164 = .ok (.aload_n 1, 1) := by decide +kernel
theorem dL_law_165 : decode cL_law 165 = .ok (.aload_n 0, 1) := by decide +kernel
theorem dL_law_166 : decode cL_law 166 = .ok (.iload_n 3, 1) := by decide +kernel
theorem dL_law_167 : decode cL_law 167 = .ok (.iconst 1, 1) := by decide +kernel
theorem dL_law_168 : decode cL_law 168 = .ok (.iadd, 1) := by decide +kernel
theorem dL_law_169 : decode cL_law 169 = .ok (.iaload, 1) := by decide +kernel
theorem dL_law_170 : decode cL_law 170 = .ok (.invokevirtual 13, 3) := by decide +kernel
theorem dL_law_173 : decode cL_law 173 = .ok (.aload_n 2, 1) := by decide +kernel
theorem dL_law_174 : decode cL_law 174 = .ok (.aload_n 0, 1) := by decide +kernel
theorem dL_law_175 : decode cL_law 175 = .ok (.iload_n 3, 1) := by decide +kernel
theorem dL_law_176 : decode cL_law 176 = .ok (.iconst 1, 1) := by decide +kernel
theorem dL_law_177 : decode cL_law 177 = .ok (.iadd, 1) := by decide +kernel
theorem dL_law_178 : decode cL_law 178 = .ok (.iaload, 1) := by decide +kernel
theorem dL_law_179 : decode cL_law 179 = .ok (.invokevirtual 17, 3) := by decide +kernel
theorem dL_law_182 : decode cL_law 182 = .ok (.if_icmp .eq 669, 3) := by decide +kernel
theorem dL_law_185 : decode cL_law 185 = .ok (.iconst 0, 1) := by decide +kernel
theorem dL_law_186 : decode cL_law 186 = .ok (.ireturn, 1) := by decide +kernel
theorem dL_law_187 : decode cL_law 187 = .ok (.aload_n 1, 1) := by decide +kernel
theorem dL_law_188 : decode cL_law 188 = .ok (.invokevirtual 18, 3) := by decide +kernel
theorem dL_law_191 : decode cL_law 191 = .ok (.aload_n 2, 1) := by decide +kernel
theorem dL_law_192 : decode cL_law 192 = .ok (.invokevirtual 22, 3) := by decide +kernel
theorem dL_law_195 : decode cL_law 195 = .ok (.if_icmp .eq 656, 3) := by decide +kernel
theorem dL_law_198 : decode cL_law 198 = .ok (.iconst 0, 1) := by decide +kernel
theorem dL_law_199 : decode cL_law 199 = .ok (.ireturn, 1) := by decide +kernel
theorem dL_law_200 : decode cL_law 200 = .ok (.aload_n 1, 1) := by decide +kernel
theorem dL_law_201 : decode cL_law 201 = .ok (.aload_n 0, 1) := by decide +kernel
theorem dL_law_202 : decode cL_law 202 = .ok (.iload_n 3, 1) := by decide +kernel
theorem dL_law_203 : decode cL_law 203 = .ok (.iconst 1, 1) := by decide +kernel
theorem dL_law_204 : decode cL_law 204 = .ok (.iadd, 1) := by decide +kernel
theorem dL_law_205 : decode cL_law 205 = .ok (.iaload, 1) := by decide +kernel
theorem dL_law_206 : decode cL_law 206 = .ok (.aload_n 0, 1) := by decide +kernel
theorem dL_law_207 : decode cL_law 207 = .ok (.iload_n 3, 1) := by decide +kernel
theorem dL_law_208 : decode cL_law 208 = .ok (.iconst 2, 1) := by decide +kernel
theorem dL_law_209 : decode cL_law 209 = .ok (.iadd, 1) := by decide +kernel
theorem dL_law_210 : decode cL_law 210 = .ok (.iaload, 1) := by decide +kernel
theorem dL_law_211 : decode cL_law 211 = .ok (.invokevirtual 23, 3) := by decide +kernel
theorem dL_law_214 : decode cL_law 214 = .ok (.aload_n 2, 1) := by decide +kernel
theorem dL_law_215 : decode cL_law 215 = .ok (.aload_n 0, 1) := by decide +kernel
theorem dL_law_216 : decode cL_law 216 = .ok (.iload_n 3, 1) := by decide +kernel
theorem dL_law_217 : decode cL_law 217 = .ok (.iconst 1, 1) := by decide +kernel
theorem dL_law_218 : decode cL_law 218 = .ok (.iadd, 1) := by decide +kernel
theorem dL_law_219 : decode cL_law 219 = .ok (.iaload, 1) := by decide +kernel
theorem dL_law_220 : decode cL_law 220 = .ok (.aload_n 0, 1) := by decide +kernel
theorem dL_law_221 : decode cL_law 221 = .ok (.iload_n 3, 1) := by decide +kernel
theorem dL_law_222 : decode cL_law 222 = .ok (.iconst 2, 1) := by decide +kernel
theorem dL_law_223 : decode cL_law 223 = .ok (.iadd, 1) := by decide +kernel
theorem dL_law_224 : decode cL_law 224 = .ok (.iaload, 1) := by decide +kernel
theorem dL_law_225 : decode cL_law 225 = .ok (.invokevirtual 27, 3) := by decide +kernel
theorem dL_law_228 : decode cL_law 228 = .ok (.if_icmp .eq 623, 3) := by decide +kernel
theorem dL_law_231 : decode cL_law 231 = .ok (.iconst 0, 1) := by decide +kernel
theorem dL_law_232 : decode cL_law 232 = .ok (.ireturn, 1) := by decide +kernel
theorem dL_law_233 : decode cL_law 233 = .ok (.aload_n 1, 1) := by decide +kernel
theorem dL_law_234 : decode cL_law 234 = .ok (.aload_n 0, 1) := by decide +kernel
theorem dL_law_235 : decode cL_law 235 = .ok (.iload_n 3, 1) := by decide +kernel
theorem dL_law_236 : decode cL_law 236 = .ok (.iconst 1, 1) := by decide +kernel
theorem dL_law_237 : decode cL_law 237 = .ok (.iadd, 1) := by decide +kernel
theorem dL_law_238 : decode cL_law 238 = .ok (.iaload, 1) := by decide +kernel
theorem dL_law_239 : decode cL_law 239 = .ok (.invokevirtual 28, 3) := by decide +kernel
theorem dL_law_242 : decode cL_law 242 = .ok (.aload_n 2, 1) := by decide +kernel
theorem dL_law_243 : decode cL_law 243 = .ok (.aload_n 0, 1) := by decide +kernel
theorem dL_law_244 : decode cL_law 244 = .ok (.iload_n 3, 1) := by decide +kernel
theorem dL_law_245 : decode cL_law 245 = .ok (.iconst 1, 1) := by decide +kernel
theorem dL_law_246 : decode cL_law 246 = .ok (.iadd, 1) := by decide +kernel
theorem dL_law_247 : decode cL_law 247 = .ok (.iaload, 1) := by decide +kernel
theorem dL_law_248 : decode cL_law 248 = .ok (.invokevirtual 31, 3) := by decide +kernel
theorem dL_law_251 : decode cL_law 251 = .ok (.if_icmp .eq 600, 3) := by decide +kernel
theorem dL_law_254 : decode cL_law 254 = .ok (.iconst 0, 1) := by decide +kernel
theorem dL_law_255 : decode cL_law 255 = .ok (.ireturn, 1) := by decide +kernel
theorem dL_law_256 : decode cL_law 256 = .ok (.aload_n 1, 1) := by decide +kernel
theorem dL_law_257 : decode cL_law 257 = .ok (.aload_n 0, 1) := by decide +kernel
theorem dL_law_258 : decode cL_law 258 = .ok (.iload_n 3, 1) := by decide +kernel
theorem dL_law_259 : decode cL_law 259 = .ok (.iconst 1, 1) := by decide +kernel
theorem dL_law_260 : decode cL_law 260 = .ok (.iadd, 1) := by decide +kernel
theorem dL_law_261 : decode cL_law 261 = .ok (.iaload, 1) := by decide +kernel
theorem dL_law_262 : decode cL_law 262 = .ok (.aload_n 0, 1) := by decide +kernel
theorem dL_law_263 : decode cL_law 263 = .ok (.iload_n 3, 1) := by decide +kernel
theorem dL_law_264 : decode cL_law 264 = .ok (.iconst 2, 1) := by decide +kernel
theorem dL_law_265 : decode cL_law 265 = .ok (.iadd, 1) := by decide +kernel
theorem dL_law_266 : decode cL_law 266 = .ok (.iaload, 1) := by decide +kernel
theorem dL_law_267 : decode cL_law 267 = .ok (.invokevirtual 32, 3) := by decide +kernel
theorem dL_law_270 : decode cL_law 270 = .ok (.aload_n 2, 1) := by decide +kernel
theorem dL_law_271 : decode cL_law 271 = .ok (.aload_n 0, 1) := by decide +kernel
theorem dL_law_272 : decode cL_law 272 = .ok (.iload_n 3, 1) := by decide +kernel
theorem dL_law_273 : decode cL_law 273 = .ok (.iconst 1, 1) := by decide +kernel
theorem dL_law_274 : decode cL_law 274 = .ok (.iadd, 1) := by decide +kernel
theorem dL_law_275 : decode cL_law 275 = .ok (.iaload, 1) := by decide +kernel
theorem dL_law_276 : decode cL_law 276 = .ok (.aload_n 0, 1) := by decide +kernel
theorem dL_law_277 : decode cL_law 277 = .ok (.iload_n 3, 1) := by decide +kernel
theorem dL_law_278 : decode cL_law 278 = .ok (.iconst 2, 1) := by decide +kernel
theorem dL_law_279 : decode cL_law 279 = .ok (.iadd, 1) := by decide +kernel
theorem dL_law_280 : decode cL_law 280 = .ok (.iaload, 1) := by decide +kernel
theorem dL_law_281 : decode cL_law 281 = .ok (.invokevirtual 35, 3) := by decide +kernel
theorem dL_law_284 : decode cL_law 284 = .ok (.if_icmp .eq 567, 3) := by decide +kernel
theorem dL_law_287 : decode cL_law 287 = .ok (.iconst 0, 1) := by decide +kernel
theorem dL_law_288 : decode cL_law 288 = .ok (.ireturn, 1) := by decide +kernel
theorem dL_law_289 : decode cL_law 289 = .ok (.aload_n 1, 1) := by decide +kernel
theorem dL_law_290 : decode cL_law 290 = .ok (.aload_n 0, 1) := by decide +kernel
theorem dL_law_291 : decode cL_law 291 = .ok (.iload_n 3, 1) := by decide +kernel
theorem dL_law_292 : decode cL_law 292 = .ok (.iconst 1, 1) := by decide +kernel
theorem dL_law_293 : decode cL_law 293 = .ok (.iadd, 1) := by decide +kernel
theorem dL_law_294 : decode cL_law 294 = .ok (.iaload, 1) := by decide +kernel
theorem dL_law_295 : decode cL_law 295 = .ok (.aload_n 0, 1) := by decide +kernel
theorem dL_law_296 : decode cL_law 296 = .ok (.iload_n 3, 1) := by decide +kernel
theorem dL_law_297 : decode cL_law 297 = .ok (.iconst 2, 1) := by decide +kernel
theorem dL_law_298 : decode cL_law 298 = .ok (.iadd, 1) := by decide +kernel
theorem dL_law_299 : decode cL_law 299 = .ok (.iaload, 1) := by decide +kernel
theorem dL_law_300 : decode cL_law 300 = .ok (.invokevirtual 36, 3) := by decide +kernel
theorem dL_law_303 : decode cL_law 303 = .ok (.aload_n 2, 1) := by decide +kernel
theorem dL_law_304 : decode cL_law 304 = .ok (.aload_n 0, 1) := by decide +kernel
theorem dL_law_305 : decode cL_law 305 = .ok (.iload_n 3, 1) := by decide +kernel
theorem dL_law_306 : decode cL_law 306 = .ok (.iconst 1, 1) := by decide +kernel
theorem dL_law_307 : decode cL_law 307 = .ok (.iadd, 1) := by decide +kernel
theorem dL_law_308 : decode cL_law 308 = .ok (.iaload, 1) := by decide +kernel
theorem dL_law_309 : decode cL_law 309 = .ok (.aload_n 0, 1) := by decide +kernel
theorem dL_law_310 : decode cL_law 310 = .ok (.iload_n 3, 1) := by decide +kernel
theorem dL_law_311 : decode cL_law 311 = .ok (.iconst 2, 1) := by decide +kernel
theorem dL_law_312 : decode cL_law 312 = .ok (.iadd, 1) := by decide +kernel
theorem dL_law_313 : decode cL_law 313 = .ok (.iaload, 1) := by decide +kernel
theorem dL_law_314 : decode cL_law 314 = .ok (.invokevirtual 39, 3) := by decide +kernel
theorem dL_law_317 : decode cL_law 317 = .ok (.if_icmp .eq 534, 3) := by decide +kernel
theorem dL_law_320 : decode cL_law 320 = .ok (.iconst 0, 1) := by decide +kernel
theorem dL_law_321 : decode cL_law 321 = .ok (.ireturn, 1) := by decide +kernel
theorem dL_law_322 : decode cL_law 322 = .ok (.aload_n 1, 1) := by decide +kernel
theorem dL_law_323 : decode cL_law 323 = .ok (.aload_n 0, 1) := by decide +kernel
theorem dL_law_324 : decode cL_law 324 = .ok (.iload_n 3, 1) := by decide +kernel
theorem dL_law_325 : decode cL_law 325 = .ok (.iconst 1, 1) := by decide +kernel
theorem dL_law_326 : decode cL_law 326 = .ok (.iadd, 1) := by decide +kernel
theorem dL_law_327 : decode cL_law 327 = .ok (.iaload, 1) := by decide +kernel
theorem dL_law_328 : decode cL_law 328 = .ok (.aload_n 0, 1) := by decide +kernel
theorem dL_law_329 : decode cL_law 329 = .ok (.iload_n 3, 1) := by decide +kernel
theorem dL_law_330 : decode cL_law 330 = .ok (.iconst 2, 1) := by decide +kernel
theorem dL_law_331 : decode cL_law 331 = .ok (.iadd, 1) := by decide +kernel
theorem dL_law_332 : decode cL_law 332 = .ok (.iaload, 1) := by decide +kernel
theorem dL_law_333 : decode cL_law 333 = .ok (.invokevirtual 40, 3) := by decide +kernel
theorem dL_law_336 : decode cL_law 336 = .ok (.aload_n 2, 1) := by decide +kernel
theorem dL_law_337 : decode cL_law 337 = .ok (.aload_n 0, 1) := by decide +kernel
theorem dL_law_338 : decode cL_law 338 = .ok (.iload_n 3, 1) := by decide +kernel
theorem dL_law_339 : decode cL_law 339 = .ok (.iconst 1, 1) := by decide +kernel
theorem dL_law_340 : decode cL_law 340 = .ok (.iadd, 1) := by decide +kernel
theorem dL_law_341 : decode cL_law 341 = .ok (.iaload, 1) := by decide +kernel
theorem dL_law_342 : decode cL_law 342 = .ok (.aload_n 0, 1) := by decide +kernel
theorem dL_law_343 : decode cL_law 343 = .ok (.iload_n 3, 1) := by decide +kernel
theorem dL_law_344 : decode cL_law 344 = .ok (.iconst 2, 1) := by decide +kernel
theorem dL_law_345 : decode cL_law 345 = .ok (.iadd, 1) := by decide +kernel
theorem dL_law_346 : decode cL_law 346 = .ok (.iaload, 1) := by decide +kernel
theorem dL_law_347 : decode cL_law 347 = .ok (.invokevirtual 43, 3) := by decide +kernel
theorem dL_law_350 : decode cL_law 350 = .ok (.if_icmp .eq 501, 3) := by decide +kernel
theorem dL_law_353 : decode cL_law 353 = .ok (.iconst 0, 1) := by decide +kernel
theorem dL_law_354 : decode cL_law 354 = .ok (.ireturn, 1) := by decide +kernel
theorem dL_law_355 : decode cL_law 355 = .ok (.aload_n 1, 1) := by decide +kernel
theorem dL_law_356 : decode cL_law 356 = .ok (.aload_n 0, 1) := by decide +kernel
theorem dL_law_357 : decode cL_law 357 = .ok (.iload_n 3, 1) := by decide +kernel
theorem dL_law_358 : decode cL_law 358 = .ok (.iconst 1, 1) := by decide +kernel
theorem dL_law_359 : decode cL_law 359 = .ok (.iadd, 1) := by decide +kernel
theorem dL_law_360 : decode cL_law 360 = .ok (.iaload, 1) := by decide +kernel
theorem dL_law_361 : decode cL_law 361 = .ok (.aload_n 0, 1) := by decide +kernel
theorem dL_law_362 : decode cL_law 362 = .ok (.iload_n 3, 1) := by decide +kernel
theorem dL_law_363 : decode cL_law 363 = .ok (.iconst 2, 1) := by decide +kernel
theorem dL_law_364 : decode cL_law 364 = .ok (.iadd, 1) := by decide +kernel
theorem dL_law_365 : decode cL_law 365 = .ok (.iaload, 1) := by decide +kernel
theorem dL_law_366 : decode cL_law 366 = .ok (.invokevirtual 44, 3) := by decide +kernel
theorem dL_law_369 : decode cL_law 369 = .ok (.aload_n 2, 1) := by decide +kernel
theorem dL_law_370 : decode cL_law 370 = .ok (.aload_n 0, 1) := by decide +kernel
theorem dL_law_371 : decode cL_law 371 = .ok (.iload_n 3, 1) := by decide +kernel
theorem dL_law_372 : decode cL_law 372 = .ok (.iconst 1, 1) := by decide +kernel
theorem dL_law_373 : decode cL_law 373 = .ok (.iadd, 1) := by decide +kernel
theorem dL_law_374 : decode cL_law 374 = .ok (.iaload, 1) := by decide +kernel
theorem dL_law_375 : decode cL_law 375 = .ok (.aload_n 0, 1) := by decide +kernel
theorem dL_law_376 : decode cL_law 376 = .ok (.iload_n 3, 1) := by decide +kernel
theorem dL_law_377 : decode cL_law 377 = .ok (.iconst 2, 1) := by decide +kernel
theorem dL_law_378 : decode cL_law 378 = .ok (.iadd, 1) := by decide +kernel
theorem dL_law_379 : decode cL_law 379 = .ok (.iaload, 1) := by decide +kernel
theorem dL_law_380 : decode cL_law 380 = .ok (.invokevirtual 47, 3) := by decide +kernel
theorem dL_law_383 : decode cL_law 383 = .ok (.if_icmp .eq 468, 3) := by decide +kernel
theorem dL_law_386 : decode cL_law 386 = .ok (.iconst 0, 1) := by decide +kernel
theorem dL_law_387 : decode cL_law 387 = .ok (.ireturn, 1) := by decide +kernel
theorem dL_law_388 : decode cL_law 388 = .ok (.aload_n 1, 1) := by decide +kernel
theorem dL_law_389 : decode cL_law 389 = .ok (.aload_n 0, 1) := by decide +kernel
theorem dL_law_390 : decode cL_law 390 = .ok (.iload_n 3, 1) := by decide +kernel
theorem dL_law_391 : decode cL_law 391 = .ok (.iconst 1, 1) := by decide +kernel
theorem dL_law_392 : decode cL_law 392 = .ok (.iadd, 1) := by decide +kernel
theorem dL_law_393 : decode cL_law 393 = .ok (.iaload, 1) := by decide +kernel
theorem dL_law_394 : decode cL_law 394 = .ok (.invokevirtual 48, 3) := by decide +kernel
theorem dL_law_397 : decode cL_law 397 = .ok (.aload_n 2, 1) := by decide +kernel
theorem dL_law_398 : decode cL_law 398 = .ok (.aload_n 0, 1) := by decide +kernel
theorem dL_law_399 : decode cL_law 399 = .ok (.iload_n 3, 1) := by decide +kernel
theorem dL_law_400 : decode cL_law 400 = .ok (.iconst 1, 1) := by decide +kernel
theorem dL_law_401 : decode cL_law 401 = .ok (.iadd, 1) := by decide +kernel
theorem dL_law_402 : decode cL_law 402 = .ok (.iaload, 1) := by decide +kernel
theorem dL_law_403 : decode cL_law 403 = .ok (.invokevirtual 51, 3) := by decide +kernel
theorem dL_law_406 : decode cL_law 406 = .ok (.if_icmp .eq 445, 3) := by decide +kernel
theorem dL_law_409 : decode cL_law 409 = .ok (.iconst 0, 1) := by decide +kernel
theorem dL_law_410 : decode cL_law 410 = .ok (.ireturn, 1) := by decide +kernel
theorem dL_law_411 : decode cL_law 411 = .ok (.aload_n 1, 1) := by decide +kernel
theorem dL_law_412 : decode cL_law 412 = .ok (.aload_n 0, 1) := by decide +kernel
theorem dL_law_413 : decode cL_law 413 = .ok (.iload_n 3, 1) := by decide +kernel
theorem dL_law_414 : decode cL_law 414 = .ok (.iconst 1, 1) := by decide +kernel
theorem dL_law_415 : decode cL_law 415 = .ok (.iadd, 1) := by decide +kernel
theorem dL_law_416 : decode cL_law 416 = .ok (.iaload, 1) := by decide +kernel
theorem dL_law_417 : decode cL_law 417 = .ok (.invokevirtual 52, 3) := by decide +kernel
theorem dL_law_420 : decode cL_law 420 = .ok (.aload_n 2, 1) := by decide +kernel
theorem dL_law_421 : decode cL_law 421 = .ok (.aload_n 0, 1) := by decide +kernel
theorem dL_law_422 : decode cL_law 422 = .ok (.iload_n 3, 1) := by decide +kernel
theorem dL_law_423 : decode cL_law 423 = .ok (.iconst 1, 1) := by decide +kernel
theorem dL_law_424 : decode cL_law 424 = .ok (.iadd, 1) := by decide +kernel
theorem dL_law_425 : decode cL_law 425 = .ok (.iaload, 1) := by decide +kernel
theorem dL_law_426 : decode cL_law 426 = .ok (.invokevirtual 55, 3) := by decide +kernel
theorem dL_law_429 : decode cL_law 429 = .ok (.if_icmp .eq 422, 3) := by decide +kernel
theorem dL_law_432 : decode cL_law 432 = .ok (.iconst 0, 1) := by decide +kernel
theorem dL_law_433 : decode cL_law 433 = .ok (.ireturn, 1) := by decide +kernel
theorem dL_law_434 : decode cL_law 434 = .ok (.aload_n 1, 1) := by decide +kernel
theorem dL_law_435 : decode cL_law 435 = .ok (.aload_n 0, 1) := by decide +kernel
theorem dL_law_436 : decode cL_law 436 = .ok (.iload_n 3, 1) := by decide +kernel
theorem dL_law_437 : decode cL_law 437 = .ok (.iconst 1, 1) := by decide +kernel
theorem dL_law_438 : decode cL_law 438 = .ok (.iadd, 1) := by decide +kernel
theorem dL_law_439 : decode cL_law 439 = .ok (.iaload, 1) := by decide +kernel
theorem dL_law_440 : decode cL_law 440 = .ok (.aload_n 0, 1) := by decide +kernel
theorem dL_law_441 : decode cL_law 441 = .ok (.iload_n 3, 1) := by decide +kernel
theorem dL_law_442 : decode cL_law 442 = .ok (.iconst 2, 1) := by decide +kernel
theorem dL_law_443 : decode cL_law 443 = .ok (.iadd, 1) := by decide +kernel
theorem dL_law_444 : decode cL_law 444 = .ok (.iaload, 1) := by decide +kernel
theorem dL_law_445 : decode cL_law 445 = .ok (.invokevirtual 56, 3) := by decide +kernel
theorem dL_law_448 : decode cL_law 448 = .ok (.aload_n 2, 1) := by decide +kernel
theorem dL_law_449 : decode cL_law 449 = .ok (.aload_n 0, 1) := by decide +kernel
theorem dL_law_450 : decode cL_law 450 = .ok (.iload_n 3, 1) := by decide +kernel
theorem dL_law_451 : decode cL_law 451 = .ok (.iconst 1, 1) := by decide +kernel
theorem dL_law_452 : decode cL_law 452 = .ok (.iadd, 1) := by decide +kernel
theorem dL_law_453 : decode cL_law 453 = .ok (.iaload, 1) := by decide +kernel
theorem dL_law_454 : decode cL_law 454 = .ok (.aload_n 0, 1) := by decide +kernel
theorem dL_law_455 : decode cL_law 455 = .ok (.iload_n 3, 1) := by decide +kernel
theorem dL_law_456 : decode cL_law 456 = .ok (.iconst 2, 1) := by decide +kernel
theorem dL_law_457 : decode cL_law 457 = .ok (.iadd, 1) := by decide +kernel
theorem dL_law_458 : decode cL_law 458 = .ok (.iaload, 1) := by decide +kernel
theorem dL_law_459 : decode cL_law 459 = .ok (.invokevirtual 59, 3) := by decide +kernel
theorem dL_law_462 : decode cL_law 462 = .ok (.if_icmp .eq 389, 3) := by decide +kernel
theorem dL_law_465 : decode cL_law 465 = .ok (.iconst 0, 1) := by decide +kernel
theorem dL_law_466 : decode cL_law 466 = .ok (.ireturn, 1) := by decide +kernel
theorem dL_law_467 : decode cL_law 467 = .ok (.aload_n 1, 1) := by decide +kernel
theorem dL_law_468 : decode cL_law 468 = .ok (.aload_n 0, 1) := by decide +kernel
theorem dL_law_469 : decode cL_law 469 = .ok (.iload_n 3, 1) := by decide +kernel
theorem dL_law_470 : decode cL_law 470 = .ok (.iconst 1, 1) := by decide +kernel
theorem dL_law_471 : decode cL_law 471 = .ok (.iadd, 1) := by decide +kernel
theorem dL_law_472 : decode cL_law 472 = .ok (.iaload, 1) := by decide +kernel
theorem dL_law_473 : decode cL_law 473 = .ok (.invokevirtual 60, 3) := by decide +kernel
theorem dL_law_476 : decode cL_law 476 = .ok (.aload_n 2, 1) := by decide +kernel
theorem dL_law_477 : decode cL_law 477 = .ok (.aload_n 0, 1) := by decide +kernel
theorem dL_law_478 : decode cL_law 478 = .ok (.iload_n 3, 1) := by decide +kernel
theorem dL_law_479 : decode cL_law 479 = .ok (.iconst 1, 1) := by decide +kernel
theorem dL_law_480 : decode cL_law 480 = .ok (.iadd, 1) := by decide +kernel
theorem dL_law_481 : decode cL_law 481 = .ok (.iaload, 1) := by decide +kernel
theorem dL_law_482 : decode cL_law 482 = .ok (.invokevirtual 63, 3) := by decide +kernel
theorem dL_law_485 : decode cL_law 485 = .ok (.if_icmp .eq 366, 3) := by decide +kernel
theorem dL_law_488 : decode cL_law 488 = .ok (.iconst 0, 1) := by decide +kernel
theorem dL_law_489 : decode cL_law 489 = .ok (.ireturn, 1) := by decide +kernel
theorem dL_law_490 : decode cL_law 490 = .ok (.aload_n 1, 1) := by decide +kernel
theorem dL_law_491 : decode cL_law 491 = .ok (.aload_n 0, 1) := by decide +kernel
theorem dL_law_492 : decode cL_law 492 = .ok (.iload_n 3, 1) := by decide +kernel
theorem dL_law_493 : decode cL_law 493 = .ok (.iconst 1, 1) := by decide +kernel
theorem dL_law_494 : decode cL_law 494 = .ok (.iadd, 1) := by decide +kernel
theorem dL_law_495 : decode cL_law 495 = .ok (.iaload, 1) := by decide +kernel
theorem dL_law_496 : decode cL_law 496 = .ok (.aload_n 0, 1) := by decide +kernel
theorem dL_law_497 : decode cL_law 497 = .ok (.iload_n 3, 1) := by decide +kernel
theorem dL_law_498 : decode cL_law 498 = .ok (.iconst 2, 1) := by decide +kernel
theorem dL_law_499 : decode cL_law 499 = .ok (.iadd, 1) := by decide +kernel
theorem dL_law_500 : decode cL_law 500 = .ok (.iaload, 1) := by decide +kernel
theorem dL_law_501 : decode cL_law 501 = .ok (.invokevirtual 64, 3) := by decide +kernel
theorem dL_law_504 : decode cL_law 504 = .ok (.aload_n 2, 1) := by decide +kernel
theorem dL_law_505 : decode cL_law 505 = .ok (.aload_n 0, 1) := by decide +kernel
theorem dL_law_506 : decode cL_law 506 = .ok (.iload_n 3, 1) := by decide +kernel
theorem dL_law_507 : decode cL_law 507 = .ok (.iconst 1, 1) := by decide +kernel
theorem dL_law_508 : decode cL_law 508 = .ok (.iadd, 1) := by decide +kernel
theorem dL_law_509 : decode cL_law 509 = .ok (.iaload, 1) := by decide +kernel
theorem dL_law_510 : decode cL_law 510 = .ok (.aload_n 0, 1) := by decide +kernel
theorem dL_law_511 : decode cL_law 511 = .ok (.iload_n 3, 1) := by decide +kernel
theorem dL_law_512 : decode cL_law 512 = .ok (.iconst 2, 1) := by decide +kernel
theorem dL_law_513 : decode cL_law 513 = .ok (.iadd, 1) := by decide +kernel
theorem dL_law_514 : decode cL_law 514 = .ok (.iaload, 1) := by decide +kernel
theorem dL_law_515 : decode cL_law 515 = .ok (.invokevirtual 67, 3) := by decide +kernel
theorem dL_law_518 : decode cL_law 518 = .ok (.if_icmp .eq 333, 3) := by decide +kernel
theorem dL_law_521 : decode cL_law 521 = .ok (.iconst 0, 1) := by decide +kernel
theorem dL_law_522 : decode cL_law 522 = .ok (.ireturn, 1) := by decide +kernel
theorem dL_law_523 : decode cL_law 523 = .ok (.aload_n 1, 1) := by decide +kernel
theorem dL_law_524 : decode cL_law 524 = .ok (.aload_n 0, 1) := by decide +kernel
theorem dL_law_525 : decode cL_law 525 = .ok (.iload_n 3, 1) := by decide +kernel
theorem dL_law_526 : decode cL_law 526 = .ok (.iconst 1, 1) := by decide +kernel
theorem dL_law_527 : decode cL_law 527 = .ok (.iadd, 1) := by decide +kernel
theorem dL_law_528 : decode cL_law 528 = .ok (.iaload, 1) := by decide +kernel
theorem dL_law_529 : decode cL_law 529 = .ok (.invokevirtual 68, 3) := by decide +kernel
theorem dL_law_532 : decode cL_law 532 = .ok (.aload_n 2, 1) := by decide +kernel
theorem dL_law_533 : decode cL_law 533 = .ok (.aload_n 0, 1) := by decide +kernel
theorem dL_law_534 : decode cL_law 534 = .ok (.iload_n 3, 1) := by decide +kernel
theorem dL_law_535 : decode cL_law 535 = .ok (.iconst 1, 1) := by decide +kernel
theorem dL_law_536 : decode cL_law 536 = .ok (.iadd, 1) := by decide +kernel
theorem dL_law_537 : decode cL_law 537 = .ok (.iaload, 1) := by decide +kernel
theorem dL_law_538 : decode cL_law 538 = .ok (.invokevirtual 71, 3) := by decide +kernel
theorem dL_law_541 : decode cL_law 541 = .ok (.if_icmp .eq 310, 3) := by decide +kernel
theorem dL_law_544 : decode cL_law 544 = .ok (.iconst 0, 1) := by decide +kernel
theorem dL_law_545 : decode cL_law 545 = .ok (.ireturn, 1) := by decide +kernel
theorem dL_law_546 : decode cL_law 546 = .ok (.aload_n 1, 1) := by decide +kernel
theorem dL_law_547 : decode cL_law 547 = .ok (.invokevirtual 72, 3) := by decide +kernel
theorem dL_law_550 : decode cL_law 550 = .ok (.aload_n 2, 1) := by decide +kernel
theorem dL_law_551 : decode cL_law 551 = .ok (.invokevirtual 75, 3) := by decide +kernel
theorem dL_law_554 : decode cL_law 554 = .ok (.if_icmp .eq 297, 3) := by decide +kernel
theorem dL_law_557 : decode cL_law 557 = .ok (.iconst 0, 1) := by decide +kernel
theorem dL_law_558 : decode cL_law 558 = .ok (.ireturn, 1) := by decide +kernel
theorem dL_law_559 : decode cL_law 559 = .ok (.aload_n 1, 1) := by decide +kernel
theorem dL_law_560 : decode cL_law 560 = .ok (.invokevirtual 76, 3) := by decide +kernel
theorem dL_law_563 : decode cL_law 563 = .ok (.aload_n 2, 1) := by decide +kernel
theorem dL_law_564 : decode cL_law 564 = .ok (.invokevirtual 79, 3) := by decide +kernel
theorem dL_law_567 : decode cL_law 567 = .ok (.if_icmp .eq 284, 3) := by decide +kernel
theorem dL_law_570 : decode cL_law 570 = .ok (.iconst 0, 1) := by decide +kernel
theorem dL_law_571 : decode cL_law 571 = .ok (.ireturn, 1) := by decide +kernel
theorem dL_law_572 : decode cL_law 572 = .ok (.aload_n 1, 1) := by decide +kernel
theorem dL_law_573 : decode cL_law 573 = .ok (.aload_n 0, 1) := by decide +kernel
theorem dL_law_574 : decode cL_law 574 = .ok (.iload_n 3, 1) := by decide +kernel
theorem dL_law_575 : decode cL_law 575 = .ok (.iconst 1, 1) := by decide +kernel
theorem dL_law_576 : decode cL_law 576 = .ok (.iadd, 1) := by decide +kernel
theorem dL_law_577 : decode cL_law 577 = .ok (.iaload, 1) := by decide +kernel
theorem dL_law_578 : decode cL_law 578 = .ok (.invokevirtual 80, 3) := by decide +kernel
theorem dL_law_581 : decode cL_law 581 = .ok (.aload_n 2, 1) := by decide +kernel
theorem dL_law_582 : decode cL_law 582 = .ok (.aload_n 0, 1) := by decide +kernel
theorem dL_law_583 : decode cL_law 583 = .ok (.iload_n 3, 1) := by decide +kernel
theorem dL_law_584 : decode cL_law 584 = .ok (.iconst 1, 1) := by decide +kernel
theorem dL_law_585 : decode cL_law 585 = .ok (.iadd, 1) := by decide +kernel
theorem dL_law_586 : decode cL_law 586 = .ok (.iaload, 1) := by decide +kernel
theorem dL_law_587 : decode cL_law 587 = .ok (.invokevirtual 83, 3) := by decide +kernel
theorem dL_law_590 : decode cL_law 590 = .ok (.if_icmp .eq 261, 3) := by decide +kernel
theorem dL_law_593 : decode cL_law 593 = .ok (.iconst 0, 1) := by decide +kernel
theorem dL_law_594 : decode cL_law 594 = .ok (.ireturn, 1) := by decide +kernel
theorem dL_law_595 : decode cL_law 595 = .ok (.aload_n 1, 1) := by decide +kernel
theorem dL_law_596 : decode cL_law 596 = .ok (.aload_n 0, 1) := by decide +kernel
theorem dL_law_597 : decode cL_law 597 = .ok (.iload_n 3, 1) := by decide +kernel
theorem dL_law_598 : decode cL_law 598 = .ok (.iconst 1, 1) := by decide +kernel
theorem dL_law_599 : decode cL_law 599 = .ok (.iadd, 1) := by decide +kernel
theorem dL_law_600 : decode cL_law 600 = .ok (.iaload, 1) := by decide +kernel
theorem dL_law_601 : decode cL_law 601 = .ok (.invokevirtual 84, 3) := by decide +kernel
theorem dL_law_604 : decode cL_law 604 = .ok (.aload_n 2, 1) := by decide +kernel
theorem dL_law_605 : decode cL_law 605 = .ok (.aload_n 0, 1) := by decide +kernel
theorem dL_law_606 : decode cL_law 606 = .ok (.iload_n 3, 1) := by decide +kernel
theorem dL_law_607 : decode cL_law 607 = .ok (.iconst 1, 1) := by decide +kernel
theorem dL_law_608 : decode cL_law 608 = .ok (.iadd, 1) := by decide +kernel
theorem dL_law_609 : decode cL_law 609 = .ok (.iaload, 1) := by decide +kernel
theorem dL_law_610 : decode cL_law 610 = .ok (.invokevirtual 87, 3) := by decide +kernel
theorem dL_law_613 : decode cL_law 613 = .ok (.if_icmp .eq 238, 3) := by decide +kernel
theorem dL_law_616 : decode cL_law 616 = .ok (.iconst 0, 1) := by decide +kernel
theorem dL_law_617 : decode cL_law 617 = .ok (.ireturn, 1) := by decide +kernel
theorem dL_law_618 : decode cL_law 618 = .ok (.aload_n 1, 1) := by decide +kernel
theorem dL_law_619 : decode cL_law 619 = .ok (.aload_n 0, 1) := by decide +kernel
theorem dL_law_620 : decode cL_law 620 = .ok (.iload_n 3, 1) := by decide +kernel
theorem dL_law_621 : decode cL_law 621 = .ok (.iconst 1, 1) := by decide +kernel
theorem dL_law_622 : decode cL_law 622 = .ok (.iadd, 1) := by decide +kernel
theorem dL_law_623 : decode cL_law 623 = .ok (.iaload, 1) := by decide +kernel
theorem dL_law_624 : decode cL_law 624 = .ok (.invokevirtual 88, 3) := by decide +kernel
theorem dL_law_627 : decode cL_law 627 = .ok (.aload_n 2, 1) := by decide +kernel
theorem dL_law_628 : decode cL_law 628 = .ok (.aload_n 0, 1) := by decide +kernel
theorem dL_law_629 : decode cL_law 629 = .ok (.iload_n 3, 1) := by decide +kernel
theorem dL_law_630 : decode cL_law 630 = .ok (.iconst 1, 1) := by decide +kernel
theorem dL_law_631 : decode cL_law 631 = .ok (.iadd, 1) := by decide +kernel
theorem dL_law_632 : decode cL_law 632 = .ok (.iaload, 1) := by decide +kernel
theorem dL_law_633 : decode cL_law 633 = .ok (.invokevirtual 91, 3) := by decide +kernel
theorem dL_law_636 : decode cL_law 636 = .ok (.if_icmp .eq 215, 3) := by decide +kernel
theorem dL_law_639 : decode cL_law 639 = .ok (.iconst 0, 1) := by decide +kernel
theorem dL_law_640 : decode cL_law 640 = .ok (.ireturn, 1) := by decide +kernel
theorem dL_law_641 : decode cL_law 641 = .ok (.aload_n 1, 1) := by decide +kernel
theorem dL_law_642 : decode cL_law 642 = .ok (.aload_n 0, 1) := by decide +kernel
theorem dL_law_643 : decode cL_law 643 = .ok (.iload_n 3, 1) := by decide +kernel
theorem dL_law_644 : decode cL_law 644 = .ok (.iconst 1, 1) := by decide +kernel
theorem dL_law_645 : decode cL_law 645 = .ok (.iadd, 1) := by decide +kernel
theorem dL_law_646 : decode cL_law 646 = .ok (.iaload, 1) := by decide +kernel
theorem dL_law_647 : decode cL_law 647 = .ok (.invokevirtual 92, 3) := by decide +kernel
theorem dL_law_650 : decode cL_law 650 = .ok (.aload_n 2, 1) := by decide +kernel
theorem dL_law_651 : decode cL_law 651 = .ok (.aload_n 0, 1) := by decide +kernel
theorem dL_law_652 : decode cL_law 652 = .ok (.iload_n 3, 1) := by decide +kernel
theorem dL_law_653 : decode cL_law 653 = .ok (.iconst 1, 1) := by decide +kernel
theorem dL_law_654 : decode cL_law 654 = .ok (.iadd, 1) := by decide +kernel
theorem dL_law_655 : decode cL_law 655 = .ok (.iaload, 1) := by decide +kernel
theorem dL_law_656 : decode cL_law 656 = .ok (.invokevirtual 95, 3) := by decide +kernel
theorem dL_law_659 : decode cL_law 659 = .ok (.if_icmp .eq 192, 3) := by decide +kernel
theorem dL_law_662 : decode cL_law 662 = .ok (.iconst 0, 1) := by decide +kernel
theorem dL_law_663 : decode cL_law 663 = .ok (.ireturn, 1) := by decide +kernel
theorem dL_law_664 : decode cL_law 664 = .ok (.aload_n 1, 1) := by decide +kernel
theorem dL_law_665 : decode cL_law 665 = .ok (.aload_n 0, 1) := by decide +kernel
theorem dL_law_666 : decode cL_law 666 = .ok (.iload_n 3, 1) := by decide +kernel
theorem dL_law_667 : decode cL_law 667 = .ok (.iconst 1, 1) := by decide +kernel
theorem dL_law_668 : decode cL_law 668 = .ok (.iadd, 1) := by decide +kernel
theorem dL_law_669 : decode cL_law 669 = .ok (.iaload, 1) := by decide +kernel
theorem dL_law_670 : decode cL_law 670 = .ok (.invokevirtual 96, 3) := by decide +kernel
theorem dL_law_673 : decode cL_law 673 = .ok (.aload_n 2, 1) := by decide +kernel
theorem dL_law_674 : decode cL_law 674 = .ok (.aload_n 0, 1) := by decide +kernel
theorem dL_law_675 : decode cL_law 675 = .ok (.iload_n 3, 1) := by decide +kernel
theorem dL_law_676 : decode cL_law 676 = .ok (.iconst 1, 1) := by decide +kernel
theorem dL_law_677 : decode cL_law 677 = .ok (.iadd, 1) := by decide +kernel
theorem dL_law_678 : decode cL_law 678 = .ok (.iaload, 1) := by decide +kernel
theorem dL_law_679 : decode cL_law 679 = .ok (.invokevirtual 99, 3) := by decide +kernel
theorem dL_law_682 : decode cL_law 682 = .ok (.if_icmp .eq 169, 3) := by decide +kernel
theorem dL_law_685 : decode cL_law 685 = .ok (.iconst 0, 1) := by decide +kernel
theorem dL_law_686 : decode cL_law 686 = .ok (.ireturn, 1) := by decide +kernel
theorem dL_law_687 : decode cL_law 687 = .ok (.aload_n 1, 1) := by decide +kernel
theorem dL_law_688 : decode cL_law 688 = .ok (.aload_n 0, 1) := by decide +kernel
theorem dL_law_689 : decode cL_law 689 = .ok (.iload_n 3, 1) := by decide +kernel
theorem dL_law_690 : decode cL_law 690 = .ok (.iconst 1, 1) := by decide +kernel
theorem dL_law_691 : decode cL_law 691 = .ok (.iadd, 1) := by decide +kernel
theorem dL_law_692 : decode cL_law 692 = .ok (.iaload, 1) := by decide +kernel
theorem dL_law_693 : decode cL_law 693 = .ok (.invokevirtual 100, 3) := by decide +kernel
theorem dL_law_696 : decode cL_law 696 = .ok (.aload_n 2, 1) := by decide +kernel
theorem dL_law_697 : decode cL_law 697 = .ok (.aload_n 0, 1) := by decide +kernel
theorem dL_law_698 : decode cL_law 698 = .ok (.iload_n 3, 1) := by decide +kernel
theorem dL_law_699 : decode cL_law 699 = .ok (.iconst 1, 1) := by decide +kernel
theorem dL_law_700 : decode cL_law 700 = .ok (.iadd, 1) := by decide +kernel
theorem dL_law_701 : decode cL_law 701 = .ok (.iaload, 1) := by decide +kernel
theorem dL_law_702 : decode cL_law 702 = .ok (.invokevirtual 103, 3) := by decide +kernel
theorem dL_law_705 : decode cL_law 705 = .ok (.if_icmp .eq 146, 3) := by decide +kernel
theorem dL_law_708 : decode cL_law 708 = .ok (.iconst 0, 1) := by decide +kernel
theorem dL_law_709 : decode cL_law 709 = .ok (.ireturn, 1) := by decide +kernel
theorem dL_law_710 : decode cL_law 710 = .ok (.aload_n 1, 1) := by decide +kernel
theorem dL_law_711 : decode cL_law 711 = .ok (.aload_n 0, 1) := by decide +kernel
theorem dL_law_712 : decode cL_law 712 = .ok (.iload_n 3, 1) := by decide +kernel
theorem dL_law_713 : decode cL_law 713 = .ok (.iconst 1, 1) := by decide +kernel
theorem dL_law_714 : decode cL_law 714 = .ok (.iadd, 1) := by decide +kernel
theorem dL_law_715 : decode cL_law 715 = .ok (.iaload, 1) := by decide +kernel
theorem dL_law_716 : decode cL_law 716 = .ok (.invokevirtual 104, 3) := by decide +kernel
theorem dL_law_719 : decode cL_law 719 = .ok (.aload_n 2, 1) := by decide +kernel
theorem dL_law_720 : decode cL_law 720 = .ok (.aload_n 0, 1) := by decide +kernel
theorem dL_law_721 : decode cL_law 721 = .ok (.iload_n 3, 1) := by decide +kernel
theorem dL_law_722 : decode cL_law 722 = .ok (.iconst 1, 1) := by decide +kernel
theorem dL_law_723 : decode cL_law 723 = .ok (.iadd, 1) := by decide +kernel
theorem dL_law_724 : decode cL_law 724 = .ok (.iaload, 1) := by decide +kernel
theorem dL_law_725 : decode cL_law 725 = .ok (.invokevirtual 107, 3) := by decide +kernel
theorem dL_law_728 : decode cL_law 728 = .ok (.if_icmp .eq 123, 3) := by decide +kernel
theorem dL_law_731 : decode cL_law 731 = .ok (.iconst 0, 1) := by decide +kernel
theorem dL_law_732 : decode cL_law 732 = .ok (.ireturn, 1) := by decide +kernel
theorem dL_law_733 : decode cL_law 733 = .ok (.aload_n 1, 1) := by decide +kernel
theorem dL_law_734 : decode cL_law 734 = .ok (.aload_n 0, 1) := by decide +kernel
theorem dL_law_735 : decode cL_law 735 = .ok (.iload_n 3, 1) := by decide +kernel
theorem dL_law_736 : decode cL_law 736 = .ok (.iconst 1, 1) := by decide +kernel
theorem dL_law_737 : decode cL_law 737 = .ok (.iadd, 1) := by decide +kernel
theorem dL_law_738 : decode cL_law 738 = .ok (.iaload, 1) := by decide +kernel
theorem dL_law_739 : decode cL_law 739 = .ok (.invokevirtual 108, 3) := by decide +kernel
theorem dL_law_742 : decode cL_law 742 = .ok (.aload_n 2, 1) := by decide +kernel
theorem dL_law_743 : decode cL_law 743 = .ok (.aload_n 0, 1) := by decide +kernel
theorem dL_law_744 : decode cL_law 744 = .ok (.iload_n 3, 1) := by decide +kernel
theorem dL_law_745 : decode cL_law 745 = .ok (.iconst 1, 1) := by decide +kernel
theorem dL_law_746 : decode cL_law 746 = .ok (.iadd, 1) := by decide +kernel
theorem dL_law_747 : decode cL_law 747 = .ok (.iaload, 1) := by decide +kernel
theorem dL_law_748 : decode cL_law 748 = .ok (.invokevirtual 111, 3) := by decide +kernel
theorem dL_law_751 : decode cL_law 751 = .ok (.if_icmp .eq 100, 3) := by decide +kernel
theorem dL_law_754 : decode cL_law 754 = .ok (.iconst 0, 1) := by decide +kernel
theorem dL_law_755 : decode cL_law 755 = .ok (.ireturn, 1) := by decide +kernel
theorem dL_law_756 : decode cL_law 756 = .ok (.aload_n 1, 1) := by decide +kernel
theorem dL_law_757 : decode cL_law 757 = .ok (.invokevirtual 112, 3) := by decide +kernel
theorem dL_law_760 : decode cL_law 760 = .ok (.aload_n 2, 1) := by decide +kernel
theorem dL_law_761 : decode cL_law 761 = .ok (.invokevirtual 115, 3) := by decide +kernel
theorem dL_law_764 : decode cL_law 764 = .ok (.if_icmp .eq 87, 3) := by decide +kernel
theorem dL_law_767 : decode cL_law 767 = .ok (.iconst 0, 1) := by decide +kernel
theorem dL_law_768 : decode cL_law 768 = .ok (.ireturn, 1) := by decide +kernel
theorem dL_law_769 : decode cL_law 769 = .ok (.aload_n 1, 1) := by decide +kernel
theorem dL_law_770 : decode cL_law 770 = .ok (.aload_n 0, 1) := by decide +kernel
theorem dL_law_771 : decode cL_law 771 = .ok (.iload_n 3, 1) := by decide +kernel
theorem dL_law_772 : decode cL_law 772 = .ok (.iconst 1, 1) := by decide +kernel
theorem dL_law_773 : decode cL_law 773 = .ok (.iadd, 1) := by decide +kernel
theorem dL_law_774 : decode cL_law 774 = .ok (.iaload, 1) := by decide +kernel
theorem dL_law_775 : decode cL_law 775 = .ok (.aload_n 0, 1) := by decide +kernel
theorem dL_law_776 : decode cL_law 776 = .ok (.iload_n 3, 1) := by decide +kernel
theorem dL_law_777 : decode cL_law 777 = .ok (.iconst 2, 1) := by decide +kernel
theorem dL_law_778 : decode cL_law 778 = .ok (.iadd, 1) := by decide +kernel
theorem dL_law_779 : decode cL_law 779 = .ok (.iaload, 1) := by decide +kernel
theorem dL_law_780 : decode cL_law 780 = .ok (.invokevirtual 116, 3) := by decide +kernel
theorem dL_law_783 : decode cL_law 783 = .ok (.aload_n 2, 1) := by decide +kernel
theorem dL_law_784 : decode cL_law 784 = .ok (.aload_n 0, 1) := by decide +kernel
theorem dL_law_785 : decode cL_law 785 = .ok (.iload_n 3, 1) := by decide +kernel
theorem dL_law_786 : decode cL_law 786 = .ok (.iconst 1, 1) := by decide +kernel
theorem dL_law_787 : decode cL_law 787 = .ok (.iadd, 1) := by decide +kernel
theorem dL_law_788 : decode cL_law 788 = .ok (.iaload, 1) := by decide +kernel
theorem dL_law_789 : decode cL_law 789 = .ok (.aload_n 0, 1) := by decide +kernel
theorem dL_law_790 : decode cL_law 790 = .ok (.iload_n 3, 1) := by decide +kernel
theorem dL_law_791 : decode cL_law 791 = .ok (.iconst 2, 1) := by decide +kernel
theorem dL_law_792 : decode cL_law 792 = .ok (.iadd, 1) := by decide +kernel
theorem dL_law_793 : decode cL_law 793 = .ok (.iaload, 1) := by decide +kernel
theorem dL_law_794 : decode cL_law 794 = .ok (.invokevirtual 119, 3) := by decide +kernel
theorem dL_law_797 : decode cL_law 797 = .ok (.if_icmp .eq 54, 3) := by decide +kernel
theorem dL_law_800 : decode cL_law 800 = .ok (.iconst 0, 1) := by decide +kernel
theorem dL_law_801 : decode cL_law 801 = .ok (.ireturn, 1) := by decide +kernel
theorem dL_law_802 : decode cL_law 802 = .ok (.aload_n 1, 1) := by decide +kernel
theorem dL_law_803 : decode cL_law 803 = .ok (.invokevirtual 120, 3) := by decide +kernel
theorem dL_law_806 : decode cL_law 806 = .ok (.aload_n 2, 1) := by decide +kernel
theorem dL_law_807 : decode cL_law 807 = .ok (.invokevirtual 123, 3) := by decide +kernel
theorem dL_law_810 : decode cL_law 810 = .ok (.if_icmp .eq 41, 3) := by decide +kernel
theorem dL_law_813 : decode cL_law 813 = .ok (.iconst 0, 1) := by decide +kernel
theorem dL_law_814 : decode cL_law 814 = .ok (.ireturn, 1) := by decide +kernel
theorem dL_law_815 : decode cL_law 815 = .ok (.aload_n 1, 1) := by decide +kernel
theorem dL_law_816 : decode cL_law 816 = .ok (.invokevirtual 124, 3) := by decide +kernel
theorem dL_law_819 : decode cL_law 819 = .ok (.aload_n 2, 1) := by decide +kernel
theorem dL_law_820 : decode cL_law 820 = .ok (.invokevirtual 127, 3) := by decide +kernel
theorem dL_law_823 : decode cL_law 823 = .ok (.if_icmp .eq 28, 3) := by decide +kernel
theorem dL_law_826 : decode cL_law 826 = .ok (.iconst 0, 1) := by decide +kernel
theorem dL_law_827 : decode cL_law 827 = .ok (.ireturn, 1) := by decide +kernel
theorem dL_law_828 : decode cL_law 828 = .ok (.aload_n 1, 1) := by decide +kernel
theorem dL_law_829 : decode cL_law 829 = .ok (.aload_n 0, 1) := by decide +kernel
theorem dL_law_830 : decode cL_law 830 = .ok (.iload_n 3, 1) := by decide +kernel
theorem dL_law_831 : decode cL_law 831 = .ok (.iconst 1, 1) := by decide +kernel
theorem dL_law_832 : decode cL_law 832 = .ok (.iadd, 1) := by decide +kernel
theorem dL_law_833 : decode cL_law 833 = .ok (.iaload, 1) := by decide +kernel
theorem dL_law_834 : decode cL_law 834 = .ok (.invokevirtual 128, 3) := by decide +kernel
theorem dL_law_837 : decode cL_law 837 = .ok (.aload_n 2, 1) := by decide +kernel
theorem dL_law_838 : decode cL_law 838 = .ok (.aload_n 0, 1) := by decide +kernel
theorem dL_law_839 : decode cL_law 839 = .ok (.iload_n 3, 1) := by decide +kernel
theorem dL_law_840 : decode cL_law 840 = .ok (.iconst 1, 1) := by decide +kernel
theorem dL_law_841 : decode cL_law 841 = .ok (.iadd, 1) := by decide +kernel
theorem dL_law_842 : decode cL_law 842 = .ok (.iaload, 1) := by decide +kernel
theorem dL_law_843 : decode cL_law 843 = .ok (.invokevirtual 131, 3) := by decide +kernel
theorem dL_law_846 : decode cL_law 846 = .ok (.if_icmp .eq 5, 3) := by decide +kernel
theorem dL_law_849 : decode cL_law 849 = .ok (.iconst 0, 1) := by decide +kernel
theorem dL_law_850 : decode cL_law 850 = .ok (.ireturn, 1) := by decide +kernel
theorem dL_law_851 : decode cL_law 851 = .ok (.iinc 3 3, 3) := by decide +kernel
theorem dL_law_854 : decode cL_law 854 = .ok (.goto (-836), 3) := by decide +kernel
theorem dL_law_857 : decode cL_law 857 = .ok (.iconst 1, 1) := by decide +kernel
theorem dL_law_858 : decode cL_law 858 = .ok (.ireturn, 1) := by decide +kernel
def ob_steps (RR : ob_St → ob_St → Prop) : Prop := ∀ (σx σm : ob_St) (a b : Int32), RR σx σm → ob_ok2 RR (f_X10_letter σx a) (f_X11_letter σm a) ∧ ob_ok2 RR (f_X10_kitchen σx) (f_X11_kitchen σm) ∧ ob_ok2 RR (f_X10_dish σx a b) (f_X11_dish σm a b) ∧ ob_ok2 RR (f_X10_place σx a) (f_X11_place σm a) ∧ ob_ok2 RR (f_X10_change σx a b) (f_X11_change σm a b) ∧ ob_ok2 RR (f_X10_heat σx a b) (f_X11_heat σm a b) ∧ ob_ok2 RR (f_X10_begins σx a b) (f_X11_begins σm a b) ∧ ob_ok2 RR (f_X10_set σx a b) (f_X11_set σm a b) ∧ ob_ok2 RR (f_X10_goes σx a) (f_X11_goes σm a) ∧ ob_ok2 RR (f_X10_total σx a) (f_X11_total σm a) ∧ ob_ok2 RR (f_X10_of σx a b) (f_X11_of σm a b) ∧ ob_ok2 RR (f_X10_best σx a) (f_X11_best σm a) ∧ ob_ok2 RR (f_X10_bestAt σx a b) (f_X11_bestAt σm a b) ∧ ob_ok2 RR (f_X10_bestSet σx a) (f_X11_bestSet σm a) ∧ ob_ok2 RR (f_X10_roomMore σx) (f_X11_roomMore σm) ∧ ob_ok2 RR (f_X10_twoPull σx) (f_X11_twoPull σm) ∧ ob_ok2 RR (f_X10_stairs σx a) (f_X11_stairs σm a) ∧ ob_ok2 RR (f_X10_forgotten σx a) (f_X11_forgotten σm a) ∧ ob_ok2 RR (f_X10_halved σx a) (f_X11_halved σm a) ∧ ob_ok2 RR (f_X10_heard σx a) (f_X11_heard σm a) ∧ ob_ok2 RR (f_X10_waits σx a) (f_X11_waits σm a) ∧ ob_ok2 RR (f_X10_send σx a) (f_X11_send σm a) ∧ ob_ok2 RR (f_X10_row σx a) (f_X11_row σm a) ∧ ob_ok2 RR (f_X10_fits σx a) (f_X11_fits σm a) ∧ ob_ok2 RR (f_X10_judge σx) (f_X11_judge σm) ∧ ob_ok2 RR (f_X10_lots σx a b) (f_X11_lots σm a b) ∧ ob_ok2 RR (f_X10_image σx) (f_X11_image σm) ∧ ob_ok2 RR (f_X10_on σx) (f_X11_on σm) ∧ ob_ok2 RR (f_X10_count σx a) (f_X11_count σm a)
theorem lk_X10_letter : ob_LK mi_X10_letter 13 "BoxOnARope" 1 := ob_LKI rfl tw_279 tw_280 tw_281 tw_48 tw_282 ⟨rfl, rfl⟩ ⟨rfl, by decide +kernel, by decide +kernel, by decide +kernel⟩ ⟨Nat.le_of_ble_eq_true rfl, Nat.le_of_ble_eq_true rfl⟩
theorem lk_X11_letter : ob_LK mi_X11_letter 17 "BoxOnARopeModel" 1 := ob_LKI rfl tw_831 tw_832 tw_833 tw_59 tw_834 ⟨rfl, rfl⟩ ⟨rfl, by decide +kernel, by decide +kernel, by decide +kernel⟩ ⟨Nat.le_of_ble_eq_true rfl, Nat.le_of_ble_eq_true rfl⟩
theorem lk_X10_kitchen : ob_LK mi_X10_kitchen 18 "BoxOnARope" 0 := ob_LKI rfl tw_291 tw_292 tw_293 tw_48 tw_294 ⟨rfl, rfl⟩ ⟨rfl, by decide +kernel, by decide +kernel, by decide +kernel⟩ ⟨Nat.le_of_ble_eq_true rfl, Nat.le_of_ble_eq_true rfl⟩
theorem lk_X11_kitchen : ob_LK mi_X11_kitchen 22 "BoxOnARopeModel" 0 := ob_LKI rfl tw_839 tw_840 tw_841 tw_59 tw_842 ⟨rfl, rfl⟩ ⟨rfl, by decide +kernel, by decide +kernel, by decide +kernel⟩ ⟨Nat.le_of_ble_eq_true rfl, Nat.le_of_ble_eq_true rfl⟩
theorem lk_X10_dish : ob_LK mi_X10_dish 23 "BoxOnARope" 2 := ob_LKI rfl tw_478 tw_479 tw_480 tw_48 tw_481 ⟨rfl, rfl⟩ ⟨rfl, by decide +kernel, by decide +kernel, by decide +kernel⟩ ⟨Nat.le_of_ble_eq_true rfl, Nat.le_of_ble_eq_true rfl⟩
theorem lk_X11_dish : ob_LK mi_X11_dish 27 "BoxOnARopeModel" 2 := ob_LKI rfl tw_884 tw_885 tw_886 tw_59 tw_887 ⟨rfl, rfl⟩ ⟨rfl, by decide +kernel, by decide +kernel, by decide +kernel⟩ ⟨Nat.le_of_ble_eq_true rfl, Nat.le_of_ble_eq_true rfl⟩
theorem lk_X10_place : ob_LK mi_X10_place 28 "BoxOnARope" 1 := ob_LKI rfl tw_487 tw_488 tw_489 tw_48 tw_490 ⟨rfl, rfl⟩ ⟨rfl, by decide +kernel, by decide +kernel, by decide +kernel⟩ ⟨Nat.le_of_ble_eq_true rfl, Nat.le_of_ble_eq_true rfl⟩
theorem lk_X11_place : ob_LK mi_X11_place 31 "BoxOnARopeModel" 1 := ob_LKI rfl tw_888 tw_889 tw_890 tw_59 tw_891 ⟨rfl, rfl⟩ ⟨rfl, by decide +kernel, by decide +kernel, by decide +kernel⟩ ⟨Nat.le_of_ble_eq_true rfl, Nat.le_of_ble_eq_true rfl⟩
theorem lk_X10_change : ob_LK mi_X10_change 32 "BoxOnARope" 2 := ob_LKI rfl tw_491 tw_492 tw_493 tw_48 tw_494 ⟨rfl, rfl⟩ ⟨rfl, by decide +kernel, by decide +kernel, by decide +kernel⟩ ⟨Nat.le_of_ble_eq_true rfl, Nat.le_of_ble_eq_true rfl⟩
theorem lk_X11_change : ob_LK mi_X11_change 35 "BoxOnARopeModel" 2 := ob_LKI rfl tw_892 tw_893 tw_894 tw_59 tw_895 ⟨rfl, rfl⟩ ⟨rfl, by decide +kernel, by decide +kernel, by decide +kernel⟩ ⟨Nat.le_of_ble_eq_true rfl, Nat.le_of_ble_eq_true rfl⟩
theorem lk_X10_heat : ob_LK mi_X10_heat 36 "BoxOnARope" 2 := ob_LKI rfl tw_496 tw_497 tw_498 tw_48 tw_499 ⟨rfl, rfl⟩ ⟨rfl, by decide +kernel, by decide +kernel, by decide +kernel⟩ ⟨Nat.le_of_ble_eq_true rfl, Nat.le_of_ble_eq_true rfl⟩
theorem lk_X11_heat : ob_LK mi_X11_heat 39 "BoxOnARopeModel" 2 := ob_LKI rfl tw_896 tw_897 tw_898 tw_59 tw_899 ⟨rfl, rfl⟩ ⟨rfl, by decide +kernel, by decide +kernel, by decide +kernel⟩ ⟨Nat.le_of_ble_eq_true rfl, Nat.le_of_ble_eq_true rfl⟩
theorem lk_X10_begins : ob_LK mi_X10_begins 40 "BoxOnARope" 2 := ob_LKI rfl tw_500 tw_501 tw_502 tw_48 tw_503 ⟨rfl, rfl⟩ ⟨rfl, by decide +kernel, by decide +kernel, by decide +kernel⟩ ⟨Nat.le_of_ble_eq_true rfl, Nat.le_of_ble_eq_true rfl⟩
theorem lk_X11_begins : ob_LK mi_X11_begins 43 "BoxOnARopeModel" 2 := ob_LKI rfl tw_900 tw_901 tw_902 tw_59 tw_903 ⟨rfl, rfl⟩ ⟨rfl, by decide +kernel, by decide +kernel, by decide +kernel⟩ ⟨Nat.le_of_ble_eq_true rfl, Nat.le_of_ble_eq_true rfl⟩
theorem lk_X10_set : ob_LK mi_X10_set 44 "BoxOnARope" 2 := ob_LKI rfl tw_505 tw_506 tw_507 tw_48 tw_508 ⟨rfl, rfl⟩ ⟨rfl, by decide +kernel, by decide +kernel, by decide +kernel⟩ ⟨Nat.le_of_ble_eq_true rfl, Nat.le_of_ble_eq_true rfl⟩
theorem lk_X11_set : ob_LK mi_X11_set 47 "BoxOnARopeModel" 2 := ob_LKI rfl tw_904 tw_905 tw_906 tw_59 tw_907 ⟨rfl, rfl⟩ ⟨rfl, by decide +kernel, by decide +kernel, by decide +kernel⟩ ⟨Nat.le_of_ble_eq_true rfl, Nat.le_of_ble_eq_true rfl⟩
theorem lk_X10_goes : ob_LK mi_X10_goes 48 "BoxOnARope" 1 := ob_LKI rfl tw_511 tw_512 tw_513 tw_48 tw_514 ⟨rfl, rfl⟩ ⟨rfl, by decide +kernel, by decide +kernel, by decide +kernel⟩ ⟨Nat.le_of_ble_eq_true rfl, Nat.le_of_ble_eq_true rfl⟩
theorem lk_X11_goes : ob_LK mi_X11_goes 51 "BoxOnARopeModel" 1 := ob_LKI rfl tw_914 tw_915 tw_916 tw_59 tw_917 ⟨rfl, rfl⟩ ⟨rfl, by decide +kernel, by decide +kernel, by decide +kernel⟩ ⟨Nat.le_of_ble_eq_true rfl, Nat.le_of_ble_eq_true rfl⟩
theorem lk_X10_total : ob_LK mi_X10_total 52 "BoxOnARope" 1 := ob_LKI rfl tw_523 tw_524 tw_525 tw_48 tw_526 ⟨rfl, rfl⟩ ⟨rfl, by decide +kernel, by decide +kernel, by decide +kernel⟩ ⟨Nat.le_of_ble_eq_true rfl, Nat.le_of_ble_eq_true rfl⟩
theorem lk_X11_total : ob_LK mi_X11_total 55 "BoxOnARopeModel" 1 := ob_LKI rfl tw_924 tw_925 tw_926 tw_59 tw_927 ⟨rfl, rfl⟩ ⟨rfl, by decide +kernel, by decide +kernel, by decide +kernel⟩ ⟨Nat.le_of_ble_eq_true rfl, Nat.le_of_ble_eq_true rfl⟩
theorem lk_X10_of : ob_LK mi_X10_of 56 "BoxOnARope" 2 := ob_LKI rfl tw_632 tw_633 tw_634 tw_48 tw_635 ⟨rfl, rfl⟩ ⟨rfl, by decide +kernel, by decide +kernel, by decide +kernel⟩ ⟨Nat.le_of_ble_eq_true rfl, Nat.le_of_ble_eq_true rfl⟩
theorem lk_X11_of : ob_LK mi_X11_of 59 "BoxOnARopeModel" 2 := ob_LKI rfl tw_969 tw_970 tw_971 tw_59 tw_972 ⟨rfl, rfl⟩ ⟨rfl, by decide +kernel, by decide +kernel, by decide +kernel⟩ ⟨Nat.le_of_ble_eq_true rfl, Nat.le_of_ble_eq_true rfl⟩
theorem lk_X10_best : ob_LK mi_X10_best 60 "BoxOnARope" 1 := ob_LKI rfl tw_636 tw_637 tw_638 tw_48 tw_639 ⟨rfl, rfl⟩ ⟨rfl, by decide +kernel, by decide +kernel, by decide +kernel⟩ ⟨Nat.le_of_ble_eq_true rfl, Nat.le_of_ble_eq_true rfl⟩
theorem lk_X11_best : ob_LK mi_X11_best 63 "BoxOnARopeModel" 1 := ob_LKI rfl tw_973 tw_974 tw_975 tw_59 tw_976 ⟨rfl, rfl⟩ ⟨rfl, by decide +kernel, by decide +kernel, by decide +kernel⟩ ⟨Nat.le_of_ble_eq_true rfl, Nat.le_of_ble_eq_true rfl⟩
theorem lk_X10_bestAt : ob_LK mi_X10_bestAt 64 "BoxOnARope" 2 := ob_LKI rfl tw_657 tw_658 tw_659 tw_48 tw_660 ⟨rfl, rfl⟩ ⟨rfl, by decide +kernel, by decide +kernel, by decide +kernel⟩ ⟨Nat.le_of_ble_eq_true rfl, Nat.le_of_ble_eq_true rfl⟩
theorem lk_X11_bestAt : ob_LK mi_X11_bestAt 67 "BoxOnARopeModel" 2 := ob_LKI rfl tw_989 tw_990 tw_991 tw_59 tw_992 ⟨rfl, rfl⟩ ⟨rfl, by decide +kernel, by decide +kernel, by decide +kernel⟩ ⟨Nat.le_of_ble_eq_true rfl, Nat.le_of_ble_eq_true rfl⟩
theorem lk_X10_bestSet : ob_LK mi_X10_bestSet 68 "BoxOnARope" 1 := ob_LKI rfl tw_661 tw_662 tw_663 tw_48 tw_664 ⟨rfl, rfl⟩ ⟨rfl, by decide +kernel, by decide +kernel, by decide +kernel⟩ ⟨Nat.le_of_ble_eq_true rfl, Nat.le_of_ble_eq_true rfl⟩
theorem lk_X11_bestSet : ob_LK mi_X11_bestSet 71 "BoxOnARopeModel" 1 := ob_LKI rfl tw_993 tw_994 tw_995 tw_59 tw_996 ⟨rfl, rfl⟩ ⟨rfl, by decide +kernel, by decide +kernel, by decide +kernel⟩ ⟨Nat.le_of_ble_eq_true rfl, Nat.le_of_ble_eq_true rfl⟩
theorem lk_X10_roomMore : ob_LK mi_X10_roomMore 72 "BoxOnARope" 0 := ob_LKI rfl tw_669 tw_670 tw_671 tw_48 tw_672 ⟨rfl, rfl⟩ ⟨rfl, by decide +kernel, by decide +kernel, by decide +kernel⟩ ⟨Nat.le_of_ble_eq_true rfl, Nat.le_of_ble_eq_true rfl⟩
theorem lk_X11_roomMore : ob_LK mi_X11_roomMore 75 "BoxOnARopeModel" 0 := ob_LKI rfl tw_1001 tw_1002 tw_1003 tw_59 tw_1004 ⟨rfl, rfl⟩ ⟨rfl, by decide +kernel, by decide +kernel, by decide +kernel⟩ ⟨Nat.le_of_ble_eq_true rfl, Nat.le_of_ble_eq_true rfl⟩
theorem lk_X10_twoPull : ob_LK mi_X10_twoPull 76 "BoxOnARope" 0 := ob_LKI rfl tw_677 tw_678 tw_679 tw_48 tw_680 ⟨rfl, rfl⟩ ⟨rfl, by decide +kernel, by decide +kernel, by decide +kernel⟩ ⟨Nat.le_of_ble_eq_true rfl, Nat.le_of_ble_eq_true rfl⟩
theorem lk_X11_twoPull : ob_LK mi_X11_twoPull 79 "BoxOnARopeModel" 0 := ob_LKI rfl tw_1009 tw_1010 tw_1011 tw_59 tw_1012 ⟨rfl, rfl⟩ ⟨rfl, by decide +kernel, by decide +kernel, by decide +kernel⟩ ⟨Nat.le_of_ble_eq_true rfl, Nat.le_of_ble_eq_true rfl⟩
theorem lk_X10_stairs : ob_LK mi_X10_stairs 80 "BoxOnARope" 1 := ob_LKI rfl tw_681 tw_682 tw_683 tw_48 tw_684 ⟨rfl, rfl⟩ ⟨rfl, by decide +kernel, by decide +kernel, by decide +kernel⟩ ⟨Nat.le_of_ble_eq_true rfl, Nat.le_of_ble_eq_true rfl⟩
theorem lk_X11_stairs : ob_LK mi_X11_stairs 83 "BoxOnARopeModel" 1 := ob_LKI rfl tw_1013 tw_1014 tw_1015 tw_59 tw_1016 ⟨rfl, rfl⟩ ⟨rfl, by decide +kernel, by decide +kernel, by decide +kernel⟩ ⟨Nat.le_of_ble_eq_true rfl, Nat.le_of_ble_eq_true rfl⟩
theorem lk_X10_forgotten : ob_LK mi_X10_forgotten 84 "BoxOnARope" 1 := ob_LKI rfl tw_685 tw_686 tw_687 tw_48 tw_688 ⟨rfl, rfl⟩ ⟨rfl, by decide +kernel, by decide +kernel, by decide +kernel⟩ ⟨Nat.le_of_ble_eq_true rfl, Nat.le_of_ble_eq_true rfl⟩
theorem lk_X11_forgotten : ob_LK mi_X11_forgotten 87 "BoxOnARopeModel" 1 := ob_LKI rfl tw_1017 tw_1018 tw_1019 tw_59 tw_1020 ⟨rfl, rfl⟩ ⟨rfl, by decide +kernel, by decide +kernel, by decide +kernel⟩ ⟨Nat.le_of_ble_eq_true rfl, Nat.le_of_ble_eq_true rfl⟩
theorem lk_X10_halved : ob_LK mi_X10_halved 88 "BoxOnARope" 1 := ob_LKI rfl tw_689 tw_690 tw_691 tw_48 tw_692 ⟨rfl, rfl⟩ ⟨rfl, by decide +kernel, by decide +kernel, by decide +kernel⟩ ⟨Nat.le_of_ble_eq_true rfl, Nat.le_of_ble_eq_true rfl⟩
theorem lk_X11_halved : ob_LK mi_X11_halved 91 "BoxOnARopeModel" 1 := ob_LKI rfl tw_1021 tw_1022 tw_1023 tw_59 tw_1024 ⟨rfl, rfl⟩ ⟨rfl, by decide +kernel, by decide +kernel, by decide +kernel⟩ ⟨Nat.le_of_ble_eq_true rfl, Nat.le_of_ble_eq_true rfl⟩
theorem lk_X10_heard : ob_LK mi_X10_heard 92 "BoxOnARope" 1 := ob_LKI rfl tw_697 tw_698 tw_699 tw_48 tw_700 ⟨rfl, rfl⟩ ⟨rfl, by decide +kernel, by decide +kernel, by decide +kernel⟩ ⟨Nat.le_of_ble_eq_true rfl, Nat.le_of_ble_eq_true rfl⟩
theorem lk_X11_heard : ob_LK mi_X11_heard 95 "BoxOnARopeModel" 1 := ob_LKI rfl tw_1029 tw_1030 tw_1031 tw_59 tw_1032 ⟨rfl, rfl⟩ ⟨rfl, by decide +kernel, by decide +kernel, by decide +kernel⟩ ⟨Nat.le_of_ble_eq_true rfl, Nat.le_of_ble_eq_true rfl⟩
theorem lk_X10_waits : ob_LK mi_X10_waits 96 "BoxOnARope" 1 := ob_LKI rfl tw_702 tw_703 tw_704 tw_48 tw_705 ⟨rfl, rfl⟩ ⟨rfl, by decide +kernel, by decide +kernel, by decide +kernel⟩ ⟨Nat.le_of_ble_eq_true rfl, Nat.le_of_ble_eq_true rfl⟩
theorem lk_X11_waits : ob_LK mi_X11_waits 99 "BoxOnARopeModel" 1 := ob_LKI rfl tw_1033 tw_1034 tw_1035 tw_59 tw_1036 ⟨rfl, rfl⟩ ⟨rfl, by decide +kernel, by decide +kernel, by decide +kernel⟩ ⟨Nat.le_of_ble_eq_true rfl, Nat.le_of_ble_eq_true rfl⟩
theorem lk_X10_send : ob_LK mi_X10_send 100 "BoxOnARope" 1 := ob_LKI rfl tw_706 tw_707 tw_708 tw_48 tw_709 ⟨rfl, rfl⟩ ⟨rfl, by decide +kernel, by decide +kernel, by decide +kernel⟩ ⟨Nat.le_of_ble_eq_true rfl, Nat.le_of_ble_eq_true rfl⟩
theorem lk_X11_send : ob_LK mi_X11_send 103 "BoxOnARopeModel" 1 := ob_LKI rfl tw_1037 tw_1038 tw_1039 tw_59 tw_1040 ⟨rfl, rfl⟩ ⟨rfl, by decide +kernel, by decide +kernel, by decide +kernel⟩ ⟨Nat.le_of_ble_eq_true rfl, Nat.le_of_ble_eq_true rfl⟩
theorem lk_X10_row : ob_LK mi_X10_row 104 "BoxOnARope" 1 := ob_LKI rfl tw_712 tw_713 tw_714 tw_48 tw_715 ⟨rfl, rfl⟩ ⟨rfl, by decide +kernel, by decide +kernel, by decide +kernel⟩ ⟨Nat.le_of_ble_eq_true rfl, Nat.le_of_ble_eq_true rfl⟩
theorem lk_X11_row : ob_LK mi_X11_row 107 "BoxOnARopeModel" 1 := ob_LKI rfl tw_1045 tw_1046 tw_1047 tw_59 tw_1048 ⟨rfl, rfl⟩ ⟨rfl, by decide +kernel, by decide +kernel, by decide +kernel⟩ ⟨Nat.le_of_ble_eq_true rfl, Nat.le_of_ble_eq_true rfl⟩
theorem lk_X10_fits : ob_LK mi_X10_fits 108 "BoxOnARope" 1 := ob_LKI rfl tw_716 tw_717 tw_718 tw_48 tw_719 ⟨rfl, rfl⟩ ⟨rfl, by decide +kernel, by decide +kernel, by decide +kernel⟩ ⟨Nat.le_of_ble_eq_true rfl, Nat.le_of_ble_eq_true rfl⟩
theorem lk_X11_fits : ob_LK mi_X11_fits 111 "BoxOnARopeModel" 1 := ob_LKI rfl tw_1049 tw_1050 tw_1051 tw_59 tw_1052 ⟨rfl, rfl⟩ ⟨rfl, by decide +kernel, by decide +kernel, by decide +kernel⟩ ⟨Nat.le_of_ble_eq_true rfl, Nat.le_of_ble_eq_true rfl⟩
theorem lk_X10_judge : ob_LK mi_X10_judge 112 "BoxOnARope" 0 := ob_LKI rfl tw_728 tw_729 tw_730 tw_48 tw_731 ⟨rfl, rfl⟩ ⟨rfl, by decide +kernel, by decide +kernel, by decide +kernel⟩ ⟨Nat.le_of_ble_eq_true rfl, Nat.le_of_ble_eq_true rfl⟩
theorem lk_X11_judge : ob_LK mi_X11_judge 115 "BoxOnARopeModel" 0 := ob_LKI rfl tw_1057 tw_1058 tw_1059 tw_59 tw_1060 ⟨rfl, rfl⟩ ⟨rfl, by decide +kernel, by decide +kernel, by decide +kernel⟩ ⟨Nat.le_of_ble_eq_true rfl, Nat.le_of_ble_eq_true rfl⟩
theorem lk_X10_lots : ob_LK mi_X10_lots 116 "BoxOnARope" 2 := ob_LKI rfl tw_732 tw_733 tw_734 tw_48 tw_735 ⟨rfl, rfl⟩ ⟨rfl, by decide +kernel, by decide +kernel, by decide +kernel⟩ ⟨Nat.le_of_ble_eq_true rfl, Nat.le_of_ble_eq_true rfl⟩
theorem lk_X11_lots : ob_LK mi_X11_lots 119 "BoxOnARopeModel" 2 := ob_LKI rfl tw_1061 tw_1062 tw_1063 tw_59 tw_1064 ⟨rfl, rfl⟩ ⟨rfl, by decide +kernel, by decide +kernel, by decide +kernel⟩ ⟨Nat.le_of_ble_eq_true rfl, Nat.le_of_ble_eq_true rfl⟩
theorem lk_X10_image : ob_LK mi_X10_image 120 "BoxOnARope" 0 := ob_LKI rfl tw_739 tw_740 tw_741 tw_48 tw_742 ⟨rfl, rfl⟩ ⟨rfl, by decide +kernel, by decide +kernel, by decide +kernel⟩ ⟨Nat.le_of_ble_eq_true rfl, Nat.le_of_ble_eq_true rfl⟩
theorem lk_X11_image : ob_LK mi_X11_image 123 "BoxOnARopeModel" 0 := ob_LKI rfl tw_1068 tw_1069 tw_1070 tw_59 tw_1071 ⟨rfl, rfl⟩ ⟨rfl, by decide +kernel, by decide +kernel, by decide +kernel⟩ ⟨Nat.le_of_ble_eq_true rfl, Nat.le_of_ble_eq_true rfl⟩
theorem lk_X10_on : ob_LK mi_X10_on 124 "BoxOnARope" 0 := ob_LKI rfl tw_743 tw_744 tw_745 tw_48 tw_746 ⟨rfl, rfl⟩ ⟨rfl, by decide +kernel, by decide +kernel, by decide +kernel⟩ ⟨Nat.le_of_ble_eq_true rfl, Nat.le_of_ble_eq_true rfl⟩
theorem lk_X11_on : ob_LK mi_X11_on 127 "BoxOnARopeModel" 0 := ob_LKI rfl tw_1072 tw_1073 tw_1074 tw_59 tw_1075 ⟨rfl, rfl⟩ ⟨rfl, by decide +kernel, by decide +kernel, by decide +kernel⟩ ⟨Nat.le_of_ble_eq_true rfl, Nat.le_of_ble_eq_true rfl⟩
theorem lk_X10_count : ob_LK mi_X10_count 128 "BoxOnARope" 1 := ob_LKI rfl tw_747 tw_748 tw_749 tw_48 tw_750 ⟨rfl, rfl⟩ ⟨rfl, by decide +kernel, by decide +kernel, by decide +kernel⟩ ⟨Nat.le_of_ble_eq_true rfl, Nat.le_of_ble_eq_true rfl⟩
theorem lk_X11_count : ob_LK mi_X11_count 131 "BoxOnARopeModel" 1 := ob_LKI rfl tw_1076 tw_1077 tw_1078 tw_59 tw_1079 ⟨rfl, rfl⟩ ⟨rfl, by decide +kernel, by decide +kernel, by decide +kernel⟩ ⟨Nat.le_of_ble_eq_true rfl, Nat.le_of_ble_eq_true rfl⟩
set_option maxRecDepth 100000 in
set_option maxHeartbeats 4000000 in
theorem law_0 {p : Program} {e : Env} {s : State} {m : MethodId} {below : List Frame} {meth : Method} {c : Code} {b L : Nat} {xs : Nat → Int32} {g : ob_GT} {ax am : Nat → Nat} {σx σm : ob_St} {RR : ob_St → ob_St → Prop} {i : Nat} (C : ob_LC p s m meth c b L xs g) (hi1 : vp_in (nI i + 1) L) (hi2 : vp_in (nI i + 2) L) (hs : ob_ok2 RR (f_X10_letter σx (xs (nI i + 1).toNatClampNeg)) (f_X11_letter σm (xs (nI i + 1).toNatClampNeg))) (kk : ∀ σx1 σm1 : ob_St, RR σx1 σm1 → ob_LV p e s m below meth c b g ax am σx1 σm1 851 [(0, .ref b), (1, .ref (ax 0)), (2, .ref (am 0)), (3, .int (nI i))] []) : ob_LV p e s m below meth c b g ax am σx σm 164 [(0, .ref b), (1, .ref (ax 0)), (2, .ref (am 0)), (3, .int (nI i))] [] := by
  obtain ⟨r, σx1, σm1, h1, h2, h3⟩ := hs
  refine ll_aload C dL_law_164 1 rfl rfl 165 rfl ?_
  refine ll_aload C dL_law_165 0 rfl rfl 166 rfl ?_
  refine ll_iload C dL_law_166 3 rfl rfl 167 rfl ?_
  refine ll_iconst C dL_law_167 1 rfl 168 rfl ?_
  refine ll_iadd C dL_law_168 169 rfl ?_
  refine ll_iald C dL_law_169 hi1 170 rfl ?_
  refine ll_callX [.int (xs (nI i + 1).toNatClampNeg)] [] C dL_law_170 (c_X10_letter h1) lk_X10_letter rfl (Nat.le_of_ble_eq_true rfl) 173 rfl rfl ?_
  refine ll_aload C dL_law_173 2 rfl rfl 174 rfl ?_
  refine ll_aload C dL_law_174 0 rfl rfl 175 rfl ?_
  refine ll_iload C dL_law_175 3 rfl rfl 176 rfl ?_
  refine ll_iconst C dL_law_176 1 rfl 177 rfl ?_
  refine ll_iadd C dL_law_177 178 rfl ?_
  refine ll_iald C dL_law_178 hi1 179 rfl ?_
  refine ll_callM [.int (xs (nI i + 1).toNatClampNeg)] [.int r] C dL_law_179 (c_X11_letter h2) lk_X11_letter rfl (Nat.le_of_ble_eq_true rfl) 182 rfl rfl ?_
  exact ll_eqT C dL_law_182 851 rfl (kk σx1 σm1 h3)
set_option maxRecDepth 100000 in
set_option maxHeartbeats 4000000 in
theorem law_1 {p : Program} {e : Env} {s : State} {m : MethodId} {below : List Frame} {meth : Method} {c : Code} {b L : Nat} {xs : Nat → Int32} {g : ob_GT} {ax am : Nat → Nat} {σx σm : ob_St} {RR : ob_St → ob_St → Prop} {i : Nat} (C : ob_LC p s m meth c b L xs g) (hi1 : vp_in (nI i + 1) L) (hi2 : vp_in (nI i + 2) L) (hs : ob_ok2 RR (f_X10_kitchen σx ) (f_X11_kitchen σm )) (kk : ∀ σx1 σm1 : ob_St, RR σx1 σm1 → ob_LV p e s m below meth c b g ax am σx1 σm1 851 [(0, .ref b), (1, .ref (ax 0)), (2, .ref (am 0)), (3, .int (nI i))] []) : ob_LV p e s m below meth c b g ax am σx σm 187 [(0, .ref b), (1, .ref (ax 0)), (2, .ref (am 0)), (3, .int (nI i))] [] := by
  obtain ⟨r, σx1, σm1, h1, h2, h3⟩ := hs
  refine ll_aload C dL_law_187 1 rfl rfl 188 rfl ?_
  refine ll_callX [] [] C dL_law_188 (c_X10_kitchen h1) lk_X10_kitchen rfl (Nat.le_of_ble_eq_true rfl) 191 rfl rfl ?_
  refine ll_aload C dL_law_191 2 rfl rfl 192 rfl ?_
  refine ll_callM [] [.int r] C dL_law_192 (c_X11_kitchen h2) lk_X11_kitchen rfl (Nat.le_of_ble_eq_true rfl) 195 rfl rfl ?_
  exact ll_eqT C dL_law_195 851 rfl (kk σx1 σm1 h3)
set_option maxRecDepth 100000 in
set_option maxHeartbeats 4000000 in
theorem law_2 {p : Program} {e : Env} {s : State} {m : MethodId} {below : List Frame} {meth : Method} {c : Code} {b L : Nat} {xs : Nat → Int32} {g : ob_GT} {ax am : Nat → Nat} {σx σm : ob_St} {RR : ob_St → ob_St → Prop} {i : Nat} (C : ob_LC p s m meth c b L xs g) (hi1 : vp_in (nI i + 1) L) (hi2 : vp_in (nI i + 2) L) (hs : ob_ok2 RR (f_X10_dish σx (xs (nI i + 1).toNatClampNeg) (xs (nI i + 2).toNatClampNeg)) (f_X11_dish σm (xs (nI i + 1).toNatClampNeg) (xs (nI i + 2).toNatClampNeg))) (kk : ∀ σx1 σm1 : ob_St, RR σx1 σm1 → ob_LV p e s m below meth c b g ax am σx1 σm1 851 [(0, .ref b), (1, .ref (ax 0)), (2, .ref (am 0)), (3, .int (nI i))] []) : ob_LV p e s m below meth c b g ax am σx σm 200 [(0, .ref b), (1, .ref (ax 0)), (2, .ref (am 0)), (3, .int (nI i))] [] := by
  obtain ⟨r, σx1, σm1, h1, h2, h3⟩ := hs
  refine ll_aload C dL_law_200 1 rfl rfl 201 rfl ?_
  refine ll_aload C dL_law_201 0 rfl rfl 202 rfl ?_
  refine ll_iload C dL_law_202 3 rfl rfl 203 rfl ?_
  refine ll_iconst C dL_law_203 1 rfl 204 rfl ?_
  refine ll_iadd C dL_law_204 205 rfl ?_
  refine ll_iald C dL_law_205 hi1 206 rfl ?_
  refine ll_aload C dL_law_206 0 rfl rfl 207 rfl ?_
  refine ll_iload C dL_law_207 3 rfl rfl 208 rfl ?_
  refine ll_iconst C dL_law_208 2 rfl 209 rfl ?_
  refine ll_iadd C dL_law_209 210 rfl ?_
  refine ll_iald C dL_law_210 hi2 211 rfl ?_
  refine ll_callX [.int (xs (nI i + 1).toNatClampNeg), .int (xs (nI i + 2).toNatClampNeg)] [] C dL_law_211 (c_X10_dish h1) lk_X10_dish rfl (Nat.le_of_ble_eq_true rfl) 214 rfl rfl ?_
  refine ll_aload C dL_law_214 2 rfl rfl 215 rfl ?_
  refine ll_aload C dL_law_215 0 rfl rfl 216 rfl ?_
  refine ll_iload C dL_law_216 3 rfl rfl 217 rfl ?_
  refine ll_iconst C dL_law_217 1 rfl 218 rfl ?_
  refine ll_iadd C dL_law_218 219 rfl ?_
  refine ll_iald C dL_law_219 hi1 220 rfl ?_
  refine ll_aload C dL_law_220 0 rfl rfl 221 rfl ?_
  refine ll_iload C dL_law_221 3 rfl rfl 222 rfl ?_
  refine ll_iconst C dL_law_222 2 rfl 223 rfl ?_
  refine ll_iadd C dL_law_223 224 rfl ?_
  refine ll_iald C dL_law_224 hi2 225 rfl ?_
  refine ll_callM [.int (xs (nI i + 1).toNatClampNeg), .int (xs (nI i + 2).toNatClampNeg)] [.int r] C dL_law_225 (c_X11_dish h2) lk_X11_dish rfl (Nat.le_of_ble_eq_true rfl) 228 rfl rfl ?_
  exact ll_eqT C dL_law_228 851 rfl (kk σx1 σm1 h3)
set_option maxRecDepth 100000 in
set_option maxHeartbeats 4000000 in
theorem law_3 {p : Program} {e : Env} {s : State} {m : MethodId} {below : List Frame} {meth : Method} {c : Code} {b L : Nat} {xs : Nat → Int32} {g : ob_GT} {ax am : Nat → Nat} {σx σm : ob_St} {RR : ob_St → ob_St → Prop} {i : Nat} (C : ob_LC p s m meth c b L xs g) (hi1 : vp_in (nI i + 1) L) (hi2 : vp_in (nI i + 2) L) (hs : ob_ok2 RR (f_X10_place σx (xs (nI i + 1).toNatClampNeg)) (f_X11_place σm (xs (nI i + 1).toNatClampNeg))) (kk : ∀ σx1 σm1 : ob_St, RR σx1 σm1 → ob_LV p e s m below meth c b g ax am σx1 σm1 851 [(0, .ref b), (1, .ref (ax 0)), (2, .ref (am 0)), (3, .int (nI i))] []) : ob_LV p e s m below meth c b g ax am σx σm 233 [(0, .ref b), (1, .ref (ax 0)), (2, .ref (am 0)), (3, .int (nI i))] [] := by
  obtain ⟨r, σx1, σm1, h1, h2, h3⟩ := hs
  refine ll_aload C dL_law_233 1 rfl rfl 234 rfl ?_
  refine ll_aload C dL_law_234 0 rfl rfl 235 rfl ?_
  refine ll_iload C dL_law_235 3 rfl rfl 236 rfl ?_
  refine ll_iconst C dL_law_236 1 rfl 237 rfl ?_
  refine ll_iadd C dL_law_237 238 rfl ?_
  refine ll_iald C dL_law_238 hi1 239 rfl ?_
  refine ll_callX [.int (xs (nI i + 1).toNatClampNeg)] [] C dL_law_239 (c_X10_place h1) lk_X10_place rfl (Nat.le_of_ble_eq_true rfl) 242 rfl rfl ?_
  refine ll_aload C dL_law_242 2 rfl rfl 243 rfl ?_
  refine ll_aload C dL_law_243 0 rfl rfl 244 rfl ?_
  refine ll_iload C dL_law_244 3 rfl rfl 245 rfl ?_
  refine ll_iconst C dL_law_245 1 rfl 246 rfl ?_
  refine ll_iadd C dL_law_246 247 rfl ?_
  refine ll_iald C dL_law_247 hi1 248 rfl ?_
  refine ll_callM [.int (xs (nI i + 1).toNatClampNeg)] [.int r] C dL_law_248 (c_X11_place h2) lk_X11_place rfl (Nat.le_of_ble_eq_true rfl) 251 rfl rfl ?_
  exact ll_eqT C dL_law_251 851 rfl (kk σx1 σm1 h3)
set_option maxRecDepth 100000 in
set_option maxHeartbeats 4000000 in
theorem law_4 {p : Program} {e : Env} {s : State} {m : MethodId} {below : List Frame} {meth : Method} {c : Code} {b L : Nat} {xs : Nat → Int32} {g : ob_GT} {ax am : Nat → Nat} {σx σm : ob_St} {RR : ob_St → ob_St → Prop} {i : Nat} (C : ob_LC p s m meth c b L xs g) (hi1 : vp_in (nI i + 1) L) (hi2 : vp_in (nI i + 2) L) (hs : ob_ok2 RR (f_X10_change σx (xs (nI i + 1).toNatClampNeg) (xs (nI i + 2).toNatClampNeg)) (f_X11_change σm (xs (nI i + 1).toNatClampNeg) (xs (nI i + 2).toNatClampNeg))) (kk : ∀ σx1 σm1 : ob_St, RR σx1 σm1 → ob_LV p e s m below meth c b g ax am σx1 σm1 851 [(0, .ref b), (1, .ref (ax 0)), (2, .ref (am 0)), (3, .int (nI i))] []) : ob_LV p e s m below meth c b g ax am σx σm 256 [(0, .ref b), (1, .ref (ax 0)), (2, .ref (am 0)), (3, .int (nI i))] [] := by
  obtain ⟨r, σx1, σm1, h1, h2, h3⟩ := hs
  refine ll_aload C dL_law_256 1 rfl rfl 257 rfl ?_
  refine ll_aload C dL_law_257 0 rfl rfl 258 rfl ?_
  refine ll_iload C dL_law_258 3 rfl rfl 259 rfl ?_
  refine ll_iconst C dL_law_259 1 rfl 260 rfl ?_
  refine ll_iadd C dL_law_260 261 rfl ?_
  refine ll_iald C dL_law_261 hi1 262 rfl ?_
  refine ll_aload C dL_law_262 0 rfl rfl 263 rfl ?_
  refine ll_iload C dL_law_263 3 rfl rfl 264 rfl ?_
  refine ll_iconst C dL_law_264 2 rfl 265 rfl ?_
  refine ll_iadd C dL_law_265 266 rfl ?_
  refine ll_iald C dL_law_266 hi2 267 rfl ?_
  refine ll_callX [.int (xs (nI i + 1).toNatClampNeg), .int (xs (nI i + 2).toNatClampNeg)] [] C dL_law_267 (c_X10_change h1) lk_X10_change rfl (Nat.le_of_ble_eq_true rfl) 270 rfl rfl ?_
  refine ll_aload C dL_law_270 2 rfl rfl 271 rfl ?_
  refine ll_aload C dL_law_271 0 rfl rfl 272 rfl ?_
  refine ll_iload C dL_law_272 3 rfl rfl 273 rfl ?_
  refine ll_iconst C dL_law_273 1 rfl 274 rfl ?_
  refine ll_iadd C dL_law_274 275 rfl ?_
  refine ll_iald C dL_law_275 hi1 276 rfl ?_
  refine ll_aload C dL_law_276 0 rfl rfl 277 rfl ?_
  refine ll_iload C dL_law_277 3 rfl rfl 278 rfl ?_
  refine ll_iconst C dL_law_278 2 rfl 279 rfl ?_
  refine ll_iadd C dL_law_279 280 rfl ?_
  refine ll_iald C dL_law_280 hi2 281 rfl ?_
  refine ll_callM [.int (xs (nI i + 1).toNatClampNeg), .int (xs (nI i + 2).toNatClampNeg)] [.int r] C dL_law_281 (c_X11_change h2) lk_X11_change rfl (Nat.le_of_ble_eq_true rfl) 284 rfl rfl ?_
  exact ll_eqT C dL_law_284 851 rfl (kk σx1 σm1 h3)
set_option maxRecDepth 100000 in
set_option maxHeartbeats 4000000 in
theorem law_5 {p : Program} {e : Env} {s : State} {m : MethodId} {below : List Frame} {meth : Method} {c : Code} {b L : Nat} {xs : Nat → Int32} {g : ob_GT} {ax am : Nat → Nat} {σx σm : ob_St} {RR : ob_St → ob_St → Prop} {i : Nat} (C : ob_LC p s m meth c b L xs g) (hi1 : vp_in (nI i + 1) L) (hi2 : vp_in (nI i + 2) L) (hs : ob_ok2 RR (f_X10_heat σx (xs (nI i + 1).toNatClampNeg) (xs (nI i + 2).toNatClampNeg)) (f_X11_heat σm (xs (nI i + 1).toNatClampNeg) (xs (nI i + 2).toNatClampNeg))) (kk : ∀ σx1 σm1 : ob_St, RR σx1 σm1 → ob_LV p e s m below meth c b g ax am σx1 σm1 851 [(0, .ref b), (1, .ref (ax 0)), (2, .ref (am 0)), (3, .int (nI i))] []) : ob_LV p e s m below meth c b g ax am σx σm 289 [(0, .ref b), (1, .ref (ax 0)), (2, .ref (am 0)), (3, .int (nI i))] [] := by
  obtain ⟨r, σx1, σm1, h1, h2, h3⟩ := hs
  refine ll_aload C dL_law_289 1 rfl rfl 290 rfl ?_
  refine ll_aload C dL_law_290 0 rfl rfl 291 rfl ?_
  refine ll_iload C dL_law_291 3 rfl rfl 292 rfl ?_
  refine ll_iconst C dL_law_292 1 rfl 293 rfl ?_
  refine ll_iadd C dL_law_293 294 rfl ?_
  refine ll_iald C dL_law_294 hi1 295 rfl ?_
  refine ll_aload C dL_law_295 0 rfl rfl 296 rfl ?_
  refine ll_iload C dL_law_296 3 rfl rfl 297 rfl ?_
  refine ll_iconst C dL_law_297 2 rfl 298 rfl ?_
  refine ll_iadd C dL_law_298 299 rfl ?_
  refine ll_iald C dL_law_299 hi2 300 rfl ?_
  refine ll_callX [.int (xs (nI i + 1).toNatClampNeg), .int (xs (nI i + 2).toNatClampNeg)] [] C dL_law_300 (c_X10_heat h1) lk_X10_heat rfl (Nat.le_of_ble_eq_true rfl) 303 rfl rfl ?_
  refine ll_aload C dL_law_303 2 rfl rfl 304 rfl ?_
  refine ll_aload C dL_law_304 0 rfl rfl 305 rfl ?_
  refine ll_iload C dL_law_305 3 rfl rfl 306 rfl ?_
  refine ll_iconst C dL_law_306 1 rfl 307 rfl ?_
  refine ll_iadd C dL_law_307 308 rfl ?_
  refine ll_iald C dL_law_308 hi1 309 rfl ?_
  refine ll_aload C dL_law_309 0 rfl rfl 310 rfl ?_
  refine ll_iload C dL_law_310 3 rfl rfl 311 rfl ?_
  refine ll_iconst C dL_law_311 2 rfl 312 rfl ?_
  refine ll_iadd C dL_law_312 313 rfl ?_
  refine ll_iald C dL_law_313 hi2 314 rfl ?_
  refine ll_callM [.int (xs (nI i + 1).toNatClampNeg), .int (xs (nI i + 2).toNatClampNeg)] [.int r] C dL_law_314 (c_X11_heat h2) lk_X11_heat rfl (Nat.le_of_ble_eq_true rfl) 317 rfl rfl ?_
  exact ll_eqT C dL_law_317 851 rfl (kk σx1 σm1 h3)
set_option maxRecDepth 100000 in
set_option maxHeartbeats 4000000 in
theorem law_6 {p : Program} {e : Env} {s : State} {m : MethodId} {below : List Frame} {meth : Method} {c : Code} {b L : Nat} {xs : Nat → Int32} {g : ob_GT} {ax am : Nat → Nat} {σx σm : ob_St} {RR : ob_St → ob_St → Prop} {i : Nat} (C : ob_LC p s m meth c b L xs g) (hi1 : vp_in (nI i + 1) L) (hi2 : vp_in (nI i + 2) L) (hs : ob_ok2 RR (f_X10_begins σx (xs (nI i + 1).toNatClampNeg) (xs (nI i + 2).toNatClampNeg)) (f_X11_begins σm (xs (nI i + 1).toNatClampNeg) (xs (nI i + 2).toNatClampNeg))) (kk : ∀ σx1 σm1 : ob_St, RR σx1 σm1 → ob_LV p e s m below meth c b g ax am σx1 σm1 851 [(0, .ref b), (1, .ref (ax 0)), (2, .ref (am 0)), (3, .int (nI i))] []) : ob_LV p e s m below meth c b g ax am σx σm 322 [(0, .ref b), (1, .ref (ax 0)), (2, .ref (am 0)), (3, .int (nI i))] [] := by
  obtain ⟨r, σx1, σm1, h1, h2, h3⟩ := hs
  refine ll_aload C dL_law_322 1 rfl rfl 323 rfl ?_
  refine ll_aload C dL_law_323 0 rfl rfl 324 rfl ?_
  refine ll_iload C dL_law_324 3 rfl rfl 325 rfl ?_
  refine ll_iconst C dL_law_325 1 rfl 326 rfl ?_
  refine ll_iadd C dL_law_326 327 rfl ?_
  refine ll_iald C dL_law_327 hi1 328 rfl ?_
  refine ll_aload C dL_law_328 0 rfl rfl 329 rfl ?_
  refine ll_iload C dL_law_329 3 rfl rfl 330 rfl ?_
  refine ll_iconst C dL_law_330 2 rfl 331 rfl ?_
  refine ll_iadd C dL_law_331 332 rfl ?_
  refine ll_iald C dL_law_332 hi2 333 rfl ?_
  refine ll_callX [.int (xs (nI i + 1).toNatClampNeg), .int (xs (nI i + 2).toNatClampNeg)] [] C dL_law_333 (c_X10_begins h1) lk_X10_begins rfl (Nat.le_of_ble_eq_true rfl) 336 rfl rfl ?_
  refine ll_aload C dL_law_336 2 rfl rfl 337 rfl ?_
  refine ll_aload C dL_law_337 0 rfl rfl 338 rfl ?_
  refine ll_iload C dL_law_338 3 rfl rfl 339 rfl ?_
  refine ll_iconst C dL_law_339 1 rfl 340 rfl ?_
  refine ll_iadd C dL_law_340 341 rfl ?_
  refine ll_iald C dL_law_341 hi1 342 rfl ?_
  refine ll_aload C dL_law_342 0 rfl rfl 343 rfl ?_
  refine ll_iload C dL_law_343 3 rfl rfl 344 rfl ?_
  refine ll_iconst C dL_law_344 2 rfl 345 rfl ?_
  refine ll_iadd C dL_law_345 346 rfl ?_
  refine ll_iald C dL_law_346 hi2 347 rfl ?_
  refine ll_callM [.int (xs (nI i + 1).toNatClampNeg), .int (xs (nI i + 2).toNatClampNeg)] [.int r] C dL_law_347 (c_X11_begins h2) lk_X11_begins rfl (Nat.le_of_ble_eq_true rfl) 350 rfl rfl ?_
  exact ll_eqT C dL_law_350 851 rfl (kk σx1 σm1 h3)
set_option maxRecDepth 100000 in
set_option maxHeartbeats 4000000 in
theorem law_7 {p : Program} {e : Env} {s : State} {m : MethodId} {below : List Frame} {meth : Method} {c : Code} {b L : Nat} {xs : Nat → Int32} {g : ob_GT} {ax am : Nat → Nat} {σx σm : ob_St} {RR : ob_St → ob_St → Prop} {i : Nat} (C : ob_LC p s m meth c b L xs g) (hi1 : vp_in (nI i + 1) L) (hi2 : vp_in (nI i + 2) L) (hs : ob_ok2 RR (f_X10_set σx (xs (nI i + 1).toNatClampNeg) (xs (nI i + 2).toNatClampNeg)) (f_X11_set σm (xs (nI i + 1).toNatClampNeg) (xs (nI i + 2).toNatClampNeg))) (kk : ∀ σx1 σm1 : ob_St, RR σx1 σm1 → ob_LV p e s m below meth c b g ax am σx1 σm1 851 [(0, .ref b), (1, .ref (ax 0)), (2, .ref (am 0)), (3, .int (nI i))] []) : ob_LV p e s m below meth c b g ax am σx σm 355 [(0, .ref b), (1, .ref (ax 0)), (2, .ref (am 0)), (3, .int (nI i))] [] := by
  obtain ⟨r, σx1, σm1, h1, h2, h3⟩ := hs
  refine ll_aload C dL_law_355 1 rfl rfl 356 rfl ?_
  refine ll_aload C dL_law_356 0 rfl rfl 357 rfl ?_
  refine ll_iload C dL_law_357 3 rfl rfl 358 rfl ?_
  refine ll_iconst C dL_law_358 1 rfl 359 rfl ?_
  refine ll_iadd C dL_law_359 360 rfl ?_
  refine ll_iald C dL_law_360 hi1 361 rfl ?_
  refine ll_aload C dL_law_361 0 rfl rfl 362 rfl ?_
  refine ll_iload C dL_law_362 3 rfl rfl 363 rfl ?_
  refine ll_iconst C dL_law_363 2 rfl 364 rfl ?_
  refine ll_iadd C dL_law_364 365 rfl ?_
  refine ll_iald C dL_law_365 hi2 366 rfl ?_
  refine ll_callX [.int (xs (nI i + 1).toNatClampNeg), .int (xs (nI i + 2).toNatClampNeg)] [] C dL_law_366 (c_X10_set h1) lk_X10_set rfl (Nat.le_of_ble_eq_true rfl) 369 rfl rfl ?_
  refine ll_aload C dL_law_369 2 rfl rfl 370 rfl ?_
  refine ll_aload C dL_law_370 0 rfl rfl 371 rfl ?_
  refine ll_iload C dL_law_371 3 rfl rfl 372 rfl ?_
  refine ll_iconst C dL_law_372 1 rfl 373 rfl ?_
  refine ll_iadd C dL_law_373 374 rfl ?_
  refine ll_iald C dL_law_374 hi1 375 rfl ?_
  refine ll_aload C dL_law_375 0 rfl rfl 376 rfl ?_
  refine ll_iload C dL_law_376 3 rfl rfl 377 rfl ?_
  refine ll_iconst C dL_law_377 2 rfl 378 rfl ?_
  refine ll_iadd C dL_law_378 379 rfl ?_
  refine ll_iald C dL_law_379 hi2 380 rfl ?_
  refine ll_callM [.int (xs (nI i + 1).toNatClampNeg), .int (xs (nI i + 2).toNatClampNeg)] [.int r] C dL_law_380 (c_X11_set h2) lk_X11_set rfl (Nat.le_of_ble_eq_true rfl) 383 rfl rfl ?_
  exact ll_eqT C dL_law_383 851 rfl (kk σx1 σm1 h3)
set_option maxRecDepth 100000 in
set_option maxHeartbeats 4000000 in
theorem law_8 {p : Program} {e : Env} {s : State} {m : MethodId} {below : List Frame} {meth : Method} {c : Code} {b L : Nat} {xs : Nat → Int32} {g : ob_GT} {ax am : Nat → Nat} {σx σm : ob_St} {RR : ob_St → ob_St → Prop} {i : Nat} (C : ob_LC p s m meth c b L xs g) (hi1 : vp_in (nI i + 1) L) (hi2 : vp_in (nI i + 2) L) (hs : ob_ok2 RR (f_X10_goes σx (xs (nI i + 1).toNatClampNeg)) (f_X11_goes σm (xs (nI i + 1).toNatClampNeg))) (kk : ∀ σx1 σm1 : ob_St, RR σx1 σm1 → ob_LV p e s m below meth c b g ax am σx1 σm1 851 [(0, .ref b), (1, .ref (ax 0)), (2, .ref (am 0)), (3, .int (nI i))] []) : ob_LV p e s m below meth c b g ax am σx σm 388 [(0, .ref b), (1, .ref (ax 0)), (2, .ref (am 0)), (3, .int (nI i))] [] := by
  obtain ⟨r, σx1, σm1, h1, h2, h3⟩ := hs
  refine ll_aload C dL_law_388 1 rfl rfl 389 rfl ?_
  refine ll_aload C dL_law_389 0 rfl rfl 390 rfl ?_
  refine ll_iload C dL_law_390 3 rfl rfl 391 rfl ?_
  refine ll_iconst C dL_law_391 1 rfl 392 rfl ?_
  refine ll_iadd C dL_law_392 393 rfl ?_
  refine ll_iald C dL_law_393 hi1 394 rfl ?_
  refine ll_callX [.int (xs (nI i + 1).toNatClampNeg)] [] C dL_law_394 (c_X10_goes h1) lk_X10_goes rfl (Nat.le_of_ble_eq_true rfl) 397 rfl rfl ?_
  refine ll_aload C dL_law_397 2 rfl rfl 398 rfl ?_
  refine ll_aload C dL_law_398 0 rfl rfl 399 rfl ?_
  refine ll_iload C dL_law_399 3 rfl rfl 400 rfl ?_
  refine ll_iconst C dL_law_400 1 rfl 401 rfl ?_
  refine ll_iadd C dL_law_401 402 rfl ?_
  refine ll_iald C dL_law_402 hi1 403 rfl ?_
  refine ll_callM [.int (xs (nI i + 1).toNatClampNeg)] [.int r] C dL_law_403 (c_X11_goes h2) lk_X11_goes rfl (Nat.le_of_ble_eq_true rfl) 406 rfl rfl ?_
  exact ll_eqT C dL_law_406 851 rfl (kk σx1 σm1 h3)
set_option maxRecDepth 100000 in
set_option maxHeartbeats 4000000 in
theorem law_9 {p : Program} {e : Env} {s : State} {m : MethodId} {below : List Frame} {meth : Method} {c : Code} {b L : Nat} {xs : Nat → Int32} {g : ob_GT} {ax am : Nat → Nat} {σx σm : ob_St} {RR : ob_St → ob_St → Prop} {i : Nat} (C : ob_LC p s m meth c b L xs g) (hi1 : vp_in (nI i + 1) L) (hi2 : vp_in (nI i + 2) L) (hs : ob_ok2 RR (f_X10_total σx (xs (nI i + 1).toNatClampNeg)) (f_X11_total σm (xs (nI i + 1).toNatClampNeg))) (kk : ∀ σx1 σm1 : ob_St, RR σx1 σm1 → ob_LV p e s m below meth c b g ax am σx1 σm1 851 [(0, .ref b), (1, .ref (ax 0)), (2, .ref (am 0)), (3, .int (nI i))] []) : ob_LV p e s m below meth c b g ax am σx σm 411 [(0, .ref b), (1, .ref (ax 0)), (2, .ref (am 0)), (3, .int (nI i))] [] := by
  obtain ⟨r, σx1, σm1, h1, h2, h3⟩ := hs
  refine ll_aload C dL_law_411 1 rfl rfl 412 rfl ?_
  refine ll_aload C dL_law_412 0 rfl rfl 413 rfl ?_
  refine ll_iload C dL_law_413 3 rfl rfl 414 rfl ?_
  refine ll_iconst C dL_law_414 1 rfl 415 rfl ?_
  refine ll_iadd C dL_law_415 416 rfl ?_
  refine ll_iald C dL_law_416 hi1 417 rfl ?_
  refine ll_callX [.int (xs (nI i + 1).toNatClampNeg)] [] C dL_law_417 (c_X10_total h1) lk_X10_total rfl (Nat.le_of_ble_eq_true rfl) 420 rfl rfl ?_
  refine ll_aload C dL_law_420 2 rfl rfl 421 rfl ?_
  refine ll_aload C dL_law_421 0 rfl rfl 422 rfl ?_
  refine ll_iload C dL_law_422 3 rfl rfl 423 rfl ?_
  refine ll_iconst C dL_law_423 1 rfl 424 rfl ?_
  refine ll_iadd C dL_law_424 425 rfl ?_
  refine ll_iald C dL_law_425 hi1 426 rfl ?_
  refine ll_callM [.int (xs (nI i + 1).toNatClampNeg)] [.int r] C dL_law_426 (c_X11_total h2) lk_X11_total rfl (Nat.le_of_ble_eq_true rfl) 429 rfl rfl ?_
  exact ll_eqT C dL_law_429 851 rfl (kk σx1 σm1 h3)
set_option maxRecDepth 100000 in
set_option maxHeartbeats 4000000 in
theorem law_10 {p : Program} {e : Env} {s : State} {m : MethodId} {below : List Frame} {meth : Method} {c : Code} {b L : Nat} {xs : Nat → Int32} {g : ob_GT} {ax am : Nat → Nat} {σx σm : ob_St} {RR : ob_St → ob_St → Prop} {i : Nat} (C : ob_LC p s m meth c b L xs g) (hi1 : vp_in (nI i + 1) L) (hi2 : vp_in (nI i + 2) L) (hs : ob_ok2 RR (f_X10_of σx (xs (nI i + 1).toNatClampNeg) (xs (nI i + 2).toNatClampNeg)) (f_X11_of σm (xs (nI i + 1).toNatClampNeg) (xs (nI i + 2).toNatClampNeg))) (kk : ∀ σx1 σm1 : ob_St, RR σx1 σm1 → ob_LV p e s m below meth c b g ax am σx1 σm1 851 [(0, .ref b), (1, .ref (ax 0)), (2, .ref (am 0)), (3, .int (nI i))] []) : ob_LV p e s m below meth c b g ax am σx σm 434 [(0, .ref b), (1, .ref (ax 0)), (2, .ref (am 0)), (3, .int (nI i))] [] := by
  obtain ⟨r, σx1, σm1, h1, h2, h3⟩ := hs
  refine ll_aload C dL_law_434 1 rfl rfl 435 rfl ?_
  refine ll_aload C dL_law_435 0 rfl rfl 436 rfl ?_
  refine ll_iload C dL_law_436 3 rfl rfl 437 rfl ?_
  refine ll_iconst C dL_law_437 1 rfl 438 rfl ?_
  refine ll_iadd C dL_law_438 439 rfl ?_
  refine ll_iald C dL_law_439 hi1 440 rfl ?_
  refine ll_aload C dL_law_440 0 rfl rfl 441 rfl ?_
  refine ll_iload C dL_law_441 3 rfl rfl 442 rfl ?_
  refine ll_iconst C dL_law_442 2 rfl 443 rfl ?_
  refine ll_iadd C dL_law_443 444 rfl ?_
  refine ll_iald C dL_law_444 hi2 445 rfl ?_
  refine ll_callX [.int (xs (nI i + 1).toNatClampNeg), .int (xs (nI i + 2).toNatClampNeg)] [] C dL_law_445 (c_X10_of h1) lk_X10_of rfl (Nat.le_of_ble_eq_true rfl) 448 rfl rfl ?_
  refine ll_aload C dL_law_448 2 rfl rfl 449 rfl ?_
  refine ll_aload C dL_law_449 0 rfl rfl 450 rfl ?_
  refine ll_iload C dL_law_450 3 rfl rfl 451 rfl ?_
  refine ll_iconst C dL_law_451 1 rfl 452 rfl ?_
  refine ll_iadd C dL_law_452 453 rfl ?_
  refine ll_iald C dL_law_453 hi1 454 rfl ?_
  refine ll_aload C dL_law_454 0 rfl rfl 455 rfl ?_
  refine ll_iload C dL_law_455 3 rfl rfl 456 rfl ?_
  refine ll_iconst C dL_law_456 2 rfl 457 rfl ?_
  refine ll_iadd C dL_law_457 458 rfl ?_
  refine ll_iald C dL_law_458 hi2 459 rfl ?_
  refine ll_callM [.int (xs (nI i + 1).toNatClampNeg), .int (xs (nI i + 2).toNatClampNeg)] [.int r] C dL_law_459 (c_X11_of h2) lk_X11_of rfl (Nat.le_of_ble_eq_true rfl) 462 rfl rfl ?_
  exact ll_eqT C dL_law_462 851 rfl (kk σx1 σm1 h3)
set_option maxRecDepth 100000 in
set_option maxHeartbeats 4000000 in
theorem law_11 {p : Program} {e : Env} {s : State} {m : MethodId} {below : List Frame} {meth : Method} {c : Code} {b L : Nat} {xs : Nat → Int32} {g : ob_GT} {ax am : Nat → Nat} {σx σm : ob_St} {RR : ob_St → ob_St → Prop} {i : Nat} (C : ob_LC p s m meth c b L xs g) (hi1 : vp_in (nI i + 1) L) (hi2 : vp_in (nI i + 2) L) (hs : ob_ok2 RR (f_X10_best σx (xs (nI i + 1).toNatClampNeg)) (f_X11_best σm (xs (nI i + 1).toNatClampNeg))) (kk : ∀ σx1 σm1 : ob_St, RR σx1 σm1 → ob_LV p e s m below meth c b g ax am σx1 σm1 851 [(0, .ref b), (1, .ref (ax 0)), (2, .ref (am 0)), (3, .int (nI i))] []) : ob_LV p e s m below meth c b g ax am σx σm 467 [(0, .ref b), (1, .ref (ax 0)), (2, .ref (am 0)), (3, .int (nI i))] [] := by
  obtain ⟨r, σx1, σm1, h1, h2, h3⟩ := hs
  refine ll_aload C dL_law_467 1 rfl rfl 468 rfl ?_
  refine ll_aload C dL_law_468 0 rfl rfl 469 rfl ?_
  refine ll_iload C dL_law_469 3 rfl rfl 470 rfl ?_
  refine ll_iconst C dL_law_470 1 rfl 471 rfl ?_
  refine ll_iadd C dL_law_471 472 rfl ?_
  refine ll_iald C dL_law_472 hi1 473 rfl ?_
  refine ll_callX [.int (xs (nI i + 1).toNatClampNeg)] [] C dL_law_473 (c_X10_best h1) lk_X10_best rfl (Nat.le_of_ble_eq_true rfl) 476 rfl rfl ?_
  refine ll_aload C dL_law_476 2 rfl rfl 477 rfl ?_
  refine ll_aload C dL_law_477 0 rfl rfl 478 rfl ?_
  refine ll_iload C dL_law_478 3 rfl rfl 479 rfl ?_
  refine ll_iconst C dL_law_479 1 rfl 480 rfl ?_
  refine ll_iadd C dL_law_480 481 rfl ?_
  refine ll_iald C dL_law_481 hi1 482 rfl ?_
  refine ll_callM [.int (xs (nI i + 1).toNatClampNeg)] [.int r] C dL_law_482 (c_X11_best h2) lk_X11_best rfl (Nat.le_of_ble_eq_true rfl) 485 rfl rfl ?_
  exact ll_eqT C dL_law_485 851 rfl (kk σx1 σm1 h3)
set_option maxRecDepth 100000 in
set_option maxHeartbeats 4000000 in
theorem law_12 {p : Program} {e : Env} {s : State} {m : MethodId} {below : List Frame} {meth : Method} {c : Code} {b L : Nat} {xs : Nat → Int32} {g : ob_GT} {ax am : Nat → Nat} {σx σm : ob_St} {RR : ob_St → ob_St → Prop} {i : Nat} (C : ob_LC p s m meth c b L xs g) (hi1 : vp_in (nI i + 1) L) (hi2 : vp_in (nI i + 2) L) (hs : ob_ok2 RR (f_X10_bestAt σx (xs (nI i + 1).toNatClampNeg) (xs (nI i + 2).toNatClampNeg)) (f_X11_bestAt σm (xs (nI i + 1).toNatClampNeg) (xs (nI i + 2).toNatClampNeg))) (kk : ∀ σx1 σm1 : ob_St, RR σx1 σm1 → ob_LV p e s m below meth c b g ax am σx1 σm1 851 [(0, .ref b), (1, .ref (ax 0)), (2, .ref (am 0)), (3, .int (nI i))] []) : ob_LV p e s m below meth c b g ax am σx σm 490 [(0, .ref b), (1, .ref (ax 0)), (2, .ref (am 0)), (3, .int (nI i))] [] := by
  obtain ⟨r, σx1, σm1, h1, h2, h3⟩ := hs
  refine ll_aload C dL_law_490 1 rfl rfl 491 rfl ?_
  refine ll_aload C dL_law_491 0 rfl rfl 492 rfl ?_
  refine ll_iload C dL_law_492 3 rfl rfl 493 rfl ?_
  refine ll_iconst C dL_law_493 1 rfl 494 rfl ?_
  refine ll_iadd C dL_law_494 495 rfl ?_
  refine ll_iald C dL_law_495 hi1 496 rfl ?_
  refine ll_aload C dL_law_496 0 rfl rfl 497 rfl ?_
  refine ll_iload C dL_law_497 3 rfl rfl 498 rfl ?_
  refine ll_iconst C dL_law_498 2 rfl 499 rfl ?_
  refine ll_iadd C dL_law_499 500 rfl ?_
  refine ll_iald C dL_law_500 hi2 501 rfl ?_
  refine ll_callX [.int (xs (nI i + 1).toNatClampNeg), .int (xs (nI i + 2).toNatClampNeg)] [] C dL_law_501 (c_X10_bestAt h1) lk_X10_bestAt rfl (Nat.le_of_ble_eq_true rfl) 504 rfl rfl ?_
  refine ll_aload C dL_law_504 2 rfl rfl 505 rfl ?_
  refine ll_aload C dL_law_505 0 rfl rfl 506 rfl ?_
  refine ll_iload C dL_law_506 3 rfl rfl 507 rfl ?_
  refine ll_iconst C dL_law_507 1 rfl 508 rfl ?_
  refine ll_iadd C dL_law_508 509 rfl ?_
  refine ll_iald C dL_law_509 hi1 510 rfl ?_
  refine ll_aload C dL_law_510 0 rfl rfl 511 rfl ?_
  refine ll_iload C dL_law_511 3 rfl rfl 512 rfl ?_
  refine ll_iconst C dL_law_512 2 rfl 513 rfl ?_
  refine ll_iadd C dL_law_513 514 rfl ?_
  refine ll_iald C dL_law_514 hi2 515 rfl ?_
  refine ll_callM [.int (xs (nI i + 1).toNatClampNeg), .int (xs (nI i + 2).toNatClampNeg)] [.int r] C dL_law_515 (c_X11_bestAt h2) lk_X11_bestAt rfl (Nat.le_of_ble_eq_true rfl) 518 rfl rfl ?_
  exact ll_eqT C dL_law_518 851 rfl (kk σx1 σm1 h3)
set_option maxRecDepth 100000 in
set_option maxHeartbeats 4000000 in
theorem law_13 {p : Program} {e : Env} {s : State} {m : MethodId} {below : List Frame} {meth : Method} {c : Code} {b L : Nat} {xs : Nat → Int32} {g : ob_GT} {ax am : Nat → Nat} {σx σm : ob_St} {RR : ob_St → ob_St → Prop} {i : Nat} (C : ob_LC p s m meth c b L xs g) (hi1 : vp_in (nI i + 1) L) (hi2 : vp_in (nI i + 2) L) (hs : ob_ok2 RR (f_X10_bestSet σx (xs (nI i + 1).toNatClampNeg)) (f_X11_bestSet σm (xs (nI i + 1).toNatClampNeg))) (kk : ∀ σx1 σm1 : ob_St, RR σx1 σm1 → ob_LV p e s m below meth c b g ax am σx1 σm1 851 [(0, .ref b), (1, .ref (ax 0)), (2, .ref (am 0)), (3, .int (nI i))] []) : ob_LV p e s m below meth c b g ax am σx σm 523 [(0, .ref b), (1, .ref (ax 0)), (2, .ref (am 0)), (3, .int (nI i))] [] := by
  obtain ⟨r, σx1, σm1, h1, h2, h3⟩ := hs
  refine ll_aload C dL_law_523 1 rfl rfl 524 rfl ?_
  refine ll_aload C dL_law_524 0 rfl rfl 525 rfl ?_
  refine ll_iload C dL_law_525 3 rfl rfl 526 rfl ?_
  refine ll_iconst C dL_law_526 1 rfl 527 rfl ?_
  refine ll_iadd C dL_law_527 528 rfl ?_
  refine ll_iald C dL_law_528 hi1 529 rfl ?_
  refine ll_callX [.int (xs (nI i + 1).toNatClampNeg)] [] C dL_law_529 (c_X10_bestSet h1) lk_X10_bestSet rfl (Nat.le_of_ble_eq_true rfl) 532 rfl rfl ?_
  refine ll_aload C dL_law_532 2 rfl rfl 533 rfl ?_
  refine ll_aload C dL_law_533 0 rfl rfl 534 rfl ?_
  refine ll_iload C dL_law_534 3 rfl rfl 535 rfl ?_
  refine ll_iconst C dL_law_535 1 rfl 536 rfl ?_
  refine ll_iadd C dL_law_536 537 rfl ?_
  refine ll_iald C dL_law_537 hi1 538 rfl ?_
  refine ll_callM [.int (xs (nI i + 1).toNatClampNeg)] [.int r] C dL_law_538 (c_X11_bestSet h2) lk_X11_bestSet rfl (Nat.le_of_ble_eq_true rfl) 541 rfl rfl ?_
  exact ll_eqT C dL_law_541 851 rfl (kk σx1 σm1 h3)
set_option maxRecDepth 100000 in
set_option maxHeartbeats 4000000 in
theorem law_14 {p : Program} {e : Env} {s : State} {m : MethodId} {below : List Frame} {meth : Method} {c : Code} {b L : Nat} {xs : Nat → Int32} {g : ob_GT} {ax am : Nat → Nat} {σx σm : ob_St} {RR : ob_St → ob_St → Prop} {i : Nat} (C : ob_LC p s m meth c b L xs g) (hi1 : vp_in (nI i + 1) L) (hi2 : vp_in (nI i + 2) L) (hs : ob_ok2 RR (f_X10_roomMore σx ) (f_X11_roomMore σm )) (kk : ∀ σx1 σm1 : ob_St, RR σx1 σm1 → ob_LV p e s m below meth c b g ax am σx1 σm1 851 [(0, .ref b), (1, .ref (ax 0)), (2, .ref (am 0)), (3, .int (nI i))] []) : ob_LV p e s m below meth c b g ax am σx σm 546 [(0, .ref b), (1, .ref (ax 0)), (2, .ref (am 0)), (3, .int (nI i))] [] := by
  obtain ⟨r, σx1, σm1, h1, h2, h3⟩ := hs
  refine ll_aload C dL_law_546 1 rfl rfl 547 rfl ?_
  refine ll_callX [] [] C dL_law_547 (c_X10_roomMore h1) lk_X10_roomMore rfl (Nat.le_of_ble_eq_true rfl) 550 rfl rfl ?_
  refine ll_aload C dL_law_550 2 rfl rfl 551 rfl ?_
  refine ll_callM [] [.int r] C dL_law_551 (c_X11_roomMore h2) lk_X11_roomMore rfl (Nat.le_of_ble_eq_true rfl) 554 rfl rfl ?_
  exact ll_eqT C dL_law_554 851 rfl (kk σx1 σm1 h3)
set_option maxRecDepth 100000 in
set_option maxHeartbeats 4000000 in
theorem law_15 {p : Program} {e : Env} {s : State} {m : MethodId} {below : List Frame} {meth : Method} {c : Code} {b L : Nat} {xs : Nat → Int32} {g : ob_GT} {ax am : Nat → Nat} {σx σm : ob_St} {RR : ob_St → ob_St → Prop} {i : Nat} (C : ob_LC p s m meth c b L xs g) (hi1 : vp_in (nI i + 1) L) (hi2 : vp_in (nI i + 2) L) (hs : ob_ok2 RR (f_X10_twoPull σx ) (f_X11_twoPull σm )) (kk : ∀ σx1 σm1 : ob_St, RR σx1 σm1 → ob_LV p e s m below meth c b g ax am σx1 σm1 851 [(0, .ref b), (1, .ref (ax 0)), (2, .ref (am 0)), (3, .int (nI i))] []) : ob_LV p e s m below meth c b g ax am σx σm 559 [(0, .ref b), (1, .ref (ax 0)), (2, .ref (am 0)), (3, .int (nI i))] [] := by
  obtain ⟨r, σx1, σm1, h1, h2, h3⟩ := hs
  refine ll_aload C dL_law_559 1 rfl rfl 560 rfl ?_
  refine ll_callX [] [] C dL_law_560 (c_X10_twoPull h1) lk_X10_twoPull rfl (Nat.le_of_ble_eq_true rfl) 563 rfl rfl ?_
  refine ll_aload C dL_law_563 2 rfl rfl 564 rfl ?_
  refine ll_callM [] [.int r] C dL_law_564 (c_X11_twoPull h2) lk_X11_twoPull rfl (Nat.le_of_ble_eq_true rfl) 567 rfl rfl ?_
  exact ll_eqT C dL_law_567 851 rfl (kk σx1 σm1 h3)
set_option maxRecDepth 100000 in
set_option maxHeartbeats 4000000 in
theorem law_16 {p : Program} {e : Env} {s : State} {m : MethodId} {below : List Frame} {meth : Method} {c : Code} {b L : Nat} {xs : Nat → Int32} {g : ob_GT} {ax am : Nat → Nat} {σx σm : ob_St} {RR : ob_St → ob_St → Prop} {i : Nat} (C : ob_LC p s m meth c b L xs g) (hi1 : vp_in (nI i + 1) L) (hi2 : vp_in (nI i + 2) L) (hs : ob_ok2 RR (f_X10_stairs σx (xs (nI i + 1).toNatClampNeg)) (f_X11_stairs σm (xs (nI i + 1).toNatClampNeg))) (kk : ∀ σx1 σm1 : ob_St, RR σx1 σm1 → ob_LV p e s m below meth c b g ax am σx1 σm1 851 [(0, .ref b), (1, .ref (ax 0)), (2, .ref (am 0)), (3, .int (nI i))] []) : ob_LV p e s m below meth c b g ax am σx σm 572 [(0, .ref b), (1, .ref (ax 0)), (2, .ref (am 0)), (3, .int (nI i))] [] := by
  obtain ⟨r, σx1, σm1, h1, h2, h3⟩ := hs
  refine ll_aload C dL_law_572 1 rfl rfl 573 rfl ?_
  refine ll_aload C dL_law_573 0 rfl rfl 574 rfl ?_
  refine ll_iload C dL_law_574 3 rfl rfl 575 rfl ?_
  refine ll_iconst C dL_law_575 1 rfl 576 rfl ?_
  refine ll_iadd C dL_law_576 577 rfl ?_
  refine ll_iald C dL_law_577 hi1 578 rfl ?_
  refine ll_callX [.int (xs (nI i + 1).toNatClampNeg)] [] C dL_law_578 (c_X10_stairs h1) lk_X10_stairs rfl (Nat.le_of_ble_eq_true rfl) 581 rfl rfl ?_
  refine ll_aload C dL_law_581 2 rfl rfl 582 rfl ?_
  refine ll_aload C dL_law_582 0 rfl rfl 583 rfl ?_
  refine ll_iload C dL_law_583 3 rfl rfl 584 rfl ?_
  refine ll_iconst C dL_law_584 1 rfl 585 rfl ?_
  refine ll_iadd C dL_law_585 586 rfl ?_
  refine ll_iald C dL_law_586 hi1 587 rfl ?_
  refine ll_callM [.int (xs (nI i + 1).toNatClampNeg)] [.int r] C dL_law_587 (c_X11_stairs h2) lk_X11_stairs rfl (Nat.le_of_ble_eq_true rfl) 590 rfl rfl ?_
  exact ll_eqT C dL_law_590 851 rfl (kk σx1 σm1 h3)
set_option maxRecDepth 100000 in
set_option maxHeartbeats 4000000 in
theorem law_17 {p : Program} {e : Env} {s : State} {m : MethodId} {below : List Frame} {meth : Method} {c : Code} {b L : Nat} {xs : Nat → Int32} {g : ob_GT} {ax am : Nat → Nat} {σx σm : ob_St} {RR : ob_St → ob_St → Prop} {i : Nat} (C : ob_LC p s m meth c b L xs g) (hi1 : vp_in (nI i + 1) L) (hi2 : vp_in (nI i + 2) L) (hs : ob_ok2 RR (f_X10_forgotten σx (xs (nI i + 1).toNatClampNeg)) (f_X11_forgotten σm (xs (nI i + 1).toNatClampNeg))) (kk : ∀ σx1 σm1 : ob_St, RR σx1 σm1 → ob_LV p e s m below meth c b g ax am σx1 σm1 851 [(0, .ref b), (1, .ref (ax 0)), (2, .ref (am 0)), (3, .int (nI i))] []) : ob_LV p e s m below meth c b g ax am σx σm 595 [(0, .ref b), (1, .ref (ax 0)), (2, .ref (am 0)), (3, .int (nI i))] [] := by
  obtain ⟨r, σx1, σm1, h1, h2, h3⟩ := hs
  refine ll_aload C dL_law_595 1 rfl rfl 596 rfl ?_
  refine ll_aload C dL_law_596 0 rfl rfl 597 rfl ?_
  refine ll_iload C dL_law_597 3 rfl rfl 598 rfl ?_
  refine ll_iconst C dL_law_598 1 rfl 599 rfl ?_
  refine ll_iadd C dL_law_599 600 rfl ?_
  refine ll_iald C dL_law_600 hi1 601 rfl ?_
  refine ll_callX [.int (xs (nI i + 1).toNatClampNeg)] [] C dL_law_601 (c_X10_forgotten h1) lk_X10_forgotten rfl (Nat.le_of_ble_eq_true rfl) 604 rfl rfl ?_
  refine ll_aload C dL_law_604 2 rfl rfl 605 rfl ?_
  refine ll_aload C dL_law_605 0 rfl rfl 606 rfl ?_
  refine ll_iload C dL_law_606 3 rfl rfl 607 rfl ?_
  refine ll_iconst C dL_law_607 1 rfl 608 rfl ?_
  refine ll_iadd C dL_law_608 609 rfl ?_
  refine ll_iald C dL_law_609 hi1 610 rfl ?_
  refine ll_callM [.int (xs (nI i + 1).toNatClampNeg)] [.int r] C dL_law_610 (c_X11_forgotten h2) lk_X11_forgotten rfl (Nat.le_of_ble_eq_true rfl) 613 rfl rfl ?_
  exact ll_eqT C dL_law_613 851 rfl (kk σx1 σm1 h3)
set_option maxRecDepth 100000 in
set_option maxHeartbeats 4000000 in
theorem law_18 {p : Program} {e : Env} {s : State} {m : MethodId} {below : List Frame} {meth : Method} {c : Code} {b L : Nat} {xs : Nat → Int32} {g : ob_GT} {ax am : Nat → Nat} {σx σm : ob_St} {RR : ob_St → ob_St → Prop} {i : Nat} (C : ob_LC p s m meth c b L xs g) (hi1 : vp_in (nI i + 1) L) (hi2 : vp_in (nI i + 2) L) (hs : ob_ok2 RR (f_X10_halved σx (xs (nI i + 1).toNatClampNeg)) (f_X11_halved σm (xs (nI i + 1).toNatClampNeg))) (kk : ∀ σx1 σm1 : ob_St, RR σx1 σm1 → ob_LV p e s m below meth c b g ax am σx1 σm1 851 [(0, .ref b), (1, .ref (ax 0)), (2, .ref (am 0)), (3, .int (nI i))] []) : ob_LV p e s m below meth c b g ax am σx σm 618 [(0, .ref b), (1, .ref (ax 0)), (2, .ref (am 0)), (3, .int (nI i))] [] := by
  obtain ⟨r, σx1, σm1, h1, h2, h3⟩ := hs
  refine ll_aload C dL_law_618 1 rfl rfl 619 rfl ?_
  refine ll_aload C dL_law_619 0 rfl rfl 620 rfl ?_
  refine ll_iload C dL_law_620 3 rfl rfl 621 rfl ?_
  refine ll_iconst C dL_law_621 1 rfl 622 rfl ?_
  refine ll_iadd C dL_law_622 623 rfl ?_
  refine ll_iald C dL_law_623 hi1 624 rfl ?_
  refine ll_callX [.int (xs (nI i + 1).toNatClampNeg)] [] C dL_law_624 (c_X10_halved h1) lk_X10_halved rfl (Nat.le_of_ble_eq_true rfl) 627 rfl rfl ?_
  refine ll_aload C dL_law_627 2 rfl rfl 628 rfl ?_
  refine ll_aload C dL_law_628 0 rfl rfl 629 rfl ?_
  refine ll_iload C dL_law_629 3 rfl rfl 630 rfl ?_
  refine ll_iconst C dL_law_630 1 rfl 631 rfl ?_
  refine ll_iadd C dL_law_631 632 rfl ?_
  refine ll_iald C dL_law_632 hi1 633 rfl ?_
  refine ll_callM [.int (xs (nI i + 1).toNatClampNeg)] [.int r] C dL_law_633 (c_X11_halved h2) lk_X11_halved rfl (Nat.le_of_ble_eq_true rfl) 636 rfl rfl ?_
  exact ll_eqT C dL_law_636 851 rfl (kk σx1 σm1 h3)
set_option maxRecDepth 100000 in
set_option maxHeartbeats 4000000 in
theorem law_19 {p : Program} {e : Env} {s : State} {m : MethodId} {below : List Frame} {meth : Method} {c : Code} {b L : Nat} {xs : Nat → Int32} {g : ob_GT} {ax am : Nat → Nat} {σx σm : ob_St} {RR : ob_St → ob_St → Prop} {i : Nat} (C : ob_LC p s m meth c b L xs g) (hi1 : vp_in (nI i + 1) L) (hi2 : vp_in (nI i + 2) L) (hs : ob_ok2 RR (f_X10_heard σx (xs (nI i + 1).toNatClampNeg)) (f_X11_heard σm (xs (nI i + 1).toNatClampNeg))) (kk : ∀ σx1 σm1 : ob_St, RR σx1 σm1 → ob_LV p e s m below meth c b g ax am σx1 σm1 851 [(0, .ref b), (1, .ref (ax 0)), (2, .ref (am 0)), (3, .int (nI i))] []) : ob_LV p e s m below meth c b g ax am σx σm 641 [(0, .ref b), (1, .ref (ax 0)), (2, .ref (am 0)), (3, .int (nI i))] [] := by
  obtain ⟨r, σx1, σm1, h1, h2, h3⟩ := hs
  refine ll_aload C dL_law_641 1 rfl rfl 642 rfl ?_
  refine ll_aload C dL_law_642 0 rfl rfl 643 rfl ?_
  refine ll_iload C dL_law_643 3 rfl rfl 644 rfl ?_
  refine ll_iconst C dL_law_644 1 rfl 645 rfl ?_
  refine ll_iadd C dL_law_645 646 rfl ?_
  refine ll_iald C dL_law_646 hi1 647 rfl ?_
  refine ll_callX [.int (xs (nI i + 1).toNatClampNeg)] [] C dL_law_647 (c_X10_heard h1) lk_X10_heard rfl (Nat.le_of_ble_eq_true rfl) 650 rfl rfl ?_
  refine ll_aload C dL_law_650 2 rfl rfl 651 rfl ?_
  refine ll_aload C dL_law_651 0 rfl rfl 652 rfl ?_
  refine ll_iload C dL_law_652 3 rfl rfl 653 rfl ?_
  refine ll_iconst C dL_law_653 1 rfl 654 rfl ?_
  refine ll_iadd C dL_law_654 655 rfl ?_
  refine ll_iald C dL_law_655 hi1 656 rfl ?_
  refine ll_callM [.int (xs (nI i + 1).toNatClampNeg)] [.int r] C dL_law_656 (c_X11_heard h2) lk_X11_heard rfl (Nat.le_of_ble_eq_true rfl) 659 rfl rfl ?_
  exact ll_eqT C dL_law_659 851 rfl (kk σx1 σm1 h3)
set_option maxRecDepth 100000 in
set_option maxHeartbeats 4000000 in
theorem law_20 {p : Program} {e : Env} {s : State} {m : MethodId} {below : List Frame} {meth : Method} {c : Code} {b L : Nat} {xs : Nat → Int32} {g : ob_GT} {ax am : Nat → Nat} {σx σm : ob_St} {RR : ob_St → ob_St → Prop} {i : Nat} (C : ob_LC p s m meth c b L xs g) (hi1 : vp_in (nI i + 1) L) (hi2 : vp_in (nI i + 2) L) (hs : ob_ok2 RR (f_X10_waits σx (xs (nI i + 1).toNatClampNeg)) (f_X11_waits σm (xs (nI i + 1).toNatClampNeg))) (kk : ∀ σx1 σm1 : ob_St, RR σx1 σm1 → ob_LV p e s m below meth c b g ax am σx1 σm1 851 [(0, .ref b), (1, .ref (ax 0)), (2, .ref (am 0)), (3, .int (nI i))] []) : ob_LV p e s m below meth c b g ax am σx σm 664 [(0, .ref b), (1, .ref (ax 0)), (2, .ref (am 0)), (3, .int (nI i))] [] := by
  obtain ⟨r, σx1, σm1, h1, h2, h3⟩ := hs
  refine ll_aload C dL_law_664 1 rfl rfl 665 rfl ?_
  refine ll_aload C dL_law_665 0 rfl rfl 666 rfl ?_
  refine ll_iload C dL_law_666 3 rfl rfl 667 rfl ?_
  refine ll_iconst C dL_law_667 1 rfl 668 rfl ?_
  refine ll_iadd C dL_law_668 669 rfl ?_
  refine ll_iald C dL_law_669 hi1 670 rfl ?_
  refine ll_callX [.int (xs (nI i + 1).toNatClampNeg)] [] C dL_law_670 (c_X10_waits h1) lk_X10_waits rfl (Nat.le_of_ble_eq_true rfl) 673 rfl rfl ?_
  refine ll_aload C dL_law_673 2 rfl rfl 674 rfl ?_
  refine ll_aload C dL_law_674 0 rfl rfl 675 rfl ?_
  refine ll_iload C dL_law_675 3 rfl rfl 676 rfl ?_
  refine ll_iconst C dL_law_676 1 rfl 677 rfl ?_
  refine ll_iadd C dL_law_677 678 rfl ?_
  refine ll_iald C dL_law_678 hi1 679 rfl ?_
  refine ll_callM [.int (xs (nI i + 1).toNatClampNeg)] [.int r] C dL_law_679 (c_X11_waits h2) lk_X11_waits rfl (Nat.le_of_ble_eq_true rfl) 682 rfl rfl ?_
  exact ll_eqT C dL_law_682 851 rfl (kk σx1 σm1 h3)
set_option maxRecDepth 100000 in
set_option maxHeartbeats 4000000 in
theorem law_21 {p : Program} {e : Env} {s : State} {m : MethodId} {below : List Frame} {meth : Method} {c : Code} {b L : Nat} {xs : Nat → Int32} {g : ob_GT} {ax am : Nat → Nat} {σx σm : ob_St} {RR : ob_St → ob_St → Prop} {i : Nat} (C : ob_LC p s m meth c b L xs g) (hi1 : vp_in (nI i + 1) L) (hi2 : vp_in (nI i + 2) L) (hs : ob_ok2 RR (f_X10_send σx (xs (nI i + 1).toNatClampNeg)) (f_X11_send σm (xs (nI i + 1).toNatClampNeg))) (kk : ∀ σx1 σm1 : ob_St, RR σx1 σm1 → ob_LV p e s m below meth c b g ax am σx1 σm1 851 [(0, .ref b), (1, .ref (ax 0)), (2, .ref (am 0)), (3, .int (nI i))] []) : ob_LV p e s m below meth c b g ax am σx σm 687 [(0, .ref b), (1, .ref (ax 0)), (2, .ref (am 0)), (3, .int (nI i))] [] := by
  obtain ⟨r, σx1, σm1, h1, h2, h3⟩ := hs
  refine ll_aload C dL_law_687 1 rfl rfl 688 rfl ?_
  refine ll_aload C dL_law_688 0 rfl rfl 689 rfl ?_
  refine ll_iload C dL_law_689 3 rfl rfl 690 rfl ?_
  refine ll_iconst C dL_law_690 1 rfl 691 rfl ?_
  refine ll_iadd C dL_law_691 692 rfl ?_
  refine ll_iald C dL_law_692 hi1 693 rfl ?_
  refine ll_callX [.int (xs (nI i + 1).toNatClampNeg)] [] C dL_law_693 (c_X10_send h1) lk_X10_send rfl (Nat.le_of_ble_eq_true rfl) 696 rfl rfl ?_
  refine ll_aload C dL_law_696 2 rfl rfl 697 rfl ?_
  refine ll_aload C dL_law_697 0 rfl rfl 698 rfl ?_
  refine ll_iload C dL_law_698 3 rfl rfl 699 rfl ?_
  refine ll_iconst C dL_law_699 1 rfl 700 rfl ?_
  refine ll_iadd C dL_law_700 701 rfl ?_
  refine ll_iald C dL_law_701 hi1 702 rfl ?_
  refine ll_callM [.int (xs (nI i + 1).toNatClampNeg)] [.int r] C dL_law_702 (c_X11_send h2) lk_X11_send rfl (Nat.le_of_ble_eq_true rfl) 705 rfl rfl ?_
  exact ll_eqT C dL_law_705 851 rfl (kk σx1 σm1 h3)
set_option maxRecDepth 100000 in
set_option maxHeartbeats 4000000 in
theorem law_22 {p : Program} {e : Env} {s : State} {m : MethodId} {below : List Frame} {meth : Method} {c : Code} {b L : Nat} {xs : Nat → Int32} {g : ob_GT} {ax am : Nat → Nat} {σx σm : ob_St} {RR : ob_St → ob_St → Prop} {i : Nat} (C : ob_LC p s m meth c b L xs g) (hi1 : vp_in (nI i + 1) L) (hi2 : vp_in (nI i + 2) L) (hs : ob_ok2 RR (f_X10_row σx (xs (nI i + 1).toNatClampNeg)) (f_X11_row σm (xs (nI i + 1).toNatClampNeg))) (kk : ∀ σx1 σm1 : ob_St, RR σx1 σm1 → ob_LV p e s m below meth c b g ax am σx1 σm1 851 [(0, .ref b), (1, .ref (ax 0)), (2, .ref (am 0)), (3, .int (nI i))] []) : ob_LV p e s m below meth c b g ax am σx σm 710 [(0, .ref b), (1, .ref (ax 0)), (2, .ref (am 0)), (3, .int (nI i))] [] := by
  obtain ⟨r, σx1, σm1, h1, h2, h3⟩ := hs
  refine ll_aload C dL_law_710 1 rfl rfl 711 rfl ?_
  refine ll_aload C dL_law_711 0 rfl rfl 712 rfl ?_
  refine ll_iload C dL_law_712 3 rfl rfl 713 rfl ?_
  refine ll_iconst C dL_law_713 1 rfl 714 rfl ?_
  refine ll_iadd C dL_law_714 715 rfl ?_
  refine ll_iald C dL_law_715 hi1 716 rfl ?_
  refine ll_callX [.int (xs (nI i + 1).toNatClampNeg)] [] C dL_law_716 (c_X10_row h1) lk_X10_row rfl (Nat.le_of_ble_eq_true rfl) 719 rfl rfl ?_
  refine ll_aload C dL_law_719 2 rfl rfl 720 rfl ?_
  refine ll_aload C dL_law_720 0 rfl rfl 721 rfl ?_
  refine ll_iload C dL_law_721 3 rfl rfl 722 rfl ?_
  refine ll_iconst C dL_law_722 1 rfl 723 rfl ?_
  refine ll_iadd C dL_law_723 724 rfl ?_
  refine ll_iald C dL_law_724 hi1 725 rfl ?_
  refine ll_callM [.int (xs (nI i + 1).toNatClampNeg)] [.int r] C dL_law_725 (c_X11_row h2) lk_X11_row rfl (Nat.le_of_ble_eq_true rfl) 728 rfl rfl ?_
  exact ll_eqT C dL_law_728 851 rfl (kk σx1 σm1 h3)
set_option maxRecDepth 100000 in
set_option maxHeartbeats 4000000 in
theorem law_23 {p : Program} {e : Env} {s : State} {m : MethodId} {below : List Frame} {meth : Method} {c : Code} {b L : Nat} {xs : Nat → Int32} {g : ob_GT} {ax am : Nat → Nat} {σx σm : ob_St} {RR : ob_St → ob_St → Prop} {i : Nat} (C : ob_LC p s m meth c b L xs g) (hi1 : vp_in (nI i + 1) L) (hi2 : vp_in (nI i + 2) L) (hs : ob_ok2 RR (f_X10_fits σx (xs (nI i + 1).toNatClampNeg)) (f_X11_fits σm (xs (nI i + 1).toNatClampNeg))) (kk : ∀ σx1 σm1 : ob_St, RR σx1 σm1 → ob_LV p e s m below meth c b g ax am σx1 σm1 851 [(0, .ref b), (1, .ref (ax 0)), (2, .ref (am 0)), (3, .int (nI i))] []) : ob_LV p e s m below meth c b g ax am σx σm 733 [(0, .ref b), (1, .ref (ax 0)), (2, .ref (am 0)), (3, .int (nI i))] [] := by
  obtain ⟨r, σx1, σm1, h1, h2, h3⟩ := hs
  refine ll_aload C dL_law_733 1 rfl rfl 734 rfl ?_
  refine ll_aload C dL_law_734 0 rfl rfl 735 rfl ?_
  refine ll_iload C dL_law_735 3 rfl rfl 736 rfl ?_
  refine ll_iconst C dL_law_736 1 rfl 737 rfl ?_
  refine ll_iadd C dL_law_737 738 rfl ?_
  refine ll_iald C dL_law_738 hi1 739 rfl ?_
  refine ll_callX [.int (xs (nI i + 1).toNatClampNeg)] [] C dL_law_739 (c_X10_fits h1) lk_X10_fits rfl (Nat.le_of_ble_eq_true rfl) 742 rfl rfl ?_
  refine ll_aload C dL_law_742 2 rfl rfl 743 rfl ?_
  refine ll_aload C dL_law_743 0 rfl rfl 744 rfl ?_
  refine ll_iload C dL_law_744 3 rfl rfl 745 rfl ?_
  refine ll_iconst C dL_law_745 1 rfl 746 rfl ?_
  refine ll_iadd C dL_law_746 747 rfl ?_
  refine ll_iald C dL_law_747 hi1 748 rfl ?_
  refine ll_callM [.int (xs (nI i + 1).toNatClampNeg)] [.int r] C dL_law_748 (c_X11_fits h2) lk_X11_fits rfl (Nat.le_of_ble_eq_true rfl) 751 rfl rfl ?_
  exact ll_eqT C dL_law_751 851 rfl (kk σx1 σm1 h3)
set_option maxRecDepth 100000 in
set_option maxHeartbeats 4000000 in
theorem law_24 {p : Program} {e : Env} {s : State} {m : MethodId} {below : List Frame} {meth : Method} {c : Code} {b L : Nat} {xs : Nat → Int32} {g : ob_GT} {ax am : Nat → Nat} {σx σm : ob_St} {RR : ob_St → ob_St → Prop} {i : Nat} (C : ob_LC p s m meth c b L xs g) (hi1 : vp_in (nI i + 1) L) (hi2 : vp_in (nI i + 2) L) (hs : ob_ok2 RR (f_X10_judge σx ) (f_X11_judge σm )) (kk : ∀ σx1 σm1 : ob_St, RR σx1 σm1 → ob_LV p e s m below meth c b g ax am σx1 σm1 851 [(0, .ref b), (1, .ref (ax 0)), (2, .ref (am 0)), (3, .int (nI i))] []) : ob_LV p e s m below meth c b g ax am σx σm 756 [(0, .ref b), (1, .ref (ax 0)), (2, .ref (am 0)), (3, .int (nI i))] [] := by
  obtain ⟨r, σx1, σm1, h1, h2, h3⟩ := hs
  refine ll_aload C dL_law_756 1 rfl rfl 757 rfl ?_
  refine ll_callX [] [] C dL_law_757 (c_X10_judge h1) lk_X10_judge rfl (Nat.le_of_ble_eq_true rfl) 760 rfl rfl ?_
  refine ll_aload C dL_law_760 2 rfl rfl 761 rfl ?_
  refine ll_callM [] [.int r] C dL_law_761 (c_X11_judge h2) lk_X11_judge rfl (Nat.le_of_ble_eq_true rfl) 764 rfl rfl ?_
  exact ll_eqT C dL_law_764 851 rfl (kk σx1 σm1 h3)
set_option maxRecDepth 100000 in
set_option maxHeartbeats 4000000 in
theorem law_25 {p : Program} {e : Env} {s : State} {m : MethodId} {below : List Frame} {meth : Method} {c : Code} {b L : Nat} {xs : Nat → Int32} {g : ob_GT} {ax am : Nat → Nat} {σx σm : ob_St} {RR : ob_St → ob_St → Prop} {i : Nat} (C : ob_LC p s m meth c b L xs g) (hi1 : vp_in (nI i + 1) L) (hi2 : vp_in (nI i + 2) L) (hs : ob_ok2 RR (f_X10_lots σx (xs (nI i + 1).toNatClampNeg) (xs (nI i + 2).toNatClampNeg)) (f_X11_lots σm (xs (nI i + 1).toNatClampNeg) (xs (nI i + 2).toNatClampNeg))) (kk : ∀ σx1 σm1 : ob_St, RR σx1 σm1 → ob_LV p e s m below meth c b g ax am σx1 σm1 851 [(0, .ref b), (1, .ref (ax 0)), (2, .ref (am 0)), (3, .int (nI i))] []) : ob_LV p e s m below meth c b g ax am σx σm 769 [(0, .ref b), (1, .ref (ax 0)), (2, .ref (am 0)), (3, .int (nI i))] [] := by
  obtain ⟨r, σx1, σm1, h1, h2, h3⟩ := hs
  refine ll_aload C dL_law_769 1 rfl rfl 770 rfl ?_
  refine ll_aload C dL_law_770 0 rfl rfl 771 rfl ?_
  refine ll_iload C dL_law_771 3 rfl rfl 772 rfl ?_
  refine ll_iconst C dL_law_772 1 rfl 773 rfl ?_
  refine ll_iadd C dL_law_773 774 rfl ?_
  refine ll_iald C dL_law_774 hi1 775 rfl ?_
  refine ll_aload C dL_law_775 0 rfl rfl 776 rfl ?_
  refine ll_iload C dL_law_776 3 rfl rfl 777 rfl ?_
  refine ll_iconst C dL_law_777 2 rfl 778 rfl ?_
  refine ll_iadd C dL_law_778 779 rfl ?_
  refine ll_iald C dL_law_779 hi2 780 rfl ?_
  refine ll_callX [.int (xs (nI i + 1).toNatClampNeg), .int (xs (nI i + 2).toNatClampNeg)] [] C dL_law_780 (c_X10_lots h1) lk_X10_lots rfl (Nat.le_of_ble_eq_true rfl) 783 rfl rfl ?_
  refine ll_aload C dL_law_783 2 rfl rfl 784 rfl ?_
  refine ll_aload C dL_law_784 0 rfl rfl 785 rfl ?_
  refine ll_iload C dL_law_785 3 rfl rfl 786 rfl ?_
  refine ll_iconst C dL_law_786 1 rfl 787 rfl ?_
  refine ll_iadd C dL_law_787 788 rfl ?_
  refine ll_iald C dL_law_788 hi1 789 rfl ?_
  refine ll_aload C dL_law_789 0 rfl rfl 790 rfl ?_
  refine ll_iload C dL_law_790 3 rfl rfl 791 rfl ?_
  refine ll_iconst C dL_law_791 2 rfl 792 rfl ?_
  refine ll_iadd C dL_law_792 793 rfl ?_
  refine ll_iald C dL_law_793 hi2 794 rfl ?_
  refine ll_callM [.int (xs (nI i + 1).toNatClampNeg), .int (xs (nI i + 2).toNatClampNeg)] [.int r] C dL_law_794 (c_X11_lots h2) lk_X11_lots rfl (Nat.le_of_ble_eq_true rfl) 797 rfl rfl ?_
  exact ll_eqT C dL_law_797 851 rfl (kk σx1 σm1 h3)
set_option maxRecDepth 100000 in
set_option maxHeartbeats 4000000 in
theorem law_26 {p : Program} {e : Env} {s : State} {m : MethodId} {below : List Frame} {meth : Method} {c : Code} {b L : Nat} {xs : Nat → Int32} {g : ob_GT} {ax am : Nat → Nat} {σx σm : ob_St} {RR : ob_St → ob_St → Prop} {i : Nat} (C : ob_LC p s m meth c b L xs g) (hi1 : vp_in (nI i + 1) L) (hi2 : vp_in (nI i + 2) L) (hs : ob_ok2 RR (f_X10_image σx ) (f_X11_image σm )) (kk : ∀ σx1 σm1 : ob_St, RR σx1 σm1 → ob_LV p e s m below meth c b g ax am σx1 σm1 851 [(0, .ref b), (1, .ref (ax 0)), (2, .ref (am 0)), (3, .int (nI i))] []) : ob_LV p e s m below meth c b g ax am σx σm 802 [(0, .ref b), (1, .ref (ax 0)), (2, .ref (am 0)), (3, .int (nI i))] [] := by
  obtain ⟨r, σx1, σm1, h1, h2, h3⟩ := hs
  refine ll_aload C dL_law_802 1 rfl rfl 803 rfl ?_
  refine ll_callX [] [] C dL_law_803 (c_X10_image h1) lk_X10_image rfl (Nat.le_of_ble_eq_true rfl) 806 rfl rfl ?_
  refine ll_aload C dL_law_806 2 rfl rfl 807 rfl ?_
  refine ll_callM [] [.int r] C dL_law_807 (c_X11_image h2) lk_X11_image rfl (Nat.le_of_ble_eq_true rfl) 810 rfl rfl ?_
  exact ll_eqT C dL_law_810 851 rfl (kk σx1 σm1 h3)
set_option maxRecDepth 100000 in
set_option maxHeartbeats 4000000 in
theorem law_27 {p : Program} {e : Env} {s : State} {m : MethodId} {below : List Frame} {meth : Method} {c : Code} {b L : Nat} {xs : Nat → Int32} {g : ob_GT} {ax am : Nat → Nat} {σx σm : ob_St} {RR : ob_St → ob_St → Prop} {i : Nat} (C : ob_LC p s m meth c b L xs g) (hi1 : vp_in (nI i + 1) L) (hi2 : vp_in (nI i + 2) L) (hs : ob_ok2 RR (f_X10_on σx ) (f_X11_on σm )) (kk : ∀ σx1 σm1 : ob_St, RR σx1 σm1 → ob_LV p e s m below meth c b g ax am σx1 σm1 851 [(0, .ref b), (1, .ref (ax 0)), (2, .ref (am 0)), (3, .int (nI i))] []) : ob_LV p e s m below meth c b g ax am σx σm 815 [(0, .ref b), (1, .ref (ax 0)), (2, .ref (am 0)), (3, .int (nI i))] [] := by
  obtain ⟨r, σx1, σm1, h1, h2, h3⟩ := hs
  refine ll_aload C dL_law_815 1 rfl rfl 816 rfl ?_
  refine ll_callX [] [] C dL_law_816 (c_X10_on h1) lk_X10_on rfl (Nat.le_of_ble_eq_true rfl) 819 rfl rfl ?_
  refine ll_aload C dL_law_819 2 rfl rfl 820 rfl ?_
  refine ll_callM [] [.int r] C dL_law_820 (c_X11_on h2) lk_X11_on rfl (Nat.le_of_ble_eq_true rfl) 823 rfl rfl ?_
  exact ll_eqT C dL_law_823 851 rfl (kk σx1 σm1 h3)
set_option maxRecDepth 100000 in
set_option maxHeartbeats 4000000 in
theorem law_28 {p : Program} {e : Env} {s : State} {m : MethodId} {below : List Frame} {meth : Method} {c : Code} {b L : Nat} {xs : Nat → Int32} {g : ob_GT} {ax am : Nat → Nat} {σx σm : ob_St} {RR : ob_St → ob_St → Prop} {i : Nat} (C : ob_LC p s m meth c b L xs g) (hi1 : vp_in (nI i + 1) L) (hi2 : vp_in (nI i + 2) L) (hs : ob_ok2 RR (f_X10_count σx (xs (nI i + 1).toNatClampNeg)) (f_X11_count σm (xs (nI i + 1).toNatClampNeg))) (kk : ∀ σx1 σm1 : ob_St, RR σx1 σm1 → ob_LV p e s m below meth c b g ax am σx1 σm1 851 [(0, .ref b), (1, .ref (ax 0)), (2, .ref (am 0)), (3, .int (nI i))] []) : ob_LV p e s m below meth c b g ax am σx σm 828 [(0, .ref b), (1, .ref (ax 0)), (2, .ref (am 0)), (3, .int (nI i))] [] := by
  obtain ⟨r, σx1, σm1, h1, h2, h3⟩ := hs
  refine ll_aload C dL_law_828 1 rfl rfl 829 rfl ?_
  refine ll_aload C dL_law_829 0 rfl rfl 830 rfl ?_
  refine ll_iload C dL_law_830 3 rfl rfl 831 rfl ?_
  refine ll_iconst C dL_law_831 1 rfl 832 rfl ?_
  refine ll_iadd C dL_law_832 833 rfl ?_
  refine ll_iald C dL_law_833 hi1 834 rfl ?_
  refine ll_callX [.int (xs (nI i + 1).toNatClampNeg)] [] C dL_law_834 (c_X10_count h1) lk_X10_count rfl (Nat.le_of_ble_eq_true rfl) 837 rfl rfl ?_
  refine ll_aload C dL_law_837 2 rfl rfl 838 rfl ?_
  refine ll_aload C dL_law_838 0 rfl rfl 839 rfl ?_
  refine ll_iload C dL_law_839 3 rfl rfl 840 rfl ?_
  refine ll_iconst C dL_law_840 1 rfl 841 rfl ?_
  refine ll_iadd C dL_law_841 842 rfl ?_
  refine ll_iald C dL_law_842 hi1 843 rfl ?_
  refine ll_callM [.int (xs (nI i + 1).toNatClampNeg)] [.int r] C dL_law_843 (c_X11_count h2) lk_X11_count rfl (Nat.le_of_ble_eq_true rfl) 846 rfl rfl ?_
  exact ll_eqT C dL_law_846 851 rfl (kk σx1 σm1 h3)
set_option maxRecDepth 100000 in
set_option maxHeartbeats 8000000 in
theorem law_loop {p : Program} {e : Env} {s : State} {m : MethodId} {below : List Frame} {meth : Method} {c : Code} {b L : Nat} {xs : Nat → Int32} {g : ob_GT} {ax am : Nat → Nat} {RR : ob_St → ob_St → Prop} (C : ob_LC p s m meth c b L xs g) (hR : ob_steps RR) : ∀ (n i : Nat) (σx σm : ob_St), i ≤ L → L + 1 ≤ i + n → RR σx σm → ob_LV p e s m below meth c b g ax am σx σm 18 [(0, .ref b), (1, .ref (ax 0)), (2, .ref (am 0)), (3, .int (nI i))] [] := by
  have hL : L ≤ 1536 := C.2.2.2.2.2.2.2.2.2.2.2
  intro n
  induction n with
  | zero => intro i σx σm h1 h2; exact absurd h2 (by omega)
  | succ n ih =>
    intro i σx σm hi hn hr
    refine ll_iload C dL_law_18 3 rfl rfl 19 rfl ?_
    refine ll_aload C dL_law_19 0 rfl rfl 20 rfl ?_
    refine ll_alen C dL_law_20 21 rfl ?_
    refine ll_iconst C dL_law_21 3 rfl 22 rfl ?_
    refine ll_isub C dL_law_22 23 rfl ?_
    refine ll_gt C dL_law_23 857 26 rfl rfl (fun h => ?_) (fun h => ?_)
    · refine ll_iconst C dL_law_857 1 rfl 858 rfl ?_
      exact ll_end C dL_law_858
    · have hlt : i + 3 ≤ L := by
        have h1 : (nI L - nI 3).toInt = (L : Int) - 3 := pk_sub_toInt (by omega) (by omega)
        have h2 : (nI i).toInt = (i : Int) := nI_toInt (by omega)
        have h3 : ¬ (nI L - nI 3).toInt < (nI i).toInt := fun q => h (Int32.lt_iff_toInt_lt.mpr q)
        omega
      have hi0 : vp_in (nI i) L := vp_in_nI (by omega) (by omega)
      have hi1 : vp_in (nI i + 1) L := by rw [nI_1]; exact vp_in_nI (by omega) (by omega)
      have hi2 : vp_in (nI i + 2) L := by rw [show (2 : Int32) = nI 2 from rfl, nI_add]; exact vp_in_nI (by omega) (by omega)
      have kk : ∀ σx1 σm1 : ob_St, RR σx1 σm1 → ob_LV p e s m below meth c b g ax am σx1 σm1 851 [(0, .ref b), (1, .ref (ax 0)), (2, .ref (am 0)), (3, .int (nI i))] [] := by
        intro σx1 σm1 h3
        refine ll_iinc C dL_law_851 (nI (i + 3)) 3 [(3, .int (nI (i + 3))), (0, .ref b), (1, .ref (ax 0)), (2, .ref (am 0))] rfl (by rw [← nI_add]; rfl) (by decide) rfl 854 rfl ?_
        refine ll_goto C dL_law_854 18 rfl ?_
        refine ll_sub [1, 2, 3, 0] [(0, .ref b), (1, .ref (ax 0)), (2, .ref (am 0)), (3, .int (nI (i + 3)))] rfl ?_
        exact ih (i + 3) σx1 σm1 (by omega) (by omega) h3
      refine ll_aload C dL_law_26 0 rfl rfl 27 rfl ?_
      refine ll_iload C dL_law_27 3 rfl rfl 28 rfl ?_
      refine ll_iald C dL_law_28 hi0 29 rfl ?_
      refine ll_bipush C dL_law_29 31 rfl 31 rfl ?_
      refine ll_iand C dL_law_31 32 rfl ?_
      generalize xs (nI i).toNatClampNeg &&& 31 = z
      have hst := hR σx σm (xs (nI i + 1).toNatClampNeg) (xs (nI i + 2).toNatClampNeg) hr
      obtain ⟨s0, s1, s2, s3, s4, s5, s6, s7, s8, s9, s10, s11, s12, s13, s14, s15, s16, s17, s18, s19, s20, s21, s22, s23, s24, s25, s26, s27, s28⟩ := hst
      by_cases z0 : z = 0
      · subst z0; exact ll_tabIn C dL_law_32 164 (by decide) (by decide) rfl rfl (law_0 C hi1 hi2 s0 kk)
      by_cases z1 : z = 1
      · subst z1; exact ll_tabIn C dL_law_32 187 (by decide) (by decide) rfl rfl (law_1 C hi1 hi2 s1 kk)
      by_cases z2 : z = 2
      · subst z2; exact ll_tabIn C dL_law_32 200 (by decide) (by decide) rfl rfl (law_2 C hi1 hi2 s2 kk)
      by_cases z3 : z = 3
      · subst z3; exact ll_tabIn C dL_law_32 233 (by decide) (by decide) rfl rfl (law_3 C hi1 hi2 s3 kk)
      by_cases z4 : z = 4
      · subst z4; exact ll_tabIn C dL_law_32 256 (by decide) (by decide) rfl rfl (law_4 C hi1 hi2 s4 kk)
      by_cases z5 : z = 5
      · subst z5; exact ll_tabIn C dL_law_32 289 (by decide) (by decide) rfl rfl (law_5 C hi1 hi2 s5 kk)
      by_cases z6 : z = 6
      · subst z6; exact ll_tabIn C dL_law_32 322 (by decide) (by decide) rfl rfl (law_6 C hi1 hi2 s6 kk)
      by_cases z7 : z = 7
      · subst z7; exact ll_tabIn C dL_law_32 355 (by decide) (by decide) rfl rfl (law_7 C hi1 hi2 s7 kk)
      by_cases z8 : z = 8
      · subst z8; exact ll_tabIn C dL_law_32 388 (by decide) (by decide) rfl rfl (law_8 C hi1 hi2 s8 kk)
      by_cases z9 : z = 9
      · subst z9; exact ll_tabIn C dL_law_32 411 (by decide) (by decide) rfl rfl (law_9 C hi1 hi2 s9 kk)
      by_cases z10 : z = 10
      · subst z10; exact ll_tabIn C dL_law_32 434 (by decide) (by decide) rfl rfl (law_10 C hi1 hi2 s10 kk)
      by_cases z11 : z = 11
      · subst z11; exact ll_tabIn C dL_law_32 467 (by decide) (by decide) rfl rfl (law_11 C hi1 hi2 s11 kk)
      by_cases z12 : z = 12
      · subst z12; exact ll_tabIn C dL_law_32 490 (by decide) (by decide) rfl rfl (law_12 C hi1 hi2 s12 kk)
      by_cases z13 : z = 13
      · subst z13; exact ll_tabIn C dL_law_32 523 (by decide) (by decide) rfl rfl (law_13 C hi1 hi2 s13 kk)
      by_cases z14 : z = 14
      · subst z14; exact ll_tabIn C dL_law_32 546 (by decide) (by decide) rfl rfl (law_14 C hi1 hi2 s14 kk)
      by_cases z15 : z = 15
      · subst z15; exact ll_tabIn C dL_law_32 559 (by decide) (by decide) rfl rfl (law_15 C hi1 hi2 s15 kk)
      by_cases z16 : z = 16
      · subst z16; exact ll_tabIn C dL_law_32 572 (by decide) (by decide) rfl rfl (law_16 C hi1 hi2 s16 kk)
      by_cases z17 : z = 17
      · subst z17; exact ll_tabIn C dL_law_32 595 (by decide) (by decide) rfl rfl (law_17 C hi1 hi2 s17 kk)
      by_cases z18 : z = 18
      · subst z18; exact ll_tabIn C dL_law_32 618 (by decide) (by decide) rfl rfl (law_18 C hi1 hi2 s18 kk)
      by_cases z19 : z = 19
      · subst z19; exact ll_tabIn C dL_law_32 641 (by decide) (by decide) rfl rfl (law_19 C hi1 hi2 s19 kk)
      by_cases z20 : z = 20
      · subst z20; exact ll_tabIn C dL_law_32 664 (by decide) (by decide) rfl rfl (law_20 C hi1 hi2 s20 kk)
      by_cases z21 : z = 21
      · subst z21; exact ll_tabIn C dL_law_32 687 (by decide) (by decide) rfl rfl (law_21 C hi1 hi2 s21 kk)
      by_cases z22 : z = 22
      · subst z22; exact ll_tabIn C dL_law_32 710 (by decide) (by decide) rfl rfl (law_22 C hi1 hi2 s22 kk)
      by_cases z23 : z = 23
      · subst z23; exact ll_tabIn C dL_law_32 733 (by decide) (by decide) rfl rfl (law_23 C hi1 hi2 s23 kk)
      by_cases z24 : z = 24
      · subst z24; exact ll_tabIn C dL_law_32 756 (by decide) (by decide) rfl rfl (law_24 C hi1 hi2 s24 kk)
      by_cases z25 : z = 25
      · subst z25; exact ll_tabIn C dL_law_32 769 (by decide) (by decide) rfl rfl (law_25 C hi1 hi2 s25 kk)
      by_cases z26 : z = 26
      · subst z26; exact ll_tabIn C dL_law_32 802 (by decide) (by decide) rfl rfl (law_26 C hi1 hi2 s26 kk)
      by_cases z27 : z = 27
      · subst z27; exact ll_tabIn C dL_law_32 815 (by decide) (by decide) rfl rfl (law_27 C hi1 hi2 s27 kk)
      by_cases z28 : z = 28
      · subst z28; exact ll_tabIn C dL_law_32 828 (by decide) (by decide) rfl rfl (law_28 C hi1 hi2 s28 kk)
      refine ll_tabOut C dL_law_32 851 (by have y0 := ob_neI z0 (a := 0) rfl; have y1 := ob_neI z1 (a := 1) rfl; have y2 := ob_neI z2 (a := 2) rfl; have y3 := ob_neI z3 (a := 3) rfl; have y4 := ob_neI z4 (a := 4) rfl; have y5 := ob_neI z5 (a := 5) rfl; have y6 := ob_neI z6 (a := 6) rfl; have y7 := ob_neI z7 (a := 7) rfl; have y8 := ob_neI z8 (a := 8) rfl; have y9 := ob_neI z9 (a := 9) rfl; have y10 := ob_neI z10 (a := 10) rfl; have y11 := ob_neI z11 (a := 11) rfl; have y12 := ob_neI z12 (a := 12) rfl; have y13 := ob_neI z13 (a := 13) rfl; have y14 := ob_neI z14 (a := 14) rfl; have y15 := ob_neI z15 (a := 15) rfl; have y16 := ob_neI z16 (a := 16) rfl; have y17 := ob_neI z17 (a := 17) rfl; have y18 := ob_neI z18 (a := 18) rfl; have y19 := ob_neI z19 (a := 19) rfl; have y20 := ob_neI z20 (a := 20) rfl; have y21 := ob_neI z21 (a := 21) rfl; have y22 := ob_neI z22 (a := 22) rfl; have y23 := ob_neI z23 (a := 23) rfl; have y24 := ob_neI z24 (a := 24) rfl; have y25 := ob_neI z25 (a := 25) rfl; have y26 := ob_neI z26 (a := 26) rfl; have y27 := ob_neI z27 (a := 27) rfl; have y28 := ob_neI z28 (a := 28) rfl; omega) rfl (kk σx σm hr)
