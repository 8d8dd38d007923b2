/-! CONSTRUCTORS: the world as a list that grows -/
def ob_nl : List (String × Nat × MethodName × String) := [("BoxOnARope", 9, yX3_init, "BoxOnARope"), ("BoxOnARope", 24, yX9_init, "BoxOnARope"), ("BoxOnARope", 31, yX1_init, "BoxOnARope"), ("BoxOnARope", 38, yX5_init, "BoxOnARope"), ("BoxOnARope$Evening", 11, yX6_init, "BoxOnARope"), ("BoxOnARope$Evening", 14, yX8_init, "BoxOnARope"), ("BoxOnARope$Evening", 17, yX4_init, "BoxOnARope"), ("BoxOnARope$Evening", 20, yX0_init, "BoxOnARope"), ("BoxOnARope$Evening", 23, yX2_init, "BoxOnARope"), ("BoxOnARope$Evening", 26, yX7_init, "BoxOnARope"), ("BoxOnARope$Soup", 1, yX6_init, "BoxOnARope"), ("BoxOnARope$Lidded", 1, yX6_init, "BoxOnARope"), ("BoxOnARope$Cold", 1, yX4_init, "BoxOnARope"), ("BoxOnARope$Gravy", 1, yX8_init, "BoxOnARope"), ("BoxOnARope$Roast", 1, yX6_init, "BoxOnARope")]
def ob_N (U : State) : Prop := (∀ q ∈ ob_nl, va_Nw (.methodLinkNest q.1 q.2.1 q.2.2.1 q.2.2.2) U) ∧ va_AO "BoxOnARope$Plain" U
theorem ob_N.warm {s U : State} (hW : s.WarmedH U.vm) (h : ob_N s) : ob_N U := ⟨fun q hq => va_Nw.warmM hW (h.1 q hq), va_AO.moved hW.alike h.2⟩
theorem ob_N.same {u U : State} (hv : u.vm = U.vm) (h : ob_N u) : ob_N U := ⟨fun q hq => va_Nw.same rfl hv (h.1 q hq), va_AO.moved (by rw [hv]; exact Vm.Alike.refl _) h.2⟩
def ob_UCx (g : ob_GT) (mi : ob_MI) (p : Program) (s : State) (m : MethodId) (args : Array Value) (meth : Method) (c : Code) (A : Nat → Prop) : Prop :=
  p.tables.exec = Jvm.exec ∧ c.code = mi.2.2.1 ∧ c.maxLocals = mi.2.2.2.1 ∧ meth.sig.returnType = mi.2.2.2.2.1 ∧ s.vm.findClass mi.1.cls = some m.cls ∧ (∀ x ∈ mi.2.1, x.before args s = true) ∧ meth.locks = false ∧ va_K g.2.1 vwCl (ob_tys g) s ∧ meth.name = "<init>" ∧ (∀ q : Nat, s.heap.size ≤ q → A q) ∧ ob_N s
def ob_UW (g : ob_GT) (ws : va_W) (A : Nat → Prop) (s : State) (H : Heap) (locs : List Loc) : Prop := va_P g.2.1 vwCl ws H ∧ va_D A ws ∧ va_S A s.heap H locs
def ob_QU (g : ob_GT) (fin : va_W → Prop) (A : Nat → Prop) : Array Value → State → Outcome → State → Prop := fun _ st oc t => (oc = .returned none ∧ ∃ ws, fin ws ∧ va_P g.2.1 vwCl ws t.heap ∧ va_K g.2.1 vwCl (ob_tys g) t ∧ va_D A ws) ∧ va_F A st t
def ob_U (g : ob_GT) (mi : ob_MI) (fin : va_W → Prop) (k n : Nat) (ws : va_W) (pc : Nat) (lv : List (Nat × Value)) (st : List Value) : Prop :=
  ∀ (p : Program) (e : Env) (s : State) (m : MethodId) (args : Array Value) (below : List Frame) (meth : Method) (c : Code) (A : Nat → Prop), ob_UCx g mi p s m args meth c A → ∀ (H : Heap) (locs : List Loc) (ls : Array Slot), ob_UW g ws A s H locs → lv_has ls mi.2.2.2.1 lv →
    W p g.1 e mi.2.2.2.2.2 s m args below meth c H locs k n (MQ below (ob_QU g fin A) args s mi.2.2.2.2.2.cells mi.2.2.2.2.2.slots A) (F0 m pc ls st)
def ob_PU (g : ob_GT) (h0 : Nat) (e0 : va_E) (sz : Nat) (U : State) : Prop := U.heap.size = sz ∧ va_P g.2.1 vwCl [(h0, e0)] U.heap ∧ va_K g.2.1 vwCl (ob_tys g) U ∧ va_D (fun _ => True) [(h0, e0)] ∧ ob_N U
def ob_CU (g : ob_GT) (mi : ob_MI) (h0 : Nat) (e0 : va_E) (fin : va_W → Prop) : Prop :=
  ∀ sz : Nat, Met g.1 mi.1 mi.2.1 mi.2.2.2.2.2 (va_Pc [.ref h0] (ob_PU g h0 e0 sz)) (ob_QU g fin (va_A [(h0, e0)] sz)) mi.2.2.2.2.2.cells mi.2.2.2.2.2.slots (va_A [(h0, e0)] sz)
set_option maxHeartbeats 4000000 in
theorem ob_cu {g : ob_GT} {mi : ob_MI} {h0 : Nat} {e0 : va_E} {fin : va_W → Prop} (hy : plainName mi.1.cls = true) (hw : mi.2.1 = Cond.code mi.1 mi.2.2.1 mi.2.2.2.1 mi.2.2.2.2.1 :: mi.2.1.tail) (hn : mi.1.name = "<init>") (hlen : 1 ≤ mi.2.2.2.1)
    (hV : ob_U g mi fin 0 0 [(h0, e0)] 0 [(0, .ref h0)] []) : ob_CU g mi h0 e0 fin := by
  intro sz
  refine Met.ofW (cc := mi.2.2.1) (maxL := mi.2.2.2.1) (ret := mi.2.2.2.2.1) hy hw ?_
  intro p e s m args below meth c s₁ B hml hv
  obtain ⟨rfl, hsz, hP, hK, hD0, hN⟩ := hv
  have hts := atoms_spec (ws := mi.2.1) B.pre
  have hown : s.vm.findClass mi.1.cls = some m.cls := findClass_of_methodNamed B.named
  have hin : meth.name = "<init>" := (name_of_methodNamed B.named B.method).1.trans hn
  subst hsz
  rw [lg_entry_eq]
  have hl := lv_entry ([.ref h0]) (n := mi.2.2.2.1) hlen
  exact hV p e s m _ below meth c (va_A [(h0, e0)] s.heap.size) ⟨B.exec, B.bytes, hml, B.returns, hown, hts, B.notSynchronized, hK, hin, fun q h => Or.inr h, hN⟩ s.heap [] _ ⟨hP, hD0.self, va_S.rf⟩ hl
section OBU
variable {g : ob_GT} {mi : ob_MI} {fin : va_W → Prop} {k n : Nat} {ws : va_W} {pc : Nat} {lv : List (Nat × Value)} {st : List Value}
theorem uu_aload0 {x : Nat} (hd : decode mi.2.2.1 pc = .ok (.aload_n 0, 1)) (hk : lv[0]? = some (0, .ref x)) (pc' : Nat) (hp : pc + 1 = pc') (kk : ob_U g mi fin k n ws pc' lv (.ref x :: st)) : ob_U g mi fin k n ws pc lv st := by
  subst hp
  intro p e s m args below meth c A C H locs ls hW hl
  exact lv_aload_n C.1 C.2.1 hd rfl (lv_at hl 0 hk) (kk p e s m args below meth c A C H locs ls hW hl)
theorem uu_iconst {z : Int} (hd : decode mi.2.2.1 pc = .ok (.iconst z, 1)) (v : Int32) (hv : Int32.ofInt z = v) (pc' : Nat) (hp : pc + 1 = pc') (kk : ob_U g mi fin k n ws pc' lv (.int v :: st)) : ob_U g mi fin k n ws pc lv st := by
  subst hp
  intro p e s m args below meth c A C H locs ls hW hl
  exact lv_iconst C.1 C.2.1 hd hv (kk p e s m args below meth c A C H locs ls hW hl)
theorem uu_bipush {z : Int} (hd : decode mi.2.2.1 pc = .ok (.bipush z, 2)) (v : Int32) (hv : (Int8.ofInt z).toInt32 = v) (pc' : Nat) (hp : pc + 2 = pc') (kk : ob_U g mi fin k n ws pc' lv (.int v :: st)) : ob_U g mi fin k n ws pc lv st := by
  subst hp
  intro p e s m args below meth c A C H locs ls hW hl
  exact lv_bipush C.1 C.2.1 hd hv (kk p e s m args below meth c A C H locs ls hW hl)
theorem uu_dup {a : Value} (hd : decode mi.2.2.1 pc = .ok (.dup, 1)) (ha : a.category = 1) (pc' : Nat) (hp : pc + 1 = pc') (kk : ob_U g mi fin k n ws pc' lv (a :: a :: st)) : ob_U g mi fin k n ws pc lv (a :: st) := by
  subst hp
  intro p e s m args below meth c A C H locs ls hW hl
  exact lv_dup C.1 C.2.1 hd ha (kk p e s m args below meth c A C H locs ls hW hl)
theorem uu_obj {x idx : Nat} (hd : decode mi.2.2.1 pc = .ok (.invokespecial idx, 3)) (h1 : Cond.methodLink mi.1.cls idx Lib.objectInit ∈ mi.2.1) (h2 : Cond.instanceMethod Lib.objectInit ∈ mi.2.1) (h3 : Cond.code Lib.objectInit ⟨#[0xb1]⟩ 1 none ∈ mi.2.1) (hr : 1 ≤ mi.2.2.2.2.2.frames) (hlo : (st.map fun v => v.category).sum + 12 ≤ mi.2.2.2.2.2.locals) (pc' : Nat) (hp : pc + 3 = pc') (kk : ob_U g mi fin k n ws pc' lv st) : ob_U g mi fin k n ws pc lv (.ref x :: st) := by
  subst hp
  intro p e s m args below meth c A C H locs ls hW hl
  have hts := C.2.2.2.2.2.1
  refine W.objInit C.1 C.2.1 C.2.2.2.2.1 (hts _ h1) (hts _ h2) (hts _ h3) rfl (hl.1.trans C.2.2.1.symm) rfl hd hr (by show 2 * 0 + _ + 12 ≤ _; omega) ?_
  exact kk p e s m args below meth c A C H locs ls hW hl
theorem uu_newi (ws' : va_W → Nat → va_W) (N : Nat) {x : Int32} (hd : decode mi.2.2.1 pc = .ok (.newarray .int, 2)) (h1 : Cond.arrayClass .int ∈ mi.2.1) (hx : ¬ x < 0 ∧ x.toNatClampNeg = N ∧ N * 4 ≤ 536870912) (hr : k + 1 ≤ mi.2.2.2.2.2.cells ∧ n + N ≤ mi.2.2.2.2.2.slots) (pc' : Nat) (hp : pc + 2 = pc') (k' n' : Nat) (hkn : k + 1 = k' ∧ n + N = n') (hws : ∀ q, ws ++ [(q, .inl (g.2.2.1, N, .inl (fun _ => 0)))] = ws' ws q) (kk : ∀ q : Nat, ob_U g mi fin k' n' (ws' ws q) pc' lv (.ref q :: st)) : ob_U g mi fin k n ws pc lv (.int x :: st) := by
  obtain ⟨rfl, rfl⟩ := hkn
  subst hp
  intro p e s m args below meth c A C H locs ls hW hl
  have hts := C.2.2.2.2.2.1
  have hK := C.2.2.2.2.2.2.2.1
  refine va_newa (atype := .int) (ty := .int) (a0 := (N, .inl (fun _ => 0))) C.1 C.2.1 (hts _ h1) rfl hK hW.1 hW.2.1 hW.2.2 C.2.2.2.2.2.2.2.2.2.1 (fun _ => rfl) hx.1 hx.2.1 hx.2.2 hr.1 hr.2 hd (fun q cA H1 hK1 hP1 hD1 hS1 => ?_)
  have h2 : (s.vm.findClass ("[" ++ FieldType.int.toString)) = some cA := (hK1.2 2 (cA, .int) rfl).2
  have h3 : (s.vm.findClass ("[" ++ FieldType.int.toString)) = some g.2.2.1 := (hK.2 0 (g.2.2.1, .int) rfl).2
  have h4 : cA = g.2.2.1 := Option.some.inj (h2.symm.trans h3)
  subst h4
  rw [hws q] at hP1 hD1
  exact kk q p e s m args below meth c A C H1 locs ls ⟨hP1, hD1, hS1⟩ hl
theorem uu_newq (N : Nat) {idx : Nat} {x : Int32} (hd : decode mi.2.2.1 pc = .ok (.anewarray idx, 3)) (h1 : Cond.classLink mi.1.cls idx "BoxOnARope$Plain" ∈ mi.2.1) (hx : ¬ x < 0 ∧ x.toNatClampNeg = N ∧ N * 4 ≤ 536870912) (hr : k + 1 ≤ mi.2.2.2.2.2.cells ∧ n + N ≤ mi.2.2.2.2.2.slots) (pc' : Nat) (hp : pc + 3 = pc') (k' n' : Nat) (hkn : k + 1 = k' ∧ n + N = n') (ws' : Nat → va_W) (hws : ∀ q, ws ++ [(q, .inl (g.2.2.2.1, N, .inr (.inr (.inr (.inr (fun _ => none))))))] = ws' q) (kk : ∀ q : Nat, ob_U g mi fin k' n' (ws' q) pc' lv (.ref q :: st)) : ob_U g mi fin k n ws pc lv (.int x :: st) := by
  obtain ⟨rfl, rfl⟩ := hkn
  subst hp
  intro p e s m args below meth c A C H locs ls hW hl
  have hts := C.2.2.2.2.2.1
  have hK := C.2.2.2.2.2.2.2.1
  refine va_newq (C := "BoxOnARope$Plain") C.1 C.2.1 C.2.2.2.2.1 (hts _ h1) C.2.2.2.2.2.2.2.2.2.2.2 hK hW.1 hW.2.1 hW.2.2 C.2.2.2.2.2.2.2.2.2.1 hx.1 hx.2.1 hx.2.2 hr.1 hr.2 hd (fun q cA H1 hK1 hP1 hD1 hS1 => ?_)
  obtain ⟨kA, comp, -, -, -, h2⟩ := (hK1.2 2 (cA, .object "BoxOnARope$Plain") rfl).2
  obtain ⟨kB, compB, -, -, -, h3⟩ := (hK.2 1 (g.2.2.2.1, .object "BoxOnARope$Plain") rfl).2
  have h4 : cA = g.2.2.2.1 := Option.some.inj (h2.symm.trans h3)
  subst h4
  rw [hws q] at hP1 hD1
  exact kk q p e s m args below meth c A C H1 locs ls ⟨hP1, hD1, hS1⟩ hl
/-- a final field takes a reference -/
theorem uu_putR (q0 : Nat) (ws' : va_W) {a ci idx : Nat} {fs : List Value} {v : Nat} {C0 : String} {T : u_T} {N : Nat} {ty : FieldType} (j : Nat) (ty0 : Nat → FieldType) (hd : decode mi.2.2.1 pc = .ok (.putfield idx, 3)) (he : ws[q0]? = some (a, .inr (ci, fs))) (hc : vwCl[ci]? = some (C0, T, N)) (hj : j < N) (hin : ∀ x ∈ u_ws C0 T N, x ∈ mi.2.1) (hty : ∀ k, k < N → parseFieldDescriptor (T k).2.2.1 = some (ty0 k)) (hnm : ∀ a, a < N → ∀ b, b < N → a ≠ b → (T a).2.1 ≠ (T b).2.1) (hl1 : Cond.fieldLink mi.1.cls idx (T j).1 (T j).2.1 (T j).2.2.1 ∈ mi.2.1) (hf : (T j).2.2.2 = true) (hdc : (T j).1 = mi.1.cls) (hpd : parseFieldDescriptor (T j).2.2.1 = some ty) (hn : narrow ty (.ref v) = .ref v) (hft : fits ty (.ref v) = true) (hfl : j < fs.length) (pc' : Nat) (hp : pc + 3 = pc') (hws : ws.set q0 (a, .inr (ci, fs.set j (.ref v))) = ws') (kk : ob_U g mi fin k n ws' pc' lv st) : ob_U g mi fin k n ws pc lv (.ref v :: .ref a :: st) := by
  subst hp
  subst hws
  intro p e s m args below meth c A C H locs ls hW hl
  have hts := C.2.2.2.2.2.1
  exact va_putF (D := g.2.1) (cl := vwCl) (ci := ci) (C := C0) (T := T) (N := N) (v := .ref v) (ty := ty) C.1 C.2.1 hts hin ty0 hty hnm C.2.2.2.2.1 C.2.2.2.2.2.2.2.1 hW.1 hW.2.1 hW.2.2 q0 he hc j hj (hts _ hl1) (fun _ h => h) hf C.2.2.2.2.2.2.2.2.1 hdc hpd hn hft hfl hd (fun H1 locs1 hP hD hS => kk p e s m args below meth c A C H1 locs1 ls ⟨hP, hD, hS⟩ hl)
theorem uu_getR (q0 : Nat) {a ci idx : Nat} {fs : List Value} {v : Value} {C0 : String} {T : u_T} {N : Nat} (j : Nat) (hd : decode mi.2.2.1 pc = .ok (.getfield idx, 3)) (he : ws[q0]? = some (a, .inr (ci, fs))) (hc : vwCl[ci]? = some (C0, T, N)) (hj : j < N) (hin : ∀ x ∈ u_ws C0 T N, x ∈ mi.2.1) (hl1 : Cond.fieldLink mi.1.cls idx (T j).1 (T j).2.1 (T j).2.2.1 ∈ mi.2.1) (hv : fs[j]? = some v) (pc' : Nat) (hp : pc + 3 = pc') (kk : ob_U g mi fin k n ws pc' lv (v :: st)) : ob_U g mi fin k n ws pc lv (.ref a :: st) := by
  subst hp
  intro p e s m args below meth c A C H locs ls hW hl
  have hts := C.2.2.2.2.2.1
  exact va_get (D := g.2.1) (cl := vwCl) (ci := ci) (C := C0) (T := T) (N := N) C.1 C.2.1 hts hin C.2.2.2.2.1 C.2.2.2.2.2.2.2.1 hW.1 q0 he hc j hj (hts _ hl1) (fun _ h => h) hv hd (kk p e s m args below meth c A C H locs ls hW hl)
theorem uu_iast (q0 : Nat) (ws' : va_W) {a N : Nat} {f : Nat → Int32} {i x : Int32} (hd : decode mi.2.2.1 pc = .ok (.iastore, 1)) (he : ws[q0]? = some (a, .inl (g.2.2.1, N, .inl f))) (hi : vp_in i N) (pc' : Nat) (hp : pc + 1 = pc') (hws : ws.set q0 (a, .inl (g.2.2.1, N, .inl (upd f i.toNatClampNeg x))) = ws') (kk : ob_U g mi fin k n ws' pc' lv st) : ob_U g mi fin k n ws pc lv (.int x :: .int i :: .ref a :: st) := by
  subst hp
  subst hws
  intro p e s m args below meth c A C H locs ls hW hl
  exact va_iast C.1 C.2.1 C.2.2.2.2.2.2.2.1 hW.1 hW.2.1 hW.2.2 q0 0 he rfl hi hd (fun H1 locs1 hP hD hS => kk p e s m args below meth c A C H1 locs1 ls ⟨hP, hD, hS⟩ hl)
theorem uu_aast (q0 qk ci : Nat) (ws' : va_W) {a N v : Nat} {vs : List Value} {f : Nat → Option Nat} {C0 : String} {T : u_T} {N0 : Nat} {i : Int32} (hd : decode mi.2.2.1 pc = .ok (.aastore, 1)) (he : ws[q0]? = some (a, .inl (g.2.2.2.1, N, .inr (.inr (.inr (.inr f)))))) (hv : ws[qk]? = some (v, .inr (ci, vs))) (hc : vwCl[ci]? = some (C0, T, N0)) (hca : C0 = "BoxOnARope$Plain" ∨ Cond.castable C0 "BoxOnARope$Plain" ∈ mi.2.1) (hi : vp_in i N) (pc' : Nat) (hp : pc + 1 = pc') (hws : ws.set q0 (a, .inl (g.2.2.2.1, N, .inr (.inr (.inr (.inr (va_up f i.toNatClampNeg (some v))))))) = ws') (kk : ob_U g mi fin k n ws' pc' lv st) : ob_U g mi fin k n ws pc lv (.ref v :: .int i :: .ref a :: st) := by
  subst hp
  subst hws
  intro p e s m args below meth c A C H locs ls hW hl
  have hK := C.2.2.2.2.2.2.2.1
  rcases hca with rfl | hca
  · exact va_astq (r := ("BoxOnARope$Plain", T, N0)) C.1 C.2.1 hK hW.1 hW.2.1 hW.2.2 q0 1 qk ci he rfl hv hc hi hd (fun H1 locs1 hP hD hS => kk p e s m args below meth c A C H1 locs1 ls ⟨hP, hD, hS⟩ hl)
  · exact va_astqO (E := "BoxOnARope$Plain") (r := (C0, T, N0)) C.1 C.2.1 hK hW.1 hW.2.1 hW.2.2 q0 1 qk ci he rfl (va_Nw.of rfl (C.2.2.2.2.2.1 _ hca)) hv hc hi hd (fun H1 locs1 hP hD hS => kk p e s m args below meth c A C H1 locs1 ls ⟨hP, hD, hS⟩ hl)
theorem uu_new (ci : Nat) (fs : List Value) (ws' : Nat → va_W) {idx : Nat} {C0 : String} {T : u_T} {N : Nat} (ty : Nat → FieldType) (hd : decode mi.2.2.1 pc = .ok (.new idx, 3)) (hc : vwCl[ci]? = some (C0, T, N)) (hin : ∀ x ∈ u_ws C0 T N, x ∈ mi.2.1) (hty : ∀ k, k < N → parseFieldDescriptor (T k).2.2.1 = some (ty k)) (h1 : Cond.classLink mi.1.cls idx C0 ∈ mi.2.1) (h2 : Cond.instantiable C0 N ∈ mi.2.1) (h3 : Cond.initialized C0 ∈ mi.2.1) (hfs : ∀ j, j < N → defaultValue (ty j) = vp_V fs j) (hr : k + 1 ≤ mi.2.2.2.2.2.cells ∧ n + N ≤ mi.2.2.2.2.2.slots) (pc' : Nat) (hp : pc + 3 = pc') (k' n' : Nat) (hkn : k + 1 = k' ∧ n + N = n') (hws : ∀ q, ws ++ [(q, .inr (ci, fs))] = ws' q) (kk : ∀ q : Nat, ob_U g mi fin k' n' (ws' q) pc' lv (.ref q :: st)) : ob_U g mi fin k n ws pc lv st := by
  obtain ⟨rfl, rfl⟩ := hkn
  subst hp
  intro p e s m args below meth c A C H locs ls hW hl
  have hts := C.2.2.2.2.2.1
  refine va_new (ci := ci) (fs := fs) (C := C0) (T := T) (N := N) C.1 C.2.1 hts hin ty hty C.2.2.2.2.1 (hts _ h1) (hts _ h2) (hts _ h3) C.2.2.2.2.2.2.2.1 hW.1 hW.2.1 hW.2.2 C.2.2.2.2.2.2.2.2.2.1 hc hfs hr.1 hr.2 hd (fun q H1 hP hD hS => ?_)
  rw [hws q] at hP hD
  exact kk q p e s m args below meth c A C H1 locs ls ⟨hP, hD, hS⟩ hl
theorem ob_join {A0 : Nat → Prop} {D : va_G} {wr wc w1 : va_W} {H H1 : Heap} (hP : va_P D vwCl (wr ++ wc) H) (hD : va_D A0 (wr ++ wc)) (hk : ∀ q : Nat, q < H.size → ¬ va_A wc H.size q → H1[q]? = H[q]?) (hF : ∀ q, va_A wc H.size q → A0 q) (hP1 : va_P D vwCl w1 H1) (hD1 : va_D (va_A wc H.size) w1) : va_P D vwCl (wr ++ w1) H1 ∧ va_D A0 (wr ++ w1) := by
  have ap : ∀ (k : Nat) (q : Nat × va_E), wr[k]? = some q → q.1 < H.size ∧ ¬ va_A wc H.size q.1 := by
    intro k q hq
    have hkl : k < wr.length := (List.getElem?_eq_some_iff.mp hq).1
    have hq' : (wr ++ wc)[k]? = some q := by rw [List.getElem?_append_left hkl]; exact hq
    have hl := (hP k q hq').lt
    refine ⟨hl, fun h => ?_⟩
    rcases h with ⟨k2, e, h⟩ | h
    · have h2 : (wr ++ wc)[wr.length + k2]? = some (q.1, e) := by rw [List.getElem?_append_right (by omega), show wr.length + k2 - wr.length = k2 from by omega]; exact h
      have := hD.1 k (wr.length + k2) q (q.1, e) hq' h2 rfl
      omega
    · omega
  refine ⟨va_P.app (fun k q hq => ?_) hP1, va_D.app ⟨fun i j x y hx hy hxy => ?_, fun k q hq => ?_⟩ (hD1.weaken (fun k q _ h => hF q.1 h)) (fun i j x y hx hy hxy => ?_)⟩
  · have hkl : k < wr.length := (List.getElem?_eq_some_iff.mp hq).1
    have hq' : (wr ++ wc)[k]? = some q := by rw [List.getElem?_append_left hkl]; exact hq
    obtain ⟨g1, g2⟩ := ap k q hq
    exact (hP k q hq').kept (hk q.1 g1 g2)
  · have h1 : i < wr.length := (List.getElem?_eq_some_iff.mp hx).1
    have h2 : j < wr.length := (List.getElem?_eq_some_iff.mp hy).1
    exact hD.1 i j x y (by rw [List.getElem?_append_left h1]; exact hx) (by rw [List.getElem?_append_left h2]; exact hy) hxy
  · have h1 : k < wr.length := (List.getElem?_eq_some_iff.mp hq).1
    exact hD.2 k q (by rw [List.getElem?_append_left h1]; exact hq)
  · exact (ap i x hx).2 (by rw [hxy]; exact hD1.2 j y hy)
/-- new C(): the constructor of the object that was made last -/
theorem uu_init {mj : ob_MI} {q idx : Nat} {e : va_E} {wr : va_W} {fin1 : va_W → Prop} {host : String} (hd : decode mi.2.2.1 pc = .ok (.invokespecial idx, 3)) (hc : ob_CU g mj q e fin1) (hG : GoodIn mi.2.1 mj.2.1) (hw : mj.2.1 = Cond.code mj.1 mj.2.2.1 mj.2.2.2.1 none :: mj.2.1.tail) (hnl : (mi.1.cls, idx, mj.1, host) ∈ ob_nl) (h1 : Cond.initialized mj.1.cls ∈ mi.2.1) (h2 : Cond.instanceMethod mj.1 ∈ mi.2.1) (hnm : mj.1.name = "<init>") (h5 : mj.1.cls ≠ "java/lang/invoke/MethodHandle" ∧ mj.1.cls ≠ "java/lang/invoke/VarHandle" ∧ (parseMethodDescriptor mj.1.desc).map (fun d => d.parameters.length) = some 0) (h6 : mj.2.2.2.2.2.frames + 1 ≤ mi.2.2.2.2.2.frames ∧ 8 + (mj.2.2.2.1 + 11) + mj.2.2.2.2.2.locals ≤ mi.2.2.2.2.2.locals) (hr : k + mj.2.2.2.2.2.cells ≤ mi.2.2.2.2.2.cells ∧ n + mj.2.2.2.2.2.slots ≤ mi.2.2.2.2.2.slots)
    (hro : (st.map fun v => v.category).sum ≤ 8) (pc' : Nat) (hp : pc + 3 = pc') (k' n' : Nat) (hkn : k + mj.2.2.2.2.2.cells = k' ∧ n + mj.2.2.2.2.2.slots = n') (hws : ws = wr ++ [(q, e)]) (kk : ∀ w1, fin1 w1 → ob_U g mi fin k' n' (wr ++ w1) pc' lv st) : ob_U g mi fin k n ws pc lv (.ref q :: st) := by
  obtain ⟨rfl, rfl⟩ := hkn
  subst hp
  subst hws
  intro p e0 s m args below meth c A C H locs ls hW hl
  obtain ⟨hP, hD, hS⟩ := hW
  have hts := C.2.2.2.2.2.1
  have hN := C.2.2.2.2.2.2.2.2.2.2
  have hA := C.2.2.2.2.2.2.2.2.2.1
  have hK := C.2.2.2.2.2.2.2.1
  have hlast : (wr ++ [(q, e)])[wr.length]? = some (q, e) := by simp
  have hPc : va_P g.2.1 vwCl [(q, e)] H := fun k x hx => by
    have hk0 : k < 1 := (List.getElem?_eq_some_iff.mp hx).1
    rw [show k = 0 by omega] at hx
    cases hx
    exact hP wr.length _ hlast
  have hDc : va_D (fun _ => True) [(q, e)] := ⟨fun i j x y hx hy _ => by
    have h1 : i < 1 := (List.getElem?_eq_some_iff.mp hx).1
    have h2 : j < 1 := (List.getElem?_eq_some_iff.mp hy).1
    omega, fun _ _ _ => trivial⟩
  have hFc : ∀ z, va_A [(q, e)] H.size z → A z := by
    intro z hz
    rcases hz with ⟨k, e', h⟩ | h
    · have h1 : k < 1 := (List.getElem?_eq_some_iff.mp h).1
      rw [show k = 0 by omega] at h
      cases h
      exact hD.2 wr.length _ hlast
    · exact hA z (Nat.le_trans hS.1 h)
  have cw : va_CN mi.2.2.2.2.2 s args mi.1.cls idx mj.1 host mj.2.2.1 mj.2.2.2.1 none mj.2.1 mj.2.2.2.2.2 mj.2.2.2.2.2.cells mj.2.2.2.2.2.slots 0 := va_cnB 0 hts hG hw rfl rfl (hN.1 _ hnl) (hts _ h1) h5 h6
  have hrun := va_runIN (As := []) (rest := st) (b := q) (p := p) (l := g.1) (e := e0) (below := below) (meth := meth) (H := H) (locs := locs) (cells := k) (slots := n) (g := F0 m pc ls (.ref q :: st)) ⟨C.1, C.2.1, C.2.2.1, C.2.2.2.2.1, hts⟩ (hc H.size) ⟨cw, hnm, hts _ h2⟩
    ⟨fun a U f mk z => by
        obtain ⟨z0, z1, z2, z3, z4, z5⟩ := z
        exact ⟨z0, z1, z2, va_K.moved (u := U) (U := U.calling f mk a) (Vm.Alike.refl U.vm) z3, z4, ob_N.same (u := U) rfl z5⟩,
      fun U hU hw2 => ⟨rfl, by rw [hU], by rw [hU]; exact hPc, va_K.moved hw2.alike hK, hDc, ob_N.warm hw2 hN⟩⟩ rfl rfl hl.1 rfl (lv_room hro) hd hr
  intro T hT X
  obtain ⟨v, st₀, t, T', L, h0, X', hL, e1, e2, ⟨⟨hv, w1, hfin, hP1, hK1, hD1⟩, hz, hk⟩, stp⟩ := hrun T hT X
  cases hv
  rw [h0] at hz hk
  obtain ⟨hPj, hDj⟩ := ob_join (H1 := t.heap) hP hD hk hFc hP1 hD1
  rw [← e1] at hPj
  obtain ⟨t2, a1, b1⟩ := kk w1 hfin p e0 s m args below meth c A C T'.heap (locs ++ L) ls ⟨hPj, hDj, Nat.le_trans hS.1 (by rw [e1]; exact hz), fun z g1 g2 => by rw [e1, hk z (Nat.lt_of_lt_of_le g1 hS.1) (fun y => g2 (hFc z y))]; exact hS.2.1 z g1 g2, fun z hz2 => by
      rcases List.mem_append.mp hz2 with h | h
      · exact hS.2.2 z h
      · exact hFc _ (hL z h)⟩ hl T' rfl X'
  exact ⟨t2, stp t2 a1, b1⟩
/-- super(): an own superclass's constructor, on this (which is the whole world yet) -/
theorem uu_sup {mj : ob_MI} {q idx : Nat} {e : va_E} {fin1 : va_W → Prop} {host : String} (hd : decode mi.2.2.1 pc = .ok (.invokespecial idx, 3)) (hc : ob_CU g mj q e fin1) (hG : GoodIn mi.2.1 mj.2.1) (hw : mj.2.1 = Cond.code mj.1 mj.2.2.1 mj.2.2.2.1 none :: mj.2.1.tail) (hnl : (mi.1.cls, idx, mj.1, host) ∈ ob_nl) (h1 : Cond.initialized mj.1.cls ∈ mi.2.1) (h2 : Cond.instanceMethod mj.1 ∈ mi.2.1) (hnm : mj.1.name = "<init>") (h5 : mj.1.cls ≠ "java/lang/invoke/MethodHandle" ∧ mj.1.cls ≠ "java/lang/invoke/VarHandle" ∧ (parseMethodDescriptor mj.1.desc).map (fun d => d.parameters.length) = some 0) (h6 : mj.2.2.2.2.2.frames + 1 ≤ mi.2.2.2.2.2.frames ∧ 8 + (mj.2.2.2.1 + 11) + mj.2.2.2.2.2.locals ≤ mi.2.2.2.2.2.locals) (hr : k + mj.2.2.2.2.2.cells ≤ mi.2.2.2.2.2.cells ∧ n + mj.2.2.2.2.2.slots ≤ mi.2.2.2.2.2.slots)
    (hro : (st.map fun v => v.category).sum ≤ 8) (pc' : Nat) (hp : pc + 3 = pc') (k' n' : Nat) (hkn : k + mj.2.2.2.2.2.cells = k' ∧ n + mj.2.2.2.2.2.slots = n') (hws : ws = [(q, e)]) (kk : ∀ w1, fin1 w1 → ob_U g mi fin k' n' w1 pc' lv st) : ob_U g mi fin k n ws pc lv (.ref q :: st) :=
  uu_init (wr := []) hd hc hG hw hnl h1 h2 hnm h5 h6 hr hro pc' hp k' n' hkn hws kk
theorem uu_ret (hr : mi.2.2.2.2.1 = none) (hd : decode mi.2.2.1 pc = .ok (.return_, 1)) (hk : k ≤ mi.2.2.2.2.2.cells ∧ n ≤ mi.2.2.2.2.2.slots) (hf : fin ws) : ob_U g mi fin k n ws pc lv [] := by
  intro p e s m args below meth c A C H locs ls hW hl
  refine W.widen hk.1 hk.2 ?_
  exact W.vret C.1 C.2.1 (C.2.2.2.1.trans hr) (fun t ht hW2 => ⟨⟨rfl, ws, hf, by rw [ht]; exact hW.1, va_K.moved hW2.alike C.2.2.2.2.2.2.2.1, hW.2.1⟩, hW.2.2.F ht⟩) hW.2.2.2.2 hd C.2.2.2.2.2.2.1
end OBU
