theorem tw_69 : (Jvm.Cond.methodLink "BoxOnARopeLaw" (9 : Nat) ({ cls := "BoxOnARope", name := "<init>", desc := "()V" } : Jvm.MethodName)) ∈ ob_all := ob_allI 69 (by decide +kernel) (by decide +kernel)
theorem tw_70 : (Jvm.Cond.instanceMethod ({ cls := "BoxOnARope", name := "<init>", desc := "()V" } : Jvm.MethodName)) ∈ ob_all := ob_allI 70 (by decide +kernel) (by decide +kernel)
theorem tw_71 : (Jvm.Cond.code ({ cls := "BoxOnARope", name := "<init>", desc := "()V" } : Jvm.MethodName) prog_1_method_1_code (1 : Nat) (Option.none : Option Jvm.ClassFile.FieldType)) ∈ ob_all := ob_allI 71 (by decide +kernel) (by decide +kernel)
theorem tw_754 : (Jvm.Cond.methodLink "BoxOnARopeLaw" (12 : Nat) ({ cls := "BoxOnARopeModel", name := "<init>", desc := "()V" } : Jvm.MethodName)) ∈ ob_all := ob_allI 754 (by decide +kernel) (by decide +kernel)
theorem tw_755 : (Jvm.Cond.instanceMethod ({ cls := "BoxOnARopeModel", name := "<init>", desc := "()V" } : Jvm.MethodName)) ∈ ob_all := ob_allI 755 (by decide +kernel) (by decide +kernel)
theorem tw_756 : (Jvm.Cond.code ({ cls := "BoxOnARopeModel", name := "<init>", desc := "()V" } : Jvm.MethodName) prog_13_method_1_code (1 : Nat) (Option.none : Option Jvm.ClassFile.FieldType)) ∈ ob_all := ob_allI 756 (by decide +kernel) (by decide +kernel)
/-- what holds at the law's entry -/
def lw_At (p : Program) (s : State) (m : MethodId) (meth : Method) (c : Code) (b L : Nat) (xs : Nat → Int32) : Prop :=
  p.tables.exec = Jvm.exec ∧ c.code = code ∧ meth.sig.returnType = ret ∧ c.maxLocals = 4 ∧ s.vm.findClass R_law = some m.cls ∧ (∀ w ∈ lw_tbl, w.before #[Value.ref b] s = true) ∧ va_X b L xs s s.heap ∧ b < s.heap.size ∧ meth.locks = false ∧ (Jvm.Cond.and given_1 narrow_1).before #[Value.ref b] s = true
def ob_ti (i : Nat) : Nat := match i with
  | 0 => 19
  | 1 => 21
  | 2 => 23
  | 3 => 25
  | 4 => 27
  | 5 => 29
  | _ => 31
def ob_tm (i : Nat) : Term := .string "BoxOnARope$Telling" (ob_ti i)
theorem ob_f1 : ∀ i, i < 7 → Cond.exactly (ob_tm i) "java/lang/String" ∈ flatC (Jvm.Cond.and given_1 narrow_1) := by decide +kernel
theorem ob_f2 : ∀ i, i < 7 → Cond.eq (.field (ob_tm i) "java/lang/String" "coder" "B") (.int 0) ∈ flatC (Jvm.Cond.and given_1 narrow_1) := by decide +kernel
theorem ob_f3 : ∀ i, i < 7 → Cond.arrayOf (.field (ob_tm i) "java/lang/String" "value" "[B") .byte ∈ flatC (Jvm.Cond.and given_1 narrow_1) := by decide +kernel
theorem ob_f4 : ∀ i, i < 7 → Cond.eq (.length (.field (ob_tm i) "java/lang/String" "value" "[B")) (.int (Int32.ofNat (ob_txn.getD i 0))) ∈ flatC (Jvm.Cond.and given_1 narrow_1) := by decide +kernel
theorem ob_f5 : ∀ i, i < 7 → ∀ j, j < ob_txn.getD i 0 → Cond.eq (.elem (.field (ob_tm i) "java/lang/String" "value" "[B") (.int (Int32.ofNat j))) (.int ((ob_txl.getD i []).getD j 0)) ∈ flatC (Jvm.Cond.and given_1 narrow_1) := by decide +kernel
theorem ob_f6 : ∀ i, i < 7 → ∀ j, j < 7 → i ≠ j → (Cond.not (Cond.eq (ob_tm i) (ob_tm j)) ∈ flatC (Jvm.Cond.and given_1 narrow_1) ∨ Cond.not (Cond.eq (ob_tm j) (ob_tm i)) ∈ flatC (Jvm.Cond.and given_1 narrow_1)) := by decide +kernel
theorem ob_f7 : ∀ i, i < 7 → ob_txn.getD i 0 < 2 ^ 31 := by decide +kernel
theorem ob_f8LEAST : ∀ j, j < 6 → Cond.eq (.elem (.static "BoxOnARope" "LEAST" "[I") (.int (Int32.ofNat j))) (.int (ob_least j)) ∈ flatC (Jvm.Cond.and given_1 narrow_1) := by decide +kernel
theorem ob_f8GREATEST : ∀ j, j < 6 → Cond.eq (.elem (.static "BoxOnARope" "GREATEST" "[I") (.int (Int32.ofNat j))) (.int (ob_great j)) ∈ flatC (Jvm.Cond.and given_1 narrow_1) := by decide +kernel
theorem ob_f9 : ∀ q ∈ ob_nl, Cond.methodLinkNest q.1 q.2.1 q.2.2.1 q.2.2.2 ∈ lw_tbl := by decide +kernel
theorem ob_f10 : ∀ q ∈ ob_cl, Cond.castable q "BoxOnARope$Plain" ∈ lw_tbl := by decide +kernel
set_option maxRecDepth 100000 in
set_option maxHeartbeats 8000000 in
theorem ob_facts {p : Program} {s : State} {m : MethodId} {meth : Method} {c : Code} (l : Launch) {b L : Nat} {xs : Nat → Int32} (hL : L ≤ 1536) (C0 : lw_At p s m meth c b L xs) : ∃ g : ob_GT, g.1 = l ∧ ob_LC p s m meth c b L xs g ∧ ob_N s := by
  obtain ⟨hx, hb, hr, hml, hown, hts, hX, hbl, hlocks, hgv⟩ := C0
  have hs := flat_of_before _ hgv
  have hA : ∀ a : Nat, a < s.heap.size → ¬ (fun q : Nat => s.heap.size ≤ q) a := fun a h => Nat.not_le.mpr h
  obtain ⟨adK, adV, hvk, hev⟩ := vk_Sof (N := 7) (tm := ob_tm) (len := ob_txn) (byt := ob_txl) (A := fun q : Nat => s.heap.size ≤ q) ob_f7 (fun i hi => hs _ (ob_f1 i hi)) (fun i hi => hs _ (ob_f2 i hi)) (fun i hi => hs _ (ob_f3 i hi)) (fun i hi => hs _ (ob_f4 i hi)) (fun i hi j hj => hs _ (ob_f5 i hi j hj)) (fun i j hi hj hn => (ob_f6 i hi j hj hn).elim (fun h => Or.inl (hs _ h)) (fun h => Or.inr (hs _ h))) hA
  have hCS : va_Z "java/lang/String" "COMPACT_STRINGS" "Z" (.int 1) (fun q : Nat => s.heap.size ≤ q) s s.heap := va_Zof (hts _ (List.mem_of_getElem? (i := 313) (by decide +kernel))) (hts _ (List.mem_of_getElem? (i := 60) (by decide +kernel))) (va_eqt (hs _ (by decide +kernel))) hA
  have hSI : va_Zq "jdk/internal/util/Preconditions" "SIOOBE_FORMATTER" "Ljava/util/function/BiFunction;" (fun q : Nat => s.heap.size ≤ q) s s.heap := va_Zqof (hts _ (List.mem_of_getElem? (i := 341) (by decide +kernel))) (hts _ (List.mem_of_getElem? (i := 62) (by decide +kernel))) (hs _ (by decide +kernel)) hA
  obtain ⟨tL, hL1, hL2⟩ := va_Tof (tm := .static "BoxOnARope" "LEAST" "[I") (ty := .int) (N := 6) (f := fun j => .int (ob_least j)) (by decide) (hs _ (by decide +kernel)) (va_eqt (hs _ (by decide +kernel))) (fun j hj => va_eqt (hs _ (ob_f8LEAST j hj))) hA
  obtain ⟨tG, hG1, hG2⟩ := va_Tof (tm := .static "BoxOnARope" "GREATEST" "[I") (ty := .int) (N := 6) (f := fun j => .int (ob_great j)) (by decide) (hs _ (by decide +kernel)) (va_eqt (hs _ (by decide +kernel))) (fun j hj => va_eqt (hs _ (ob_f8GREATEST j hj))) hA
  have hini : (Cond.initialized "BoxOnARope").before #[Value.ref b] s = true := hts _ (List.mem_of_getElem? (i := 48) (by decide +kernel))
  have hZL : va_Z "BoxOnARope" "LEAST" "[I" (.ref tL) (fun q : Nat => s.heap.size ≤ q) s s.heap := va_Zof (hts _ (List.mem_of_getElem? (i := 458) (by decide +kernel))) hini hL1 hA
  have hZG : va_Z "BoxOnARope" "GREATEST" "[I" (.ref tG) (fun q : Nat => s.heap.size ≤ q) s s.heap := va_Zof (hts _ (List.mem_of_getElem? (i := 460) (by decide +kernel))) hini hG1 hA
  have hM : (Term.string "BoxOnARopeModel" 84).eval #[Value.ref b] s none [] s = some (.ref (adK 6)) := va_eqR (t := ob_tm 6) (hs _ (by decide +kernel)) (hev 6 (by decide))
  obtain ⟨c0, i0, k0⟩ := u_known (C := RX0) (T := TX0) (N := 0) (n := 0) hts (fun w h => absurd h List.not_mem_nil) (hts (.instantiable RX0 0) (List.mem_of_getElem? (i := 169) (by decide +kernel)))
  obtain ⟨c1, i1, k1⟩ := u_known (C := RX1) (T := TX1) (N := 11) (n := 11) hts (fun w h => ob_all_tbl (uw_X1 w h)) (hts (.instantiable RX1 11) (List.mem_of_getElem? (i := 141) (by decide +kernel)))
  obtain ⟨c2, i2, k2⟩ := u_known (C := RX2) (T := TX2) (N := 0) (n := 0) hts (fun w h => absurd h List.not_mem_nil) (hts (.instantiable RX2 0) (List.mem_of_getElem? (i := 176) (by decide +kernel)))
  obtain ⟨c3, i3, k3⟩ := u_known (C := RX3) (T := TX3) (N := 9) (n := 9) hts (fun w h => ob_all_tbl (uw_X3 w h)) (hts (.instantiable RX3 9) (List.mem_of_getElem? (i := 76) (by decide +kernel)))
  obtain ⟨c4, i4, k4⟩ := u_known (C := RX4) (T := TX4) (N := 0) (n := 0) hts (fun w h => absurd h List.not_mem_nil) (hts (.instantiable RX4 0) (List.mem_of_getElem? (i := 162) (by decide +kernel)))
  obtain ⟨c5, i5, k5⟩ := u_known (C := RX5) (T := TX5) (N := 2) (n := 2) hts (fun w h => ob_all_tbl (uw_X5 w h)) (hts (.instantiable RX5 2) (List.mem_of_getElem? (i := 232) (by decide +kernel)))
  obtain ⟨c6, i6, k6⟩ := u_known (C := RX6) (T := TX6) (N := 0) (n := 0) hts (fun w h => absurd h List.not_mem_nil) (hts (.instantiable RX6 0) (List.mem_of_getElem? (i := 148) (by decide +kernel)))
  obtain ⟨c7, i7, k7⟩ := u_known (C := RX7) (T := TX7) (N := 0) (n := 0) hts (fun w h => absurd h List.not_mem_nil) (hts (.instantiable RX7 0) (List.mem_of_getElem? (i := 183) (by decide +kernel)))
  obtain ⟨c8, i8, k8⟩ := u_known (C := RX8) (T := TX8) (N := 0) (n := 0) hts (fun w h => absurd h List.not_mem_nil) (hts (.instantiable RX8 0) (List.mem_of_getElem? (i := 155) (by decide +kernel)))
  obtain ⟨c9, i9, k9⟩ := u_known (C := RX9) (T := TX9) (N := 2) (n := 2) hts (fun w h => ob_all_tbl (uw_X9 w h)) (hts (.instantiable RX9 2) (List.mem_of_getElem? (i := 127) (by decide +kernel)))
  obtain ⟨c10, i10, k10⟩ := u_known (C := RX10) (T := TX10) (N := 11) (n := 11) hts (fun w h => ob_all_tbl (uw_X10 w h)) (hts (.instantiable RX10 11) (List.mem_of_getElem? (i := 68) (by decide +kernel)))
  obtain ⟨c11, i11, k11⟩ := u_known (C := RX11) (T := TX11) (N := 24) (n := 24) hts (fun w h => ob_all_tbl (uw_X11 w h)) (hts (.instantiable RX11 24) (List.mem_of_getElem? (i := 753) (by decide +kernel)))
  obtain ⟨dC, dI, hKc⟩ : ∃ (dC : Nat → ClassId) (dI : Nat → Nat → Nat), ∀ (k : Nat) (q : vw_C), vwCl[k]? = some q → u_Kn s q.1 q.2.1 q.2.2 (dC k) (dI k) := by
    refine ⟨fun k => if k = 0 then c0 else if k = 1 then c1 else if k = 2 then c2 else if k = 3 then c3 else if k = 4 then c4 else if k = 5 then c5 else if k = 6 then c6 else if k = 7 then c7 else if k = 8 then c8 else if k = 9 then c9 else if k = 10 then c10 else c11, fun k => if k = 0 then i0 else if k = 1 then i1 else if k = 2 then i2 else if k = 3 then i3 else if k = 4 then i4 else if k = 5 then i5 else if k = 6 then i6 else if k = 7 then i7 else if k = 8 then i8 else if k = 9 then i9 else if k = 10 then i10 else i11, ?_⟩
    intro k q hq
    match k, hq with
    | 0, hq => cases hq; exact k0
    | 1, hq => cases hq; exact k1
    | 2, hq => cases hq; exact k2
    | 3, hq => cases hq; exact k3
    | 4, hq => cases hq; exact k4
    | 5, hq => cases hq; exact k5
    | 6, hq => cases hq; exact k6
    | 7, hq => cases hq; exact k7
    | 8, hq => cases hq; exact k8
    | 9, hq => cases hq; exact k9
    | 10, hq => cases hq; exact k10
    | 11, hq => cases hq; exact k11
    | k + 12, hq => simp [vwCl] at hq
  obtain ⟨cI, kI, compI, f1, f2, f3⟩ := Cond.arrayClass_spec (hts (.arrayClass .int) (List.mem_of_getElem? (i := 125) (by decide +kernel)))
  have hAO : va_AO "BoxOnARope$Plain" s := va_AO.of (A := #[]) (by
    have h := hts (.arrayOver (.object "BoxOnARope$Plain")) (List.mem_of_getElem? (i := 147) (by decide +kernel))
    exact h)
  obtain ⟨compP, cP, kP, g1, g2, g3, g4, g5⟩ := Cond.arrayOver_spec hAO
  have hK : va_K (dC, dI) vwCl [(cI, .int), (cP, .object "BoxOnARope$Plain")] s := by
    refine ⟨hKc, fun k q hk => ?_⟩
    match k, hk with
    | 0, hk =>
      cases hk
      exact ⟨fun N z => ⟨(fun k h => by cases h), kI, f2, compI, f3⟩, f1⟩
    | 1, hk =>
      cases hk
      exact ⟨fun N z => ⟨(fun k h => by cases h), kP, g3, compP, g4⟩, kP, compP, g3, g4, g1, g5⟩
    | k + 2, hk => simp at hk
  refine ⟨(l, (dC, dI), cI, cP, adK, adV, tL, tG), rfl, ⟨hx, hb, hr, hml, hown, hts, hX, hbl, hlocks, hK, ⟨⟨hvk, hCS, hSI⟩, ⟨hZL, hL2, hZG, hG2⟩, ⟨?_, ?_, ?_, ?_⟩, ⟨?_, ?_, ?_, ?_⟩, ?_, ?_, ?_⟩, hL⟩, fun q hq => va_Nw.of rfl (hts _ (ob_f9 q hq)), fun q hq => va_Nw.of rfl (hts _ (ob_f10 q hq)), hAO⟩
  · exact vk_R.of (hts _ (List.mem_of_getElem? (i := 317) (by decide +kernel))) (hev 0 (by decide))
  · exact vk_R.of (hts _ (List.mem_of_getElem? (i := 318) (by decide +kernel))) (hev 1 (by decide))
  · exact vk_R.of (hts _ (List.mem_of_getElem? (i := 319) (by decide +kernel))) (hev 2 (by decide))
  · exact vk_R.of (hts _ (List.mem_of_getElem? (i := 320) (by decide +kernel))) (hev 3 (by decide))
  · exact vk_R.of (hts _ (List.mem_of_getElem? (i := 321) (by decide +kernel))) (hev 4 (by decide))
  · exact vk_R.of (hts _ (List.mem_of_getElem? (i := 303) (by decide +kernel))) (hev 5 (by decide))
  · exact vk_R.of (hts _ (List.mem_of_getElem? (i := 367) (by decide +kernel))) (hev 6 (by decide))
  · exact vk_R.of (hts _ (List.mem_of_getElem? (i := 851) (by decide +kernel))) hM
  · exact va_Nw.of rfl (hts _ (List.mem_of_getElem? (i := 457) (by decide +kernel)))
  · exact va_Nw.of rfl (hts _ (List.mem_of_getElem? (i := 459) (by decide +kernel)))
  · exact va_Nw.of rfl (hts _ (List.mem_of_getElem? (i := 450) (by decide +kernel)))
theorem ob_linit {p : Program} {e : Env} {s : State} {m : MethodId} {below : List Frame} {meth : Method} {c : Code} {b L : Nat} {xs : Nat → Int32} {g : ob_GT} {Q : State → Prop} {mj : ob_MI} {q idx k n pc : Nat} {e0 : va_E} {wr : va_W} {fin1 : va_W → Prop} {rest : List Value} {H : Heap} {locs : List Loc} {ls : Array Slot} (C : ob_LC p s m meth c b L xs g) (hN : ob_N s) (hd : decode code pc = .ok (.invokespecial idx, 3)) (hc : ob_CU g mj q e0 fin1) (hw : mj.2.1 = Cond.code mj.1 mj.2.2.1 mj.2.2.2.1 none :: ob_all) (hcd : Cond.code mj.1 mj.2.2.1 mj.2.2.2.1 none ∈ ob_all) (h1 : Cond.initialized mj.1.cls ∈ ob_all) (h2 : Cond.instanceMethod mj.1 ∈ ob_all) (h3 : Cond.methodLink R_law idx mj.1 ∈ ob_all) (hnm : mj.1.name = "<init>") (h5 : mj.1.cls ≠ "java/lang/invoke/MethodHandle" ∧ mj.1.cls ≠ "java/lang/invoke/VarHandle" ∧ (parseMethodDescriptor mj.1.desc).map (fun d => d.parameters.length) = some 0) (h6 : mj.2.2.2.2.2.frames + 1 ≤ room_1.frames ∧ 8 + (mj.2.2.2.1 + 11) + mj.2.2.2.2.2.locals ≤ room_1.locals) (hr : k + mj.2.2.2.2.2.cells ≤ room_1.cells ∧ n + mj.2.2.2.2.2.slots ≤ room_1.slots)
    (hro : (rest.map fun v => v.category).sum ≤ 8) (hl : ls.size = 4) (hP : va_P g.2.1 vwCl (wr ++ [(q, e0)]) H) (hD : va_D (fun q => s.heap.size ≤ q) (wr ++ [(q, e0)])) (hS : va_S (fun q => s.heap.size ≤ q) s.heap H locs) (kk : ∀ (w1 : va_W) (H1 : Heap) (locs1 : List Loc), fin1 w1 → va_P g.2.1 vwCl (wr ++ w1) H1 → va_D (fun q => s.heap.size ≤ q) (wr ++ w1) → va_S (fun q => s.heap.size ≤ q) s.heap H1 locs1 → W p g.1 e room_1 s m #[Value.ref b] below meth c H1 locs1 (k + mj.2.2.2.2.2.cells) (n + mj.2.2.2.2.2.slots) Q (F0 m (pc + 3) ls rest)) : W p g.1 e room_1 s m #[Value.ref b] below meth c H locs k n Q (F0 m pc ls (.ref q :: rest)) := by
  have hts := C.2.2.2.2.2.1
  have ht : ∀ w ∈ ob_all, w.before #[Value.ref b] s = true := fun w h => hts w (ob_all_tbl h)
  have hK := C.2.2.2.2.2.2.2.2.2.1
  have hlast : (wr ++ [(q, e0)])[wr.length]? = some (q, e0) := by simp
  have hPc : va_P g.2.1 vwCl [(q, e0)] H := fun k x hx => by
    have hk0 : k < 1 := (List.getElem?_eq_some_iff.mp hx).1
    rw [show k = 0 by omega] at hx
    cases hx
    exact hP wr.length _ hlast
  have hDc : va_D (fun _ => True) [(q, e0)] := ⟨fun i j x y hx hy _ => by
    have h1 : i < 1 := (List.getElem?_eq_some_iff.mp hx).1
    have h2 : j < 1 := (List.getElem?_eq_some_iff.mp hy).1
    omega, fun _ _ _ => trivial⟩
  have hFc : ∀ z, va_A [(q, e0)] H.size z → s.heap.size ≤ z := by
    intro z hz
    rcases hz with ⟨k, e', h⟩ | h
    · have h1 : k < 1 := (List.getElem?_eq_some_iff.mp h).1
      rw [show k = 0 by omega] at h
      cases h
      exact hD.2 wr.length _ hlast
    · exact Nat.le_trans hS.1 h
  have hG : GoodIn lw_tbl mj.2.1 := by rw [hw]; exact ob_good (fun w h => ob_all_tbl h) hcd
  have hrun := va_runI (As := []) (rest := rest) (b := q) (p := p) (l := g.1) (e := e) (below := below) (meth := meth) (H := H) (locs := locs) (cells := k) (slots := n) (g := F0 m pc ls (.ref q :: rest)) ⟨C.1, C.2.1, C.2.2.2.1, C.2.2.2.2.1, hts⟩ (hc H.size) (cwI 0 hts hG hw rfl rfl (ht _ h1) (ht _ h3) (ht _ h2) hnm h5 h6)
    ⟨fun a U f mk z => by
        obtain ⟨z0, z1, z2, z3, z4, z5⟩ := z
        exact ⟨z0, z1, z2, va_K.moved (u := U) (U := U.calling f mk a) (Vm.Alike.refl U.vm) z3, z4, ob_N.same (u := U) rfl z5⟩,
      fun U hU hw2 => ⟨rfl, by rw [hU], by rw [hU]; exact hPc, va_K.moved hw2.alike hK, hDc, ob_N.warm hw2 hN⟩⟩ rfl rfl hl rfl (lv_room hro) hd hr
  intro T hT X
  obtain ⟨v, st₀, t, T', L', h0, X', hL, e1, e2, ⟨⟨hv, w1, hfin, hP1, hK1, hD1⟩, hz, hk⟩, stp⟩ := hrun T hT X
  cases hv
  rw [h0] at hz hk
  obtain ⟨hPj, hDj⟩ := ob_join (H1 := t.heap) hP hD hk hFc hP1 hD1
  rw [← e1] at hPj
  obtain ⟨t2, a1, b1⟩ := kk w1 T'.heap (locs ++ L') hfin hPj hDj ⟨Nat.le_trans hS.1 (by rw [e1]; exact hz), fun z g1 g2 => by rw [e1, hk z (Nat.lt_of_lt_of_le g1 hS.1) (fun y => g2 (hFc z y))]; exact hS.2.1 z g1 g2, fun z hz2 => by
      rcases List.mem_append.mp hz2 with h | h
      · exact hS.2.2 z h
      · exact hFc _ (hL z h)⟩ T' rfl X'
  exact ⟨t2, stp t2 a1, b1⟩
set_option maxRecDepth 100000 in
set_option maxHeartbeats 8000000 in
theorem whole_open {p : Program} {e : Env} {s : State} {m : MethodId} {below : List Frame} {meth : Method} {c : Code} (l : Launch) {b L : Nat} {xs : Nat → Int32} {RR : ob_St → ob_St → Prop} (hR : ob_steps RR) (hR0 : RR ob_x0 ob_y0) (hL : L ≤ 1536) (C0 : lw_At p s m meth c b L xs) : W p l e room_1 s m #[Value.ref b] below meth c s.heap [] 0 0 (lw_Z below #[Value.ref b] s) (entryFrame m ([Value.ref b] : List Value).toArray 4) := by
  obtain ⟨g, hgl, C, hN⟩ := ob_facts l hL C0
  subst hgl
  have hx := C.1
  have hb := C.2.1
  have hown := C.2.2.2.2.1
  have hts := C.2.2.2.2.2.1
  have hK := C.2.2.2.2.2.2.2.2.2.1
  have hA : ∀ q : Nat, s.heap.size ≤ q → (fun q : Nat => s.heap.size ≤ q) q := fun _ h => h
  have hS : va_S (fun q : Nat => s.heap.size ≤ q) s.heap s.heap [] := va_S.rf
  have hP : va_P g.2.1 vwCl [] s.heap := fun k q h => by simp at h
  have hD : va_D (fun q : Nat => s.heap.size ≤ q) [] := ⟨fun i j p q h => by simp at h, fun k q h => by simp at h⟩
  have hl := lv_entry ([.ref b]) (n := 4) (Nat.le_of_ble_eq_true rfl)
  rw [lg_entry_eq]
  generalize (lg_sl ([.ref b]) ++ List.replicate (4 - (lg_sl ([.ref b])).length) Slot.unset).toArray = ls at hl ⊢
  have hl : lv_has ls 4 [(0, .ref b)] := hl
  refine va_new (ci := 10) (fs := [.null, .null, .null, .int 0, .null, .null, .null, .null, .null, .int 0, .null]) (C := RX10) (T := TX10) (N := 11) hx hb hts (fun w h => ob_all_tbl (uw_X10 w h)) tyX10 tyX10_ok hown (hts (.classLink R_law 7 RX10) (List.mem_of_getElem? (i := 67) (by decide +kernel))) (hts (.instantiable RX10 11) (List.mem_of_getElem? (i := 68) (by decide +kernel))) (hts (.initialized RX10) (List.mem_of_getElem? (i := 48) (by decide +kernel))) hK hP hD hS hA rfl (fun j hj => by rcases (show j = 0 ∨ j = 1 ∨ j = 2 ∨ j = 3 ∨ j = 4 ∨ j = 5 ∨ j = 6 ∨ j = 7 ∨ j = 8 ∨ j = 9 ∨ j = 10 by omega) with rfl | rfl | rfl | rfl | rfl | rfl | rfl | rfl | rfl | rfl | rfl <;> rfl) (Nat.le_of_ble_eq_true rfl) (Nat.le_of_ble_eq_true rfl) dL_law_0 (fun q0 H hP hD hS => ?_)
  refine lv_dup hx hb dL_law_3 rfl ?_
  refine ob_linit (mj := mi_X10_init) C hN dL_law_4 (c_X10_init q0) rfl tw_71 tw_48 tw_70 tw_69 rfl ⟨by decide +kernel, by decide +kernel, by decide +kernel⟩ ⟨Nat.le_of_ble_eq_true rfl, Nat.le_of_ble_eq_true rfl⟩ ⟨Nat.le_of_ble_eq_true rfl, Nat.le_of_ble_eq_true rfl⟩ (Nat.le_of_ble_eq_true rfl) hl.1 (wr := []) (k := 1) (n := 11) hP hD hS (fun w1 H1 locs1 hw1 hP1 hD1 hS1 => ?_)
  obtain ⟨ax, hax, rfl⟩ := hw1
  subst hax
  refine lv_astore_n (lv' := [(1, .ref (ax 0)), (0, .ref b)]) hx hb dL_law_7 rfl hl (by decide) rfl (fun ls hl => ?_)
  have hP2 : va_P g.2.1 vwCl (ob_w g (ob_X ax) ob_x0) H1 := hP1
  have hD2 : va_D (fun q : Nat => s.heap.size ≤ q) (ob_w g (ob_X ax) ob_x0) := hD1
  refine va_new (ci := 11) (fs := [.int 0, .null, .null, .null, .null, .null, .null, .null, .null, .int 0, .null, .int 0, .null, .int 0, .null, .null, .int 0, .null, .null, .null, .null, .int 0, .int 0, .null]) (C := RX11) (T := TX11) (N := 24) hx hb hts (fun w h => ob_all_tbl (uw_X11 w h)) tyX11 tyX11_ok hown (hts (.classLink R_law 10 RX11) (List.mem_of_getElem? (i := 752) (by decide +kernel))) (hts (.instantiable RX11 24) (List.mem_of_getElem? (i := 753) (by decide +kernel))) (hts (.initialized RX11) (List.mem_of_getElem? (i := 59) (by decide +kernel))) hK hP2 hD2 hS1 hA rfl (fun j hj => by rcases (show j = 0 ∨ j = 1 ∨ j = 2 ∨ j = 3 ∨ j = 4 ∨ j = 5 ∨ j = 6 ∨ j = 7 ∨ j = 8 ∨ j = 9 ∨ j = 10 ∨ j = 11 ∨ j = 12 ∨ j = 13 ∨ j = 14 ∨ j = 15 ∨ j = 16 ∨ j = 17 ∨ j = 18 ∨ j = 19 ∨ j = 20 ∨ j = 21 ∨ j = 22 ∨ j = 23 by omega) with rfl | rfl | rfl | rfl | rfl | rfl | rfl | rfl | rfl | rfl | rfl | rfl | rfl | rfl | rfl | rfl | rfl | rfl | rfl | rfl | rfl | rfl | rfl | rfl <;> rfl) (Nat.le_of_ble_eq_true rfl) (Nat.le_of_ble_eq_true rfl) dL_law_8 (fun q1 H3 hP3 hD3 hS3 => ?_)
  refine lv_dup hx hb dL_law_11 rfl ?_
  refine ob_linit (mj := mi_X11_init) C hN dL_law_12 (c_X11_init q1) rfl tw_756 tw_59 tw_755 tw_754 rfl ⟨by decide +kernel, by decide +kernel, by decide +kernel⟩ ⟨Nat.le_of_ble_eq_true rfl, Nat.le_of_ble_eq_true rfl⟩ ⟨Nat.le_of_ble_eq_true rfl, Nat.le_of_ble_eq_true rfl⟩ (Nat.le_of_ble_eq_true rfl) hl.1 (k := 1 + (mi_X10_init).2.2.2.2.2.cells + 1) (n := 11 + (mi_X10_init).2.2.2.2.2.slots + 24) hP3 hD3 hS3 (fun w1 H4 locs4 hw1 hP4 hD4 hS4 => ?_)
  obtain ⟨am, ham, rfl⟩ := hw1
  subst ham
  refine lv_astore_n (lv' := [(2, .ref (am 0)), (1, .ref (ax 0)), (0, .ref b)]) hx hb dL_law_15 rfl hl (by decide) rfl (fun ls hl => ?_)
  refine lv_iconst (v := 0) hx hb dL_law_16 (by decide) ?_
  refine lv_istore_n (lv' := [(3, .int 0), (2, .ref (am 0)), (1, .ref (ax 0)), (0, .ref b)]) hx hb dL_law_17 rfl hl (by decide) rfl (fun ls hl => ?_)
  refine W.widen (k := 70) (n := 689) (Nat.le_of_ble_eq_true rfl) (Nat.le_of_ble_eq_true rfl) ?_
  exact law_loop C hR (L + 1) 0 ob_x0 ob_y0 (Nat.zero_le _) (by omega) hR0 H4 locs4 ls ⟨hP4, hD4, hS4⟩ (lv_sub hl [3, 2, 1, 0] rfl)
