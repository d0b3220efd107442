/-! The start: what the tables give of classes and array classes at the law's entry, and the law from there (SKELETON's names; the launch has no stack traces). -/
def R_law : String := "TinyCacheLaw"
def lw_P (b : Addr) (xs : List Int32) (args : Array Value) (s : State) : Prop := args = #[.ref b] ∧ s.IntsAt b xs ∧ xs.length ≤ 2048 ∧ (Jvm.Cond.and given_1 narrow_1).before args s = true
def lw_Q (_ : Array Value) (s : State) (o : Outcome) (t : State) : Prop := o = .returned (some (.int 1)) ∧ Framed s o t [] 601024 7293034
def lw_Z (below : List Frame) (a : Array Value) (s : State) : State → Prop := fun t => ∃ o, t.status = .running ∧ Ended t below o ∧ lw_Q a s o t
def lw_At (p : Program) (s : State) (m : MethodId) (meth : Method) (c : Code) (b L : Nat) (xs : Nat → Int32) : Prop :=
  p.tables.exec = Jvm.exec ∧ c.code = code ∧ meth.sig.returnType = ret ∧ c.maxLocals = 7 ∧ s.vm.findClass R_law = some m.cls ∧ (∀ w ∈ lw_tbl, w.before #[Value.ref b] s = true) ∧ va_X b L xs s s.heap ∧ b < s.heap.size ∧ meth.locks = false ∧ (Jvm.Cond.and given_1 narrow_1).before #[Value.ref b] s = true
theorem st_prim {s : State} {args : Array Value} {ty : FieldType} (h : (Cond.arrayClass ty).before args s = true) : ∃ cA : ClassId, ArrOfT s cA ty ∧ s.vm.findClass ("[" ++ ty.toString) = some cA := by
  obtain ⟨cA, kA, comp, h1, h2, h3⟩ := Cond.arrayClass_spec h
  exact ⟨cA, fun n z => ⟨fun k q => (by cases q), kA, h2, comp, h3⟩, h1⟩
theorem st_obj {s : State} {args : Array Value} {C : String} (h : (Cond.arrayOver (.object C)).before args s = true) : ∃ cA : ClassId, ArrOfT s cA (.object C) ∧ va_RA s cA (.object C) := by
  obtain ⟨comp, cA, kA, h1, h2, h3, h4, h5⟩ := Cond.arrayOver_spec h
  exact ⟨cA, fun n z => ⟨fun k q => (by cases q), kA, h3, comp, h4⟩, kA, comp, h3, h4, h1, h5⟩
theorem st_nest : ∀ q ∈ xNest, Cond.methodLinkNest q.1 q.2.1 q.2.2.1 q.2.2.2 ∈ lw_tbl := by decide +kernel
theorem st_cast : ∀ q ∈ xCast, Cond.castable q.1 q.2 ∈ lw_tbl := by decide +kernel
theorem st_decl : ∀ q ∈ xDecl, Cond.declares q ∈ lw_tbl := by decide +kernel
theorem st_ao1 : Cond.arrayOver (.object "TinyCache$Item") ∈ lw_tbl := List.mem_of_getElem? (i := 71) (by decide +kernel)
theorem st_ao3 : Cond.arrayOver (.object "TinyCache$Page") ∈ lw_tbl := List.mem_of_getElem? (i := 64) (by decide +kernel)
theorem st_zu : Cond.laysStatic "java/lang/Throwable" "UNASSIGNED_STACK" "[Ljava/lang/StackTraceElement;" ∈ lw_tbl := List.mem_of_getElem? (i := 212) (by decide +kernel)
theorem st_zs : Cond.laysStatic "java/lang/Throwable" "SUPPRESSED_SENTINEL" "Ljava/util/List;" ∈ lw_tbl := List.mem_of_getElem? (i := 214) (by decide +kernel)
theorem st_zi : Cond.initialized "java/lang/Throwable" ∈ lw_tbl := List.mem_of_getElem? (i := 42) (by decide +kernel)
theorem st_ws {s : State} {args : Array Value} (hts : ∀ w ∈ lw_tbl, w.before args s = true) : ∀ w ∈ WS, w.before args s = true := fun w h => hts w (List.mem_filter.mp h).1
theorem st_known {s : State} {args : Array Value} (hts : ∀ w ∈ lw_tbl, w.before args s = true) : ∃ (D : va_G) (A5 : Nat → ClassId), (∀ (c : Nat) (q : vw_C), vwCl[c]? = some q → u_Kn s q.1 q.2.1 q.2.2 (D.1 c) (D.2 c)) ∧ (ArrOfT s (A5 0) .int ∧ va_RA s (A5 0) .int) ∧ (ArrOfT s (A5 1) .boolean ∧ va_RA s (A5 1) .boolean) ∧ (ArrOfT s (A5 2) .long ∧ va_RA s (A5 2) .long) ∧ (ArrOfT s (A5 3) (.object "TinyCache$Item") ∧ va_RA s (A5 3) (.object "TinyCache$Item")) ∧ (ArrOfT s (A5 4) (.object "TinyCache$Page") ∧ va_RA s (A5 4) (.object "TinyCache$Page")) := by
  have hW := st_ws hts
  obtain ⟨c0, i0, k0⟩ := u_known (C := RX0) (T := TX0) (N := 3) (n := 3) hW uwX0 (hW _ w_96)
  obtain ⟨c1, i1, k1⟩ := u_known (C := RX1) (T := TX1) (N := 6) (n := 6) hW uwX1 (hW _ w_291)
  obtain ⟨c2, i2, k2⟩ := u_known (C := RX2) (T := TX2) (N := 4) (n := 4) hW uwX2 (hW _ w_89)
  obtain ⟨c3, i3, k3⟩ := u_known (C := RX3) (T := TX3) (N := 4) (n := 4) hW uwX3 (hW _ w_65)
  obtain ⟨c4, i4, k4⟩ := u_known (C := RX4) (T := TX4) (N := 8) (n := 8) hW uwX4 (hW _ w_53)
  obtain ⟨c5, i5, k5⟩ := u_known (C := RX5) (T := TX5) (N := 24) (n := 24) hW uwX5 (hW _ w_546)
  obtain ⟨a0, p0, r0⟩ := st_prim (hW _ w_87)
  obtain ⟨a1, p1, r1⟩ := st_prim (hW _ w_625)
  obtain ⟨a2, p2, r2⟩ := st_prim (hW _ w_624)
  obtain ⟨a3, p3⟩ := st_obj (hts _ st_ao1)
  obtain ⟨a4, p4⟩ := st_obj (hts _ st_ao3)
  refine ⟨(fun c => match c with | 0 => c0 | 1 => c1 | 2 => c2 | 3 => c3 | 4 => c4 | _ => c5, fun c => match c with | 0 => i0 | 1 => i1 | 2 => i2 | 3 => i3 | 4 => i4 | _ => i5), fun t => match t with | 0 => a0 | 1 => a1 | 2 => a2 | 3 => a3 | _ => a4, ?_, ⟨p0, r0⟩, ⟨p1, r1⟩, ⟨p2, r2⟩, p3, p4⟩
  intro c q hq
  match c, hq with
  | 0, hq =>
    obtain rfl : (RX0, TX0, 3) = q := Option.some.inj hq
    exact k0
  | 1, hq =>
    obtain rfl : (RX1, TX1, 6) = q := Option.some.inj hq
    exact k1
  | 2, hq =>
    obtain rfl : (RX2, TX2, 4) = q := Option.some.inj hq
    exact k2
  | 3, hq =>
    obtain rfl : (RX3, TX3, 4) = q := Option.some.inj hq
    exact k3
  | 4, hq =>
    obtain rfl : (RX4, TX4, 8) = q := Option.some.inj hq
    exact k4
  | 5, hq =>
    obtain rfl : (RX5, TX5, 24) = q := Option.some.inj hq
    exact k5
  | n + 6, hq =>
    have h : n + 6 < 6 := (List.getElem?_eq_some_iff.mp hq).1
    omega
theorem st_st {p : Program} {s : State} {m : MethodId} {meth : Method} {c : Code} {b L : Nat} {xs : Nat → Int32} (C0 : lw_At p s m meth c b L xs) : ∃ (D : va_G) (A5 : Nat → ClassId), xSt (D, A5, s.heap.size, b, L, xs) s s.heap := by
  obtain ⟨-, -, -, -, -, hts, hX, hb, -, hgv⟩ := C0
  have hs := flat_of_before _ hgv
  have r1 : (Cond.isRef (.static "java/lang/Throwable" "UNASSIGNED_STACK" "[Ljava/lang/StackTraceElement;")).before #[Value.ref b] s = true := hs _ (by decide +kernel)
  have r2 : (Cond.isRef (.static "java/lang/Throwable" "SUPPRESSED_SENTINEL" "Ljava/util/List;")).before #[Value.ref b] s = true := hs _ (by decide +kernel)
  have r3 : (Cond.not (.castable "java/lang/IllegalArgumentException" "java/lang/IllegalStateException")).before #[Value.ref b] s = true := hs _ (by decide +kernel)
  obtain ⟨D, A5, g1, g2, g3, g4, g5, g6⟩ := st_known hts
  refine ⟨D, A5, ⟨g1, fun k q hk => ?_⟩, ?_, ?_, Nat.le_refl _, hX, hb, fun q hq => va_Nw.of rfl (hts _ (st_nest q hq)), fun q hq => va_Nw.of rfl (hts _ (st_cast q hq)), fun q hq => va_Nw.of rfl (hts _ (st_decl q hq)), fun q hq => ?_, fun C hC => ?_⟩
  · match k, hk with
    | 0, hk =>
      obtain rfl : (A5 0, FieldType.int) = q := Option.some.inj hk
      exact g2
    | 1, hk =>
      obtain rfl : (A5 1, FieldType.boolean) = q := Option.some.inj hk
      exact g3
    | 2, hk =>
      obtain rfl : (A5 2, FieldType.long) = q := Option.some.inj hk
      exact g4
    | 3, hk =>
      obtain rfl : (A5 3, FieldType.object "TinyCache$Item") = q := Option.some.inj hk
      exact g5
    | 4, hk =>
      obtain rfl : (A5 4, FieldType.object "TinyCache$Page") = q := Option.some.inj hk
      exact g6
    | n + 5, hk =>
      have h : n + 5 < 5 := (List.getElem?_eq_some_iff.mp hk).1
      omega
  · exact vx_Zqof (hts _ st_zu) (hts _ st_zi) r1 (fun a h => Nat.not_le.mpr h)
  · exact vx_Zqof (hts _ st_zs) (hts _ st_zi) r2 (fun a h => Nat.not_le.mpr h)
  · obtain rfl := List.mem_singleton.mp hq
    exact va_Nc.of r3
  · rcases List.mem_cons.mp hC with rfl | hC
    · exact va_AO.of (hts _ st_ao1)
    · obtain rfl := List.mem_singleton.mp hC
      exact va_AO.of (hts _ st_ao3)
