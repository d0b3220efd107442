/-- from the entry, for every script of at most 2048 ints, the law comes to its end with true -/
theorem whole_start {p : Program} {e : Env} {s : State} {m : MethodId} {below : List Frame} {meth : Method} {c : Code} (l : Launch) (hst : l.stackTraces = false) {b L : Nat} {xs : Nat → Int32} (hL : L ≤ 2048) (C0 : lw_At p s m meth c b L xs) (hnm : meth.name = "law") (htab : c.exceptionTable.toList = []) : W p l e room_1 s m #[Value.ref b] below meth c s.heap [] 0 0 (lw_Z below #[Value.ref b] s) (entryFrame m ([Value.ref b] : List Value).toArray 7) := by
  obtain ⟨D, A5, hSt⟩ := st_st C0
  obtain ⟨q1, q2, q3, q4, q5, hts, hX, hb, q6, hgv⟩ := C0
  have hC : xC l (D, A5, s.heap.size, b, L, xs) xW_law p s m #[Value.ref b] meth c := ⟨q1, q2, q4, q5, st_ws hts, q6, q3, hnm, htab, hSt, hst⟩
  have hlaw := c_law0 (l := l) (G := (D, A5, s.heap.size, b, L, xs)) (Q := fun r _ => r = .inl (some (vI 1))) (m := ((fun _ => none), (fun _ _ => 0), (fun _ _ => 0), (fun _ _ => none))) (o0 := some b) (bc := 601024) (bs := 7293034) hst rfl hL (fun x hx => by have h : (none : Option XKd) = some (oB 1) := hx; cases h) (fun _ => rfl) (Nat.le_of_ble_eq_true rfl) (Nat.le_of_ble_eq_true rfl)
  have hl : lh ((lg_sl ([vR (some b)].map toV) ++ List.replicate (7 - (lg_sl ([vR (some b)].map toV)).length) Slot.unset).toArray) 7 [some (vR (some b)), none, none, none, none, none, none] := lh_entry (a := [vR (some b)]) (n := 7) (Nat.le_of_ble_eq_true rfl)
  have hW := hlaw p e s m #[Value.ref b] below meth c hC s.heap [] 0 0 _ (fun a k hk => by have h : (none : Option XKd) = some k := hk; cases h) va_S.rf hl (Nat.le_of_ble_eq_true rfl) (Nat.le_of_ble_eq_true rfl)
  have hW2 : W p l e room_1 s m #[Value.ref b] below meth c s.heap [] 0 0 (vx_MQ below (xQc (D, A5, s.heap.size, b, L, xs) (fun r _ => r = .inl (some (vI 1)))) (xXC (D, A5, s.heap.size, b, L, xs) (fun r _ => r = .inl (some (vI 1)))) #[Value.ref b] s 601024 7293034 (xA (D, A5, s.heap.size, b, L, xs))) (entryFrame m ([vR (some b)].map toV).toArray 7) := by
    rw [lg_entry_eq]
    exact hW
  intro T hT X
  obtain ⟨t, a1, o, b1, b2, b3⟩ := hW2 T hT X
  refine ⟨t, a1, o, b1, b2, ?_⟩
  rcases b3 with ⟨⟨⟨r, m', e1, e2, -⟩, -⟩, L0, ⟨-, f2, f3⟩, f4⟩ | ⟨q, -, E, ce, L0, ⟨m', hx, -⟩, -⟩
  · have e3 : (Sum.inl r : XR) = .inl (some (vI 1)) := e2
    cases Sum.inl.inj e3
    have ho : o = .returned (some (.int 1)) := e1
    exact ⟨ho, ⟨_, ho⟩, f2, f3.weaken (fun x hx hlt => absurd hlt (Nat.not_lt.mpr (f4 x hx))) (Nat.le_refl _) (Nat.le_refl _)⟩
  · have e3 : (Sum.inr E : XR) = .inl (some (vI 1)) := hx
    cases e3
