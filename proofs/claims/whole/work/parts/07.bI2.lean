/-! a JDK method's entry: by its own name, not its class's -/
section XJdk
variable {l : Launch} {G : xG} {M : xMt} {m : XM} {Q : XR → XM → Prop}
theorem x_entryF {a : List XV} (hy : plainFor M.1 = true) (hh : M.2.2.2.2.2 = []) (hst : l.stackTraces = false) (hlen : (inL a).length ≤ M.2.2.1) {L0 : List (Option XV)} (hL0 : inL a ++ List.replicate (M.2.2.1 - (inL a).length) none = L0)
    (k : WW l G M 0 L0 [] m M.2.2.2.2.1.cells M.2.2.2.2.1.slots Q) : CC l G M a m Q := by
  subst hL0
  have hw : xws M = Cond.code M.1 M.2.1 M.2.2.1 M.2.2.2.1 :: WS := by unfold xws xcw; rw [hh]
  refine MetFree.of_bodySF (code := M.2.1) (maxLocals := M.2.2.1) (ret := M.2.2.2.1) hy ?_ ?_
  · intro args s mid h hn
    obtain ⟨meth, c, h1, h2, h3, h4, h5, h6, -, -⟩ := Cond.code_spec hn (atoms_spec (ws := xws M) h _ (by rw [hw]; exact List.mem_cons_self))
    exact ⟨meth, c, h1, h2, h3, h4, h5, h6⟩
  · intro p e s mid args below meth c s₁ B hml hv _
    have hh0 : s₁.heap = s.heap := by rw [B.state]; rfl
    have htab : c.exceptionTable.toList = tableOf M.2.2.2.2.2 := by
      rw [hh]
      obtain ⟨meth9, c9, h1, h2, -, -, -, -, h7, -⟩ := Cond.code_spec B.named (atoms_spec (ws := xws M) B.pre _ (by rw [hw]; exact List.mem_cons_self))
      cases Option.some.inj (h1.symm.trans B.method)
      cases Option.some.inj (h2.symm.trans (Stand.of_body B).code)
      rw [Array.isEmpty_iff.mp h7]
      rfl
    obtain ⟨rfl, hWd, hSt⟩ := hv
    have hts0 := atoms_spec (ws := xws M) B.pre
    have hts : ∀ w ∈ WS, w.before _ s = true := fun w h => hts0 w (List.mem_cons_of_mem _ h)
    have hown : s.vm.findClass M.1.cls = some mid.cls := findClass_of_methodNamed B.named
    have hW := k p e s mid _ below meth c ⟨B.exec, B.bytes, hml, hown, hts, B.notSynchronized, B.returns, (name_of_methodNamed B.named B.method).1, htab, hSt, hst⟩ s.heap [] 0 0 _ hWd va_S.rf (lh_entry hlen) (by omega) (by omega)
    have hW2 : W p l e M.2.2.2.2.1 s mid (a.map toV).toArray below meth c s.heap [] 0 0 (vx_MQ below (xQc G Q) (xXC G Q) (a.map toV).toArray s M.2.2.2.2.1.cells M.2.2.2.2.1.slots (xA G)) (entryFrame mid (a.map toV).toArray M.2.2.1) := by
      rw [lg_entry_eq]
      exact hW
    obtain ⟨t, a1, o, b1, b2, b3⟩ := hW2 s₁ hh0 (Stand.of_body B)
    exact ⟨t, o, a1, b1, b2, b3⟩
end XJdk
theorem plJ_min : plainFor yJ_min = true := by decide +kernel
theorem plJ_fill : plainFor yJ_fill = true := by decide +kernel
theorem plJ_copyOf : plainFor yJ_copyOf = true := by decide +kernel
