/-! the law's other steps -/
section L3W
variable {l : Launch} {G : xG} {K R : Nat → Nat} {m m' : XM} {o i : Nat} {x y : Int32} {key : Int64} {P3 : Int32 → Int32 → Int32 → XM → Prop} {P2 : Int32 → Int32 → XM → Prop} {Q' : XR → XM → Prop}
theorem c_Ldelete (hst : l.stackTraces = false) (h : LawSt K R o i m) (hq : ∀ m' v u, LawSt K R o (i + 1) m' → (v = 0 → gL m' o 0 = if u = 0 then 0 else 1) → P3 v v u m') {C : Int32 → XM → Prop} (hC : ∀ v m1, (kd m1 (R 0) = some (oB 5) ∧ CC l G xM_delete [vR (some (R 0)), vL key] m1 (kI (fun u m2 => kd m2 (R 0) = some (oB 5) ∧ CC l G xM_thrown [vR (some (R 0))] m2 (kI (fun v2 m3 => P3 v2 v u m3) Q')) Q')) → C v m1) :
    CC l G xW_delete [vR (some (K 0)), vL key, vR (some o)] m (kI C Q') := by
  obtain ⟨A, b, fo, op, S, du, ix, pn, th, h1, h2, h3, h4, h5⟩ := h
  have hAI := h1.1.2.1
  refine c_Wdelete hst h1 (fun q => hC _ _ ⟨h1.2.1.w.k0, c_Mdelete hst h1.2.1 h2 hAI h3 (fun _ m2 h' => ?_) (fun r => ?_)⟩) (fun q m1 hm hg => hC _ _ ⟨hm.2.1.w.k0, c_Mdelete hst hm.2.1 h2 hAI h3 (fun r => absurd r q) (fun _ S' ix' m2 z h' hA' hz _ => ?_)⟩)
  · obtain ⟨a1, a2⟩ := h1.md h'
    exact ⟨h'.w.k0, c_Mthrown hst h' (hq m2 1 0 ⟨A, b, fo, op, S, _, ix, pn, 1, a1, h2, h3, by omega, by omega⟩ (fun r => absurd r (by decide)))⟩
  · have r' : op = 1 := r
    rw [q] at r'
    cases r'
  · obtain ⟨a1, a2⟩ := hm.md h'
    refine ⟨h'.w.k0, c_Mthrown hst h' (hq m2 0 z ⟨aDel key A, b, fo, op, S', _, ix', pn, 0, a1, hA', h3, show A.w ≤ _ by omega, show A.t ≤ _ by omega⟩ (fun _ => ?_))⟩
    rw [a2, hg]
    by_cases r : z = 0
    · rw [if_pos r, if_pos (hz.mp r)]
    · rw [if_neg r, if_neg (fun t => r (hz.mpr t))]
theorem c_Lclose (hst : l.stackTraces = false) (h : LawSt K R o i m) (hq : ∀ m' v, LawSt K R o (i + 1) m' → P2 v v m') {C : Int32 → XM → Prop} (hC : ∀ v m1, (kd m1 (R 0) = some (oB 5) ∧ CC l G xM_close [vR (some (R 0))] m1 (kV (fun m2 => kd m2 (R 0) = some (oB 5) ∧ CC l G xM_thrown [vR (some (R 0))] m2 (kI (fun v2 m3 => P2 v2 v m3) Q')) Q')) → C v m1) :
    CC l G xW_close [vR (some (K 0))] m (kI C Q') := by
  obtain ⟨A, b, fo, op, S, du, ix, pn, th, h1, h2, h3, h4, h5⟩ := h
  refine c_Wclose hst h1 (fun q => hC _ _ ⟨h1.2.1.w.k0, c_Mclose hst h1.2.1 (fun _ m2 h' => ?_) (fun r => absurd q r)⟩) (fun q m1 hm => hC _ _ ⟨hm.2.1.w.k0, c_Mclose hst hm.2.1 (fun r => absurd r q) (fun _ m2 h' => ?_)⟩)
  · obtain ⟨a1, a2⟩ := h1.md h'
    subst q
    exact ⟨h'.w.k0, c_Mthrown hst h' (hq m2 1 ⟨A, b, fo, 0, S, _, ix, pn, 1, a1, h2, Or.inl rfl, by omega, by omega⟩)⟩
  · obtain ⟨a1, a2⟩ := hm.md h'
    exact ⟨h'.w.k0, c_Mthrown hst h' (hq m2 0 ⟨A, b, fo, 0, S, _, ix, pn, 0, a1, h2, Or.inl rfl, by omega, by omega⟩)⟩
theorem c_Lcrash (hst : l.stackTraces = false) (h : LawSt K R o i m) (hq : ∀ m' v, LawSt K R o (i + 1) m' → P2 v v m') {C : Int32 → XM → Prop} (hC : ∀ v m1, (kd m1 (R 0) = some (oB 5) ∧ CC l G xM_crash [vR (some (R 0))] m1 (kV (fun m2 => kd m2 (R 0) = some (oB 5) ∧ CC l G xM_thrown [vR (some (R 0))] m2 (kI (fun v2 m3 => P2 v2 v m3) Q')) Q')) → C v m1) :
    CC l G xW_crash [vR (some (K 0))] m (kI C Q') := by
  obtain ⟨A, b, fo, op, S, du, ix, pn, th, h1, h2, h3, h4, h5⟩ := h
  refine c_Wcrash (t := 0) hst h1 (fun q => hC _ _ ⟨h1.2.1.w.k0, c_Mcrash (pn := pn) hst h1.2.1 (fun _ m2 h' => ?_) (fun r => absurd q r)⟩) (fun q m1 hm => hC _ _ ⟨hm.2.1.w.k0, c_Mcrash (pn := pn) hst hm.2.1 (fun r => absurd r q) (fun _ S' m2 h' hA' => ?_)⟩)
  · obtain ⟨a1, a2⟩ := h1.md h'
    exact ⟨h'.w.k0, c_Mthrown hst h' (hq m2 1 ⟨A, b, fo, op, S, _, ix, pn, 1, a1, h2, h3, by omega, by omega⟩)⟩
  · obtain ⟨a1, a2⟩ := hm.md h'
    exact ⟨h'.w.k0, c_Mthrown hst h' (hq m2 0 ⟨aCra 0, b, none, 0, S', _, [], pn, 0, a1, hA', Or.inl rfl, Nat.zero_le _, Nat.zero_le _⟩)⟩
theorem c_LsetOf (hst : l.stackTraces = false) (h : LawSt K R o i m) (hq : ∀ m' v, LawSt K R o (i + 1) m' → P2 v v m') {C : Int32 → XM → Prop} (hC : ∀ v m1, (kd m1 (R 0) = some (oB 5) ∧ CC l G xM_setOf [vR (some (R 0)), vL key] m1 (kI (fun u m2 => P2 v u m2) Q')) → C v m1) :
    kd m (K 0) = some (oB 4) ∧ CC l G xC_setOf [vR (some (K 0)), vL key] m (kI C Q') := by
  obtain ⟨A, b, fo, op, S, du, ix, pn, th, h1, h2, h3, h4, h5⟩ := h
  refine ⟨h1.k, c_CsetOf hst (hC _ _ ⟨h1.2.1.w.k0, c_MsetOf hst h1.2.1 (fun m2 h' => ?_)⟩)⟩
  obtain ⟨a1, a2⟩ := h1.md h'
  exact hq m2 _ ⟨A, b, fo, op, S, _, ix, pn, 0, a1, h2, h3, by omega, by omega⟩
theorem c_Lcount (hst : l.stackTraces = false) (h : LawSt K R o i m) (hq : ∀ m' v, LawSt K R o (i + 1) m' → P2 v v m') {C : Int32 → XM → Prop} (hC : ∀ v m1, (kd m1 (R 0) = some (oB 5) ∧ CC l G xM_count [vR (some (R 0)), vI x] m1 (kI (fun u m2 => P2 v u m2) Q')) → C v m1) :
    kd m (K 0) = some (oB 4) ∧ CC l G xC_count [vR (some (K 0)), vI x] m (kI C Q') := by
  obtain ⟨A, b, fo, op, S, du, ix, pn, th, h1, h2, h3, h4, h5⟩ := h
  refine ⟨h1.k, c_Ccount hst h1.1 (hC _ _ ⟨h1.2.1.w.k0, c_Mcount hst h1.2.1 h2 (fun m2 h' => ?_)⟩)⟩
  obtain ⟨a1, a2⟩ := h1.md h'
  exact hq m2 _ ⟨A, b, fo, op, S, _, ix, pn, 0, a1, h2, h3, by omega, by omega⟩
theorem LawSt.next (h : LawSt K R o i m) : LawSt K R o (i + 1) m := by
  obtain ⟨A, b, fo, op, S, du, ix, pn, th, h1, h2, h3, h4, h5⟩ := h
  exact ⟨A, b, fo, op, S, du, ix, pn, th, h1, h2, h3, by omega, by omega⟩
end L3W
