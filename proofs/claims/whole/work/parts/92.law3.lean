/-! the law's steps with an answer -/
section L3V
variable {l : Launch} {G : xG} {K R : Nat → Nat} {m m' : XM} {o i : Nat} {x y : Int32} {key : Int64} {P : Int32 → Int32 → Int32 → XM → Prop} {Q' : XR → XM → Prop}
theorem foL_eq (f : Option Ent) : foL f = (f.map Ent.v).getD [] := by cases f <;> rfl
/-- the reference's answer is there: what is thrown is asked -/
theorem LawSt.fin {S S' : RS} {X : RX} {A : AS} {ix : List Nat} {pn : Nat → Nat} {b : Nat → Int32} {fo : Option (List Int32)} {op u v : Int32} {du : Nat → Int32} {m1 m2 : XM} (hst : l.stackTraces = false) (hq : ∀ m' v u, LawSt K R o (i + 1) m' → (v = 0 → gL m' o 0 = u.toInt64) → P v v u m') (hm : LM K R o A b fo op S X m1) (hr : MR R m1 S' (mX v op b (fo.getD []) du) m2) (hA : RA S' A ix pn) (hop : op = 0 ∨ op = 1) (hw : A.w ≤ 128 * (i + 1)) (ht : A.t ≤ 1025 * (i + 1)) (hu : v = 0 → gL m1 o 0 = u.toInt64) : kd m2 (R 0) = some (oB 5) ∧ CC l G xM_thrown [vR (some (R 0))] m2 (kI (fun v2 m3 => P v2 v u m3) Q') := by
  obtain ⟨h1, h2⟩ := hm.md hr
  exact ⟨hr.w.k0, c_Mthrown hst hr (hq m2 v u ⟨A, b, fo, op, S', du, ix, pn, v, h1, hA, hop, hw, ht⟩ (fun e => by rw [h2]; exact hu e))⟩
theorem c_Lword (hst : l.stackTraces = false) (h : LawSt K R o i m) (hq : ∀ m' v u, LawSt K R o (i + 1) m' → (v = 0 → gL m' o 0 = u.toInt64) → P v v u m') {C : Int32 → XM → Prop} (hC : ∀ v m1, (kd m1 (R 0) = some (oB 5) ∧ CC l G xM_word [vR (some (R 0)), vI x, vI y] m1 (kI (fun u m2 => kd m2 (R 0) = some (oB 5) ∧ CC l G xM_thrown [vR (some (R 0))] m2 (kI (fun v2 m3 => P v2 v u m3) Q')) Q')) → C v m1) :
    CC l G xW_word [vR (some (K 0)), vI x, vI y, vR (some o)] m (kI C Q') := by
  obtain ⟨A, b, fo, op, S, du, ix, pn, th, h1, h2, h3, h4, h5⟩ := h
  refine c_Wword hst h1 (fun q => hC _ _ ⟨h1.2.1.w.k0, c_Mword hst h1.2.1 (fun _ m' h' => LawSt.fin hst hq h1 h' h2 h3 (by omega) (by omega) (fun r => absurd r (by decide))) (fun q1 q2 => ?_)⟩) (fun q1 q2 m1 hm hg => hC _ _ ⟨hm.2.1.w.k0, c_Mword hst hm.2.1 (fun q => ?_) (fun _ _ m' h' => LawSt.fin hst hq hm h' h2 h3 (by omega) (by omega) (fun _ => hg))⟩)
  · rcases q with r | r
    · exact absurd r q1
    · exact absurd q2 r
  · rcases q with r | r
    · exact absurd r q1
    · exact absurd q2 r
theorem c_Lwhere (hst : l.stackTraces = false) (h : LawSt K R o i m) (hq : ∀ m' v u, LawSt K R o (i + 1) m' → (v = 0 → gL m' o 0 = u.toInt64) → P v v u m') {C : Int32 → XM → Prop} (hC : ∀ v m1, (kd m1 (R 0) = some (oB 5) ∧ CC l G xM_where [vR (some (R 0)), vL key] m1 (kI (fun u m2 => kd m2 (R 0) = some (oB 5) ∧ CC l G xM_thrown [vR (some (R 0))] m2 (kI (fun v2 m3 => P v2 v u m3) Q')) Q')) → C v m1) :
    CC l G xW_where [vR (some (K 0)), vL key, vR (some o)] m (kI C Q') := by
  obtain ⟨A, b, fo, op, S, du, ix, pn, th, h1, h2, h3, h4, h5⟩ := h
  refine c_Wwhere hst h1 (fun q => hC _ _ ⟨h1.2.1.w.k0, c_Mwhere hst h1.2.1 h2 h3 (fun _ m' h' => LawSt.fin hst hq h1 h' h2 h3 (by omega) (by omega) (fun r => absurd r (by decide))) (fun r => ?_)⟩) (fun q m1 hm hg => hC _ _ ⟨hm.2.1.w.k0, c_Mwhere hst hm.2.1 h2 h3 (fun r => absurd r q) (fun _ m' h' => LawSt.fin hst hq hm h' h2 h3 (by omega) (by omega) (fun _ => hg))⟩)
  have r' : op = 1 := r
  rw [q] at r'
  cases r'
theorem c_Lflash (hst : l.stackTraces = false) (h : LawSt K R o i m) (hq : ∀ m' v u, LawSt K R o (i + 1) m' → (v = 0 → gL m' o 0 = u.toInt64) → P v v u m') {C : Int32 → XM → Prop} (hC : ∀ v m1, (kd m1 (R 0) = some (oB 5) ∧ CC l G xM_flash [vR (some (R 0)), vI x, vI y] m1 (kI (fun u m2 => kd m2 (R 0) = some (oB 5) ∧ CC l G xM_thrown [vR (some (R 0))] m2 (kI (fun v2 m3 => P v2 v u m3) Q')) Q')) → C v m1) :
    CC l G xW_flash [vR (some (K 0)), vI x, vI y, vR (some o)] m (kI C Q') := by
  obtain ⟨A, b, fo, op, S, du, ix, pn, th, h1, h2, h3, h4, h5⟩ := h
  refine c_Wflash hst h1 (fun q => hC _ _ ⟨h1.2.1.w.k0, c_Mflash hst h1.2.1 h2 (fun _ m' h' => LawSt.fin hst hq h1 h' h2 h3 (by omega) (by omega) (fun r => absurd r (by decide))) (fun q1 q2 q3 q4 => ?_)⟩) (fun q1 q2 q3 q4 m1 hm hg => hC _ _ ⟨hm.2.1.w.k0, c_Mflash hst hm.2.1 h2 (fun q => ?_) (fun _ _ _ _ m' h' => LawSt.fin hst hq hm h' h2 h3 (by omega) (by omega) (fun _ => hg))⟩)
  · rcases q with r | r | r | r
    · exact absurd r q1
    · exact absurd r q2
    · exact absurd r q3
    · exact absurd q4 r
  · rcases q with r | r | r | r
    · exact absurd r q1
    · exact absurd r q2
    · exact absurd r q3
    · exact absurd q4 r
theorem c_Lget (hst : l.stackTraces = false) (h : LawSt K R o i m) (hq : ∀ m' v u, LawSt K R o (i + 1) m' → (v = 0 → gL m' o 0 = u.toInt64) → P v v u m') {C : Int32 → XM → Prop} (hC : ∀ v m1, (kd m1 (R 0) = some (oB 5) ∧ CC l G xM_get [vR (some (R 0)), vL key] m1 (kI (fun u m2 => kd m2 (R 0) = some (oB 5) ∧ CC l G xM_thrown [vR (some (R 0))] m2 (kI (fun v2 m3 => P v2 v u m3) Q')) Q')) → C v m1) :
    CC l G xW_get [vR (some (K 0)), vL key, vR (some o)] m (kI C Q') := by
  obtain ⟨A, b, fo, op, S, du, ix, pn, th, h1, h2, h3, h4, h5⟩ := h
  have hAI := h1.1.2.1
  have hgw : (aGet key A).w = A.w ∧ (aGet key A).t = A.t := by
    unfold aGet
    split
    · exact ⟨rfl, rfl⟩
    · split <;> exact ⟨rfl, rfl⟩
  refine c_Wget hst h1 (fun q => hC _ _ ⟨h1.2.1.w.k0, c_Mget hst h1.2.1 h2 hAI h3 (fun _ m' h' => LawSt.fin hst hq h1 h' h2 h3 (by omega) (by omega) (fun r => absurd r (by decide))) (fun r => ?_)⟩) (fun q m1 hm hg => hC _ _ ⟨hm.2.1.w.k0, c_Mget hst hm.2.1 h2 hAI h3 (fun r => absurd r q) (fun _ S' m' h' hA' => ?_)⟩)
  · have r' : op = 1 := r
    rw [q] at r'
    cases r'
  · rw [foL_eq] at h'
    exact LawSt.fin hst hq hm h' hA' h3 (by rw [hgw.1]; omega) (by rw [hgw.2]; omega) (fun _ => hg)
theorem c_Lgot (hst : l.stackTraces = false) (h : LawSt K R o i m) (hq : ∀ m' v u, LawSt K R o (i + 1) m' → (v = 0 → gL m' o 0 = u.toInt64) → P v v u m') {C : Int32 → XM → Prop} (hC : ∀ v m1, (kd m1 (R 0) = some (oB 5) ∧ CC l G xM_got [vR (some (R 0)), vI x] m1 (kI (fun u m2 => kd m2 (R 0) = some (oB 5) ∧ CC l G xM_thrown [vR (some (R 0))] m2 (kI (fun v2 m3 => P v2 v u m3) Q')) Q')) → C v m1) :
    CC l G xW_got [vR (some (K 0)), vI x, vR (some o)] m (kI C Q') := by
  obtain ⟨A, b, fo, op, S, du, ix, pn, th, h1, h2, h3, h4, h5⟩ := h
  refine c_Wgot hst h1 (fun q => hC _ _ ⟨h1.2.1.w.k0, c_Mgot hst h1.2.1 (fun _ m' h' => LawSt.fin hst hq h1 h' h2 h3 (by omega) (by omega) (fun r => absurd r (by decide))) (fun z q1 q2 => ?_)⟩) (fun v z q1 q2 q3 m1 hm hg => hC _ _ ⟨hm.2.1.w.k0, c_Mgot hst hm.2.1 (fun q => ?_) (fun z' _ q4 m' h' => LawSt.fin hst hq hm h' h2 h3 (by omega) (by omega) (fun _ => ?_))⟩)
  · have q2' : (fo.getD [])[x.toNatClampNeg]? = some z := q2
    exfalso
    rcases q with r | r | ⟨v, r1, r2⟩
    · rw [r] at q2'
      simp at q2'
    · exact q1 r
    · rw [r1] at q2'
      have := (List.getElem?_eq_some_iff.mp q2').1
      simp at this
      omega
  · exfalso
    have hl := (List.getElem?_eq_some_iff.mp q3).1
    rcases q with r | r
    · exact q2 r
    · have r' : (fo.getD []).length ≤ x.toNatClampNeg := r
      rw [q1] at r'
      simp at r'
      omega
  · have q4' : (fo.getD [])[x.toNatClampNeg]? = some z' := q4
    rw [q1] at q4'
    simp only [Option.getD_some] at q4'
    rw [q3] at q4'
    cases q4'
    exact hg
theorem c_Lopen (hst : l.stackTraces = false) (h : LawSt K R o i m) (hq : ∀ m' v u, LawSt K R o (i + 1) m' → (v = 0 → gL m' o 0 = u.toInt64) → P v v u m') {C : Int32 → XM → Prop} (hC : ∀ v m1, (kd m1 (R 0) = some (oB 5) ∧ CC l G xM_open [vR (some (R 0))] m1 (kI (fun u m2 => kd m2 (R 0) = some (oB 5) ∧ CC l G xM_thrown [vR (some (R 0))] m2 (kI (fun v2 m3 => P v2 v u m3) Q')) Q')) → C v m1) :
    CC l G xW_open [vR (some (K 0)), vR (some o)] m (kI C Q') := by
  obtain ⟨A, b, fo, op, S, du, ix, pn, th, h1, h2, h3, h4, h5⟩ := h
  exact c_Wopen hst h1 (fun q => hC _ _ ⟨h1.2.1.w.k0, c_Mopen hst h1.2.1 h2 (fun _ m' h' => LawSt.fin hst hq h1 h' h2 h3 (by omega) (by omega) (fun r => absurd r (by decide))) (fun r => absurd r q)⟩) (fun q m1 hm hg => hC _ _ ⟨hm.2.1.w.k0, c_Mopen hst hm.2.1 h2 (fun r => absurd q r) (fun _ m' h' => LawSt.fin hst hq hm h' h2 (Or.inr rfl) (by omega) (by omega) (fun _ => hg))⟩)
end L3V
