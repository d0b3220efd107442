section XCall
variable {l : Launch} {G : xG} {M : xMt} {pc : Nat} {L : List (Option XV)} {st : List XV} {m : XM} {bc bs : Nat} {Q : XR → XM → Prop}
theorem xws_code (hh : M.2.2.2.2.2 = []) : xws M = Cond.code M.1 M.2.1 M.2.2.1 M.2.2.2.1 :: WS := by unfold xws xcw; rw [hh]
theorem x_entry {a : List XV} (hy : plainName M.1.cls = true) (hh : M.2.2.2.2.2 = []) (hst : l.stackTraces = false) (hlen : (inL a).length ≤ M.2.2.1) {L0 : List (Option XV)} (hL0 : inL a ++ List.replicate (M.2.2.1 - (inL a).length) none = L0)
    (k : WW l G M 0 L0 [] m M.2.2.2.2.1.cells M.2.2.2.2.1.slots Q) : CC l G M a m Q := by
  subst hL0
  have hw : xws M = Cond.code M.1 M.2.1 M.2.2.1 M.2.2.2.1 :: WS := by unfold xws xcw; rw [hh]
  refine vx_ofW (cc := M.2.1) (maxL := M.2.2.1) (ret := M.2.2.2.1) hy hw ?_
  intro p e s mid args below meth c s₁ B hml hx hv
  obtain ⟨rfl, hWd, hSt⟩ := hv
  have hts0 := atoms_spec (ws := xws M) B.pre
  have hts : ∀ w ∈ WS, w.before _ s = true := fun w h => hts0 w (List.mem_cons_of_mem _ h)
  have hown : s.vm.findClass M.1.cls = some mid.cls := findClass_of_methodNamed B.named
  have htab : c.exceptionTable.toList = tableOf M.2.2.2.2.2 := by
    rw [hh]
    exact List.eq_nil_iff_forall_not_mem.mpr fun x h => hx x h
  rw [lg_entry_eq]
  exact k p e s mid _ below meth c ⟨B.exec, B.bytes, hml, hown, hts, B.notSynchronized, B.returns, (name_of_methodNamed B.named B.method).1, htab, hSt, hst⟩ s.heap [] 0 0 _ hWd va_S.rf (lh_entry hlen) (by omega) (by omega)
theorem x_entryH {a : List XV} (hy : plainName M.1.cls = true) (hh : M.2.2.2.2.2 ≠ []) (hst : l.stackTraces = false) (hlen : (inL a).length ≤ M.2.2.1) {L0 : List (Option XV)} (hL0 : inL a ++ List.replicate (M.2.2.1 - (inL a).length) none = L0)
    (k : WW l G M 0 L0 [] m M.2.2.2.2.1.cells M.2.2.2.2.1.slots Q) : CC l G M a m Q := by
  subst hL0
  have hw : xws M = Cond.codeWith M.1 M.2.1 M.2.2.1 M.2.2.2.1 M.2.2.2.2.2 :: WS := by
    unfold xws xcw
    split
    · next h => exact absurd h hh
    · rfl
  refine vx_ofWH (cc := M.2.1) (maxL := M.2.2.1) (ret := M.2.2.2.1) (hh := M.2.2.2.2.2) hy hw ?_
  intro p e s mid args below meth c s₁ B hml hv
  obtain ⟨rfl, hWd, hSt⟩ := hv
  have hts0 := atoms_spec (ws := xws M) B.pre
  have hts : ∀ w ∈ WS, w.before _ s = true := fun w h => hts0 w (List.mem_cons_of_mem _ h)
  have hown : s.vm.findClass M.1.cls = some mid.cls := findClass_of_methodNamed B.named
  have htab : c.exceptionTable.toList = tableOf M.2.2.2.2.2 := vx_table (x := M.1) B (hts0 _ (by rw [hw]; exact List.mem_cons_self))
  rw [lg_entry_eq]
  exact k p e s mid _ below meth c ⟨B.exec, B.bytes, hml, hown, hts, B.notSynchronized, B.returns, (name_of_methodNamed B.named B.method).1, htab, hSt, hst⟩ s.heap [] 0 0 _ hWd va_S.rf (lh_entry hlen) (by omega) (by omega)
theorem xSt.moved {s U : State} {H : Heap} {locs : List Loc} (h : xSt G s s.heap) (hS : va_S (xA G) s.heap H locs) (hU : U.heap = H) (hW : s.WarmedH U.vm) : xSt G U U.heap := by
  obtain ⟨h1, h2, h3, h4, h5, h6, h7⟩ := h
  subst hU
  have hb : G.2.2.2.1 < s.heap.size := Nat.lt_of_lt_of_le h6 h4
  exact ⟨h1.moved hW.alike, vx_Zq.moved hW.alike (h2.kept hS.2.1), vx_Zq.moved hW.alike (h3.kept hS.2.1), Nat.le_trans h4 hS.1, (h5.kept (hS.2.1 _ hb (Nat.not_le.mpr h6))).moved hW.alike, h6, h7.moved hW⟩
theorem xPc.blind {a : List XV} : FrameBlind (xPc G a m) := by
  intro v U g mk h
  obtain ⟨h1, h2, h3, h4, h5, h6, h7, h8, h9⟩ := h
  exact ⟨h1, h2, va_K.moved (u := U) (U := U.calling g mk v) (Vm.Alike.refl U.vm) h3, vx_Zq.moved (u := U) (U := U.calling g mk v) (Vm.Alike.refl U.vm) h4, vx_Zq.moved (u := U) (U := U.calling g mk v) (Vm.Alike.refl U.vm) h5, h6, va_X.moved (u := U) (U := U.calling g mk v) (Vm.Alike.refl U.vm) h7, h8, xNt.moved (s := U) (U := U.calling g mk v) (State.WarmedH.refl U) h9⟩
theorem xPre {a : List XV} {s : State} {H : Heap} {locs : List Loc} (hW : Wd G m H) (hSt : xSt G s s.heap) (hS : va_S (xA G) s.heap H locs) : PreS s H (xPc G a m) (a.map toV) :=
  ⟨xPc.blind, fun U hU hWm => ⟨rfl, by rw [hU]; exact hW, hSt.moved hS hU hWm⟩⟩
/-- the answer of a call, by its kind; what is thrown goes on -/
def kI (f : Int32 → XM → Prop) (Q : XR → XM → Prop) : XR → XM → Prop
  | .inl (some (.inl v)), m => f v m
  | .inr E, m => Q (.inr E) m
  | _, _ => False
def kL (f : Int64 → XM → Prop) (Q : XR → XM → Prop) : XR → XM → Prop
  | .inl (some (.inr (.inl v))), m => f v m
  | .inr E, m => Q (.inr E) m
  | _, _ => False
def kR (f : Option Nat → XM → Prop) (Q : XR → XM → Prop) : XR → XM → Prop
  | .inl (some (.inr (.inr v))), m => f v m
  | .inr E, m => Q (.inr E) m
  | _, _ => False
def kV (f : XM → Prop) (Q : XR → XM → Prop) : XR → XM → Prop
  | .inl none, m => f m
  | .inr E, m => Q (.inr E) m
  | _, _ => False
def kN (f : XM → Prop) : XR → XM → Prop
  | .inl none, m => f m
  | _, _ => False
/-- where a call comes back -/
def xBk (l : Launch) (G : xG) (M : xMt) (n : Nat) (L : List (Option XV)) (st : List XV) (bc bs : Nat) (Q Q' : XR → XM → Prop) : Prop :=
  (∀ (r : Option XV) (m' : XM), Q' (.inl r) m' → WW l G M n L (r.toList ++ st) m' bc bs Q) ∧ ∀ (E : String) (m' : XM), Q' (.inr E) m' → Q (.inr E) m'
theorem xBk.I {n : Nat} {f : Int32 → XM → Prop} (h : ∀ v m', f v m' → WW l G M n L (vI v :: st) m' bc bs Q) : xBk l G M n L st bc bs Q (kI f Q) := by
  refine ⟨fun r m' hq => ?_, fun E m' hq => hq⟩
  rcases r with _ | (v | v | v)
  · exact hq.elim
  · exact h v m' hq
  · exact hq.elim
  · exact hq.elim
theorem xBk.J {n : Nat} {f : Int64 → XM → Prop} (h : ∀ v m', f v m' → WW l G M n L (vL v :: st) m' bc bs Q) : xBk l G M n L st bc bs Q (kL f Q) := by
  refine ⟨fun r m' hq => ?_, fun E m' hq => hq⟩
  rcases r with _ | (v | v | v)
  · exact hq.elim
  · exact hq.elim
  · exact h v m' hq
  · exact hq.elim
theorem xBk.R {n : Nat} {f : Option Nat → XM → Prop} (h : ∀ v m', f v m' → WW l G M n L (vR v :: st) m' bc bs Q) : xBk l G M n L st bc bs Q (kR f Q) := by
  refine ⟨fun r m' hq => ?_, fun E m' hq => hq⟩
  rcases r with _ | (v | v | v)
  · exact hq.elim
  · exact hq.elim
  · exact hq.elim
  · exact h v m' hq
theorem xBk.V {n : Nat} {f : XM → Prop} (h : ∀ m', f m' → WW l G M n L st m' bc bs Q) : xBk l G M n L st bc bs Q (kV f Q) := by
  refine ⟨fun r m' hq => ?_, fun E m' hq => hq⟩
  rcases r with _ | (v | v | v)
  · exact h m' hq
  · exact hq.elim
  · exact hq.elim
  · exact hq.elim
theorem xBk.N {n : Nat} {f : XM → Prop} (h : ∀ m', f m' → WW l G M n L st m' bc bs Q) : xBk l G M n L st bc bs Q (kN f) := by
  refine ⟨fun r m' hq => ?_, fun E m' hq => hq.elim⟩
  rcases r with _ | (v | v | v)
  · exact h m' hq
  · exact hq.elim
  · exact hq.elim
  · exact hq.elim
theorem kN.no {f : XM → Prop} : ∀ E m', ¬ kN f (.inr E) m' := fun _ _ h => h
theorem xw_after {Q' : XR → XM → Prop} {mc ms : Nat} {a0 : Array Value} {p : Program} {e : Env} {s : State} {mid : MethodId} {args : Array Value} {below : List Frame} {meth : Method} {c : Code} {H : Heap} {locs : List Loc} {cells slots : Nat} {ls : Array Slot} {st0 : List Value}
    (hC : xC l G M p s mid args meth c) (hS : va_S (xA G) s.heap H locs) (hL : lh ls M.2.2.1 L) (h1 : cells + (bc + mc) ≤ M.2.2.2.2.1.cells) (h2 : slots + (bs + ms) ≤ M.2.2.2.2.1.slots) (hno : M.2.2.2.2.2 = []) {n : Nat} (hn : pc + 3 = n)
    (hr : vx_Run p l e M.2.2.2.2.1 s mid args below meth c H locs cells slots mc ms (F0 mid pc ls st0) (st.map toV) (xQc G Q' a0) (xXC G Q') (xA G))
    (hB : xBk l G M n L st bc bs Q Q') : W p l e M.2.2.2.2.1 s mid args below meth c H locs cells slots (vx_MQ below (xQc G Q) (xXC G Q) args s M.2.2.2.2.1.cells M.2.2.2.2.1.slots (xA G)) (F0 mid pc ls st0) := by
  subst hn
  intro T hT X
  rcases hr T hT X with ⟨v, st₀, t, T', L1, h0, X', hL1, e1, e2, ⟨⟨r, m', hv, hq, hw⟩, hF⟩, go⟩ | ⟨q, st₀, t, T', L1, E, ce, h0, X', hL1, e1, e2, ⟨m', hq, hw, hF⟩, hce, hcv, hcl, go⟩
  · cases hv
    obtain ⟨-, -, hS1⟩ := vx_keep (A1 := xA G) (free := xA G) h0 e1 hS (fun _ _ h => h) (fun _ h => h) hL1 hF
    obtain ⟨t2, a1, b1⟩ := hB.1 r m' hq p e s mid args below meth c hC T'.heap (locs ++ L1) (cells + mc) (slots + ms) ls (by rw [e1]; exact hw) hS1 hL (by omega) (by omega) T' rfl X'
    refine ⟨t2, go t2 ?_, b1⟩
    have : (r.toList ++ st).map toV = (r.map toV).toList ++ st.map toV := by cases r <;> rfl
    rw [this] at a1
    exact a1
  · obtain ⟨-, -, hS1⟩ := vx_keep (A1 := xA G) (free := xA G) h0 e1 hS (fun _ _ h => h) (fun _ h => h) hL1 hF
    have hout : ∀ x ∈ c.exceptionTable.toList, covers x pc = false := by
      intro x hx
      rw [hC.2.2.2.2.2.2.2.2.1, hno] at hx
      cases hx
    have := vx_out (p := p) (l := l) (e := e) (R := M.2.2.2.2.1) (below := below) (ls := ls) (rest := st.map toV) (locs := locs ++ L1) (cells := cells + mc) (slots := slots + ms) (mc := M.2.2.2.2.1.cells) (ms := M.2.2.2.2.1.slots) (free := xA G) (Qc := xQc G Q) (XC := xXC G Q) (m := mid) (args := args) hout hC.2.2.2.2.2.1 (by rw [e1]; exact hce) hcv hcl
      (fun t' ht' _ => ⟨m', hB.2 E m' hq, by rw [ht', e1]; exact hw, hS1.F ht'⟩) hS1.2.2 (by omega) (by omega) T' rfl X'
    obtain ⟨t2, a1, b1⟩ := this
    exact ⟨t2, go.trans a1, b1⟩
/-- an object call: the words that link it, what it needs of the room -/
def xCV (M M' : xMt) (idx n : Nat) : Prop := GoodIn WS (wsV M.1.cls idx M'.1.cls M'.1 (xws M')) ∧ M'.2.2.2.2.2 = [] ∧ (M'.1.cls ≠ "java/lang/invoke/MethodHandle" ∧ M'.1.cls ≠ "java/lang/invoke/VarHandle" ∧ (parseMethodDescriptor M'.1.desc).map (fun d => d.parameters.length) = some n) ∧
  (M'.2.2.2.2.1.frames + 1 ≤ M.2.2.2.2.1.frames ∧ 8 + (M'.2.2.1 + 11) + M'.2.2.2.2.1.locals ≤ M.2.2.2.2.1.locals) ∧ M.2.2.2.2.2 = []
def xCat (st : List XV) : Nat := (st.map fun v => if isL v then 2 else 1).sum
theorem xCat_eq (st : List XV) : ((st.map toV).map fun v => v.category).sum = xCat st := by
  unfold xCat
  rw [List.map_map]
  congr 2
  funext v
  exact toV_cat v
theorem x_invV {M' : xMt} {idx ci b n0 : Nat} {o : Option Nat} (ho : o = some b) {as st0 : List XV} {r : vw_C} {Q' : XR → XM → Prop} (hd : decode M.2.1 pc = .ok (.invokevirtual idx, 3)) (hcw : xCV M M' idx n0) (hst0 : st0 = as.reverse ++ vR o :: st) (hn0 : as.length = n0) (hk : m.1 b = some (oB ci)) (hci : vwCl[ci]? = some r) (hr : r.1 = M'.1.cls) (hcat : xCat st ≤ 8) {n bc0 bs0 : Nat} (hn : pc + 3 = n) (hb1 : bc0 = bc + M'.2.2.2.2.1.cells) (hb2 : bs0 = bs + M'.2.2.2.2.1.slots)
    (hcc : CC l G M' (vR (some b) :: as) m Q') (hB : xBk l G M n L st bc bs Q Q') : WW l G M pc L st0 m bc0 bs0 Q := by
  subst ho; subst hst0; subst hb1; subst hb2
  intro p e s mid args below meth c hC H locs cells slots ls hW hS hL h1 h2
  obtain ⟨g1, g2, g3, g4, g5⟩ := hcw
  have g2 := xws_code g2
  have hSt := hC.2.2.2.2.2.2.2.2.2.1
  have hrecv : ∃ cellB : Cell, H[b]? = some cellB ∧ cellB.vm.isStatics = false ∧ s.vm.findClass M'.1.cls = some cellB.cls := by
    rw [← hr]
    exact va_recv hSt.1 (xP1 hW hk) hci (q0 := 0) rfl
  have hpre := xPre (a := vR (some b) :: as) hW hSt hS
  have hrun := vx_runV (p := p) (e := e) (below := below) (meth := meth) (locs := locs) (cells := cells) (slots := slots) (g := F0 mid pc ls ((as.map toV).reverse ++ .ref b :: st.map toV)) (As := as.map toV) (rest := st.map toV) (cc := M.2.1) (nL := M.2.2.1) (Ts := WS) (own := M.1.cls) (index := idx)
    ⟨hC.1, hC.2.1, hC.2.2.1, hC.2.2.2.1, hC.2.2.2.2.1⟩ hcc (cwV (R := M.2.2.2.2.1) n0 hC.2.2.2.2.1 g1 g2 rfl rfl ⟨rfl, g3⟩ g4) ⟨hpre.1, hrecv, hpre.2⟩ rfl (by rw [List.length_map]; exact hn0) hL.1 rfl (lv_room (by rw [xCat_eq]; exact hcat)) hd ⟨by omega, by omega⟩
  have e0 : (as.reverse ++ vR (some b) :: st).map toV = (as.map toV).reverse ++ .ref b :: st.map toV := by simp [toV, va_rf]
  rw [e0]
  exact xw_after hC hS hL h1 h2 g5 hn hrun hB
/-- a static call within the class, or of any class -/
def xCS (M M' : xMt) (idx n : Nat) : Prop := GoodIn WS (va_wsS M.1.cls idx M'.1 (xws M')) ∧ M'.2.2.2.2.2 = [] ∧ (M'.1.cls ≠ "java/lang/invoke/MethodHandle" ∧ M'.1.cls ≠ "java/lang/invoke/VarHandle" ∧ (parseMethodDescriptor M'.1.desc).map (fun d => d.parameters.length) = some n) ∧
  (M'.2.2.2.2.1.frames + 1 ≤ M.2.2.2.2.1.frames ∧ 8 + (M'.2.2.1 + 11) + M'.2.2.2.2.1.locals ≤ M.2.2.2.2.1.locals) ∧ M.2.2.2.2.2 = []
theorem x_invS {M' : xMt} {idx n0 : Nat} {as st0 : List XV} {Q' : XR → XM → Prop} (hd : decode M.2.1 pc = .ok (.invokestatic idx, 3)) (hcw : xCS M M' idx n0) (hst0 : st0 = as.reverse ++ st) (hn0 : as.length = n0) (hcat : xCat st ≤ 8) {n bc0 bs0 : Nat} (hn : pc + 3 = n) (hb1 : bc0 = bc + M'.2.2.2.2.1.cells) (hb2 : bs0 = bs + M'.2.2.2.2.1.slots)
    (hcc : CC l G M' as m Q') (hB : xBk l G M n L st bc bs Q Q') : WW l G M pc L st0 m bc0 bs0 Q := by
  subst hst0; subst hb1; subst hb2
  intro p e s mid args below meth c hC H locs cells slots ls hW hS hL h1 h2
  obtain ⟨g1, g2, g3, g4, g5⟩ := hcw
  have g2 := xws_code g2
  have hSt := hC.2.2.2.2.2.2.2.2.2.1
  have hrun := vx_runS (p := p) (e := e) (below := below) (meth := meth) (locs := locs) (cells := cells) (slots := slots) (g := F0 mid pc ls ((as.map toV).reverse ++ st.map toV)) (As := as.map toV) (rest := st.map toV) (cc := M.2.1) (nL := M.2.2.1) (Ts := WS) (own := M.1.cls) (index := idx)
    ⟨hC.1, hC.2.1, hC.2.2.1, hC.2.2.2.1, hC.2.2.2.2.1⟩ hcc (va_cwS (R := M.2.2.2.2.1) n0 hC.2.2.2.2.1 g1 g2 rfl rfl g3 g4) (xPre (a := as) hW hSt hS) rfl (by rw [List.length_map]; exact hn0) hL.1 rfl (lv_room (by rw [xCat_eq]; exact hcat)) hd ⟨by omega, by omega⟩
  have e0 : (as.reverse ++ st).map toV = (as.map toV).reverse ++ st.map toV := by simp
  rw [e0]
  exact xw_after hC hS hL h1 h2 g5 hn hrun hB
theorem CC.met {a : List XV} (h : CC l G M a m Q) (hno : ∀ E m', ¬ Q (.inr E) m') : Met l M.1 (xws M) M.2.2.2.2.1 (xPc G a m) (xQc G Q) M.2.2.2.2.1.cells M.2.2.2.2.1.slots (xA G) := by
  refine MetFree.mono h (fun _ _ h => h) (fun _ _ _ _ _ _ => trivial) (fun a st o t _ hq => ?_)
  rcases hq with hq | ⟨q, -, E, ce, L, ⟨m', hx, -⟩, -⟩
  · exact hq
  · exact absurd hx (hno E m')
theorem xw_afterM {Q' : XR → XM → Prop} {mc ms : Nat} {a0 : Array Value} {p : Program} {e : Env} {s : State} {mid : MethodId} {args : Array Value} {below : List Frame} {meth : Method} {c : Code} {H : Heap} {locs : List Loc} {cells slots : Nat} {ls : Array Slot} {st0 : List Value}
    (hC : xC l G M p s mid args meth c) (hS : va_S (xA G) s.heap H locs) (hL : lh ls M.2.2.1 L) (h1 : cells + (bc + mc) ≤ M.2.2.2.2.1.cells) (h2 : slots + (bs + ms) ≤ M.2.2.2.2.1.slots) {n : Nat} (hn : pc + 3 = n)
    (hr : va_Run p l e M.2.2.2.2.1 s mid args below meth c H locs cells slots mc ms (F0 mid pc ls st0) (st.map toV) (xQc G Q' a0) (xA G))
    (hB : xBk l G M n L st bc bs Q Q') : W p l e M.2.2.2.2.1 s mid args below meth c H locs cells slots (vx_MQ below (xQc G Q) (xXC G Q) args s M.2.2.2.2.1.cells M.2.2.2.2.1.slots (xA G)) (F0 mid pc ls st0) := by
  subst hn
  intro T hT X
  obtain ⟨v, st₀, t, T', L1, h0, X', hL1, e1, e2, ⟨⟨r, m', hv, hq, hw⟩, hF⟩, go⟩ := hr T hT X
  cases hv
  obtain ⟨-, -, hS1⟩ := vx_keep (A1 := xA G) (free := xA G) h0 e1 hS (fun _ _ h => h) (fun _ h => h) hL1 hF
  obtain ⟨t2, a1, b1⟩ := hB.1 r m' hq p e s mid args below meth c hC T'.heap (locs ++ L1) (cells + mc) (slots + ms) ls (by rw [e1]; exact hw) hS1 hL (by omega) (by omega) T' rfl X'
  refine ⟨t2, go t2 ?_, b1⟩
  have : (r.toList ++ st).map toV = (r.map toV).toList ++ st.map toV := by cases r <;> rfl
  rw [this] at a1
  exact a1
/-- a constructor's call -/
def xCI (M M' : xMt) (idx n : Nat) : Prop := GoodIn WS (xws M') ∧ (M'.2.2.2.2.2 = [] ∧ M'.2.2.2.1 = none) ∧ Cond.initialized M'.1.cls ∈ WS ∧ Cond.methodLink M.1.cls idx M'.1 ∈ WS ∧ Cond.instanceMethod M'.1 ∈ WS ∧ M'.1.name = "<init>" ∧ (M'.1.cls ≠ "java/lang/invoke/MethodHandle" ∧ M'.1.cls ≠ "java/lang/invoke/VarHandle" ∧ (parseMethodDescriptor M'.1.desc).map (fun d => d.parameters.length) = some n) ∧
  (M'.2.2.2.2.1.frames + 1 ≤ M.2.2.2.2.1.frames ∧ 8 + (M'.2.2.1 + 11) + M'.2.2.2.2.1.locals ≤ M.2.2.2.2.1.locals)
theorem x_invI {M' : xMt} {idx b n0 : Nat} {as st0 : List XV} {Q' : XR → XM → Prop} (hd : decode M.2.1 pc = .ok (.invokespecial idx, 3)) (hcw : xCI M M' idx n0) (hst0 : st0 = as.reverse ++ vR (some b) :: st) (hn0 : as.length = n0) (hcat : xCat st ≤ 8) {n bc0 bs0 : Nat} (hn : pc + 3 = n) (hb1 : bc0 = bc + M'.2.2.2.2.1.cells) (hb2 : bs0 = bs + M'.2.2.2.2.1.slots)
    (hcc : CC l G M' (vR (some b) :: as) m Q') (hno : ∀ E m', ¬ Q' (.inr E) m') (hB : xBk l G M n L st bc bs Q Q') : WW l G M pc L st0 m bc0 bs0 Q := by
  subst hst0; subst hb1; subst hb2
  intro p e s mid args below meth c hC H locs cells slots ls hW hS hL h1 h2
  obtain ⟨g1, ⟨g2, g2'⟩, g3, g4, g5, g6, g7, g8⟩ := hcw
  have g2 := xws_code g2
  rw [g2'] at g2
  have hSt := hC.2.2.2.2.2.2.2.2.2.1
  have hts := hC.2.2.2.2.1
  have hrun := va_runI (p := p) (e := e) (below := below) (meth := meth) (locs := locs) (cells := cells) (slots := slots) (g := F0 mid pc ls ((as.map toV).reverse ++ .ref b :: st.map toV)) (As := as.map toV) (rest := st.map toV) (cc := M.2.1) (nL := M.2.2.1) (Ts := WS) (own := M.1.cls) (index := idx)
    ⟨hC.1, hC.2.1, hC.2.2.1, hC.2.2.2.1, hts⟩ (hcc.met hno) (cwI (R := M.2.2.2.2.1) n0 hts g1 g2 rfl rfl (hts _ g3) (hts _ g4) (hts _ g5) g6 g7 g8) (xPre (a := vR (some b) :: as) hW hSt hS) rfl (by rw [List.length_map]; exact hn0) hL.1 rfl (lv_room (by rw [xCat_eq]; exact hcat)) hd ⟨by omega, by omega⟩
  have e0 : (as.reverse ++ vR (some b) :: st).map toV = (as.map toV).reverse ++ .ref b :: st.map toV := by simp [toV, va_rf]
  rw [e0]
  exact xw_afterM hC hS hL h1 h2 hn hrun hB
/-- a static call of a nest mate's private method -/
def xSN (M M' : xMt) (idx n : Nat) (host : String) : Prop := GoodIn WS (xws M') ∧ M'.2.2.2.2.2 = [] ∧ (M.1.cls, idx, M'.1, host) ∈ xNest ∧ Cond.initialized M'.1.cls ∈ WS ∧ Cond.static M'.1 ∈ WS ∧ (M'.1.cls ≠ "java/lang/invoke/MethodHandle" ∧ M'.1.cls ≠ "java/lang/invoke/VarHandle" ∧ (parseMethodDescriptor M'.1.desc).map (fun d => d.parameters.length) = some n) ∧
  (M'.2.2.2.2.1.frames + 1 ≤ M.2.2.2.2.1.frames ∧ 8 + (M'.2.2.1 + 11) + M'.2.2.2.2.1.locals ≤ M.2.2.2.2.1.locals)
theorem x_invSN {M' : xMt} {idx n0 : Nat} {host : String} {as st0 : List XV} {Q' : XR → XM → Prop} (hd : decode M.2.1 pc = .ok (.invokestatic idx, 3)) (hcw : xSN M M' idx n0 host) (hst0 : st0 = as.reverse ++ st) (hn0 : as.length = n0) (hcat : xCat st ≤ 8) {n bc0 bs0 : Nat} (hn : pc + 3 = n) (hb1 : bc0 = bc + M'.2.2.2.2.1.cells) (hb2 : bs0 = bs + M'.2.2.2.2.1.slots)
    (hcc : CC l G M' as m Q') (hno : ∀ E m', ¬ Q' (.inr E) m') (hB : xBk l G M n L st bc bs Q Q') : WW l G M pc L st0 m bc0 bs0 Q := by
  subst hst0; subst hb1; subst hb2
  intro p e s mid args below meth c hC H locs cells slots ls hW hS hL h1 h2
  obtain ⟨g1, g2, g3, g4, g5, g7, g8⟩ := hcw
  have g2 := xws_code g2
  have hSt := hC.2.2.2.2.2.2.2.2.2.1
  have hts := hC.2.2.2.2.1
  have hrun := va_runSN (p := p) (e := e) (below := below) (meth := meth) (locs := locs) (cells := cells) (slots := slots) (g := F0 mid pc ls ((as.map toV).reverse ++ st.map toV)) (As := as.map toV) (rest := st.map toV) (cc := M.2.1) (nL := M.2.2.1) (Ts := WS) (own := M.1.cls) (index := idx) (host := host)
    ⟨hC.1, hC.2.1, hC.2.2.1, hC.2.2.2.1, hts⟩ (hcc.met hno) ⟨va_cnB (R := M.2.2.2.2.1) n0 hts g1 g2 rfl rfl (hSt.2.2.2.2.2.2.1 _ g3) (hts _ g4) g7 g8, hts _ g5, trivial⟩ (xPre (a := as) hW hSt hS) rfl (by rw [List.length_map]; exact hn0) hL.1 rfl (lv_room (by rw [xCat_eq]; exact hcat)) hd ⟨by omega, by omega⟩
  have e0 : (as.reverse ++ st).map toV = (as.map toV).reverse ++ st.map toV := by simp
  rw [e0]
  exact xw_afterM hC hS hL h1 h2 hn hrun hB
/-- a nest mate's constructor -/
def xIN (M M' : xMt) (idx n : Nat) (host : String) : Prop := GoodIn WS (xws M') ∧ (M'.2.2.2.2.2 = [] ∧ M'.2.2.2.1 = none) ∧ (M.1.cls, idx, M'.1, host) ∈ xNest ∧ Cond.initialized M'.1.cls ∈ WS ∧ Cond.instanceMethod M'.1 ∈ WS ∧ M'.1.name = "<init>" ∧ (M'.1.cls ≠ "java/lang/invoke/MethodHandle" ∧ M'.1.cls ≠ "java/lang/invoke/VarHandle" ∧ (parseMethodDescriptor M'.1.desc).map (fun d => d.parameters.length) = some n) ∧
  (M'.2.2.2.2.1.frames + 1 ≤ M.2.2.2.2.1.frames ∧ 8 + (M'.2.2.1 + 11) + M'.2.2.2.2.1.locals ≤ M.2.2.2.2.1.locals)
theorem x_invIN {M' : xMt} {idx b n0 : Nat} {host : String} {as st0 : List XV} {Q' : XR → XM → Prop} (hd : decode M.2.1 pc = .ok (.invokespecial idx, 3)) (hcw : xIN M M' idx n0 host) (hst0 : st0 = as.reverse ++ vR (some b) :: st) (hn0 : as.length = n0) (hcat : xCat st ≤ 8) {n bc0 bs0 : Nat} (hn : pc + 3 = n) (hb1 : bc0 = bc + M'.2.2.2.2.1.cells) (hb2 : bs0 = bs + M'.2.2.2.2.1.slots)
    (hcc : CC l G M' (vR (some b) :: as) m Q') (hno : ∀ E m', ¬ Q' (.inr E) m') (hB : xBk l G M n L st bc bs Q Q') : WW l G M pc L st0 m bc0 bs0 Q := by
  subst hst0; subst hb1; subst hb2
  intro p e s mid args below meth c hC H locs cells slots ls hW hS hL h1 h2
  obtain ⟨g1, ⟨g2, g2'⟩, g3, g4, g5, g6, g7, g8⟩ := hcw
  have g2 := xws_code g2
  rw [g2'] at g2
  have hSt := hC.2.2.2.2.2.2.2.2.2.1
  have hts := hC.2.2.2.2.1
  have hrun := va_runIN (p := p) (e := e) (below := below) (meth := meth) (locs := locs) (cells := cells) (slots := slots) (g := F0 mid pc ls ((as.map toV).reverse ++ .ref b :: st.map toV)) (As := as.map toV) (rest := st.map toV) (cc := M.2.1) (nL := M.2.2.1) (Ts := WS) (own := M.1.cls) (index := idx) (host := host)
    ⟨hC.1, hC.2.1, hC.2.2.1, hC.2.2.2.1, hts⟩ (hcc.met hno) ⟨va_cnB (R := M.2.2.2.2.1) n0 hts g1 g2 rfl rfl (hSt.2.2.2.2.2.2.1 _ g3) (hts _ g4) g7 g8, g6, hts _ g5⟩ (xPre (a := vR (some b) :: as) hW hSt hS) rfl (by rw [List.length_map]; exact hn0) hL.1 rfl (lv_room (by rw [xCat_eq]; exact hcat)) hd ⟨by omega, by omega⟩
  have e0 : (as.reverse ++ vR (some b) :: st).map toV = (as.map toV).reverse ++ .ref b :: st.map toV := by simp [toV, va_rf]
  rw [e0]
  exact xw_afterM hC hS hL h1 h2 hn hrun hB
end XCall
