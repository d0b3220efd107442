section XTry
variable {l : Launch} {G : xG} {M : xMt} {pc : Nat} {L : List (Option XV)} {st : List XV} {m : XM} {bc bs : Nat} {Q : XR → XM → Prop}
theorem xgV {own C : String} {idx : Nat} {y : MethodName} {M' : xMt} (h1 : Cond.methodLink own idx y ∈ WS) (h2 : Cond.instanceMethod y ∈ WS) (h3 : Cond.selects C y y ∈ WS) (h4 : Cond.initialized C ∈ WS) (h5 : xcw M' ∈ WS) : GoodIn WS (wsV own idx C y (xws M')) := by
  intro w hw
  have : w ∈ WS := by
    simp only [wsV, xws, List.mem_append, List.mem_cons, List.not_mem_nil, or_false] at hw
    rcases hw with (rfl | rfl | rfl | rfl) | rfl | h
    · exact h1
    · exact h2
    · exact h3
    · exact h4
    · exact h5
    · exact h
  exact ⟨this, WS_good w this⟩
theorem xgS {own : String} {idx : Nat} {y : MethodName} {M' : xMt} (h1 : Cond.methodLink own idx y ∈ WS) (h2 : Cond.static y ∈ WS) (h4 : Cond.initialized y.cls ∈ WS) (h5 : xcw M' ∈ WS) : GoodIn WS (va_wsS own idx y (xws M')) := by
  intro w hw
  have : w ∈ WS := by
    simp only [va_wsS, xws, List.mem_append, List.mem_cons, List.not_mem_nil, or_false] at hw
    rcases hw with (rfl | rfl | rfl) | rfl | h
    · exact h1
    · exact h2
    · exact h4
    · exact h5
    · exact h
  exact ⟨this, WS_good w this⟩
theorem xgI {M' : xMt} (h5 : xcw M' ∈ WS) : GoodIn WS (xws M') := by
  intro w hw
  have : w ∈ WS := by
    simp only [xws, List.mem_cons] at hw
    rcases hw with rfl | h
    · exact h5
    · exact h
  exact ⟨this, WS_good w this⟩
/-- 'throw new E()' in a method without handlers -/
def xTh (M : xMt) (ik ic : Nat) (cls : String) (names : List String) : Prop := Bundle.fit cls = true ∧ (∀ n ∈ names, Bundle.fit n = true) ∧ Cond.classLink M.1.cls ik cls ∈ WS ∧ Cond.initialized cls ∈ WS ∧ (∀ w ∈ vx_at0 M.1.cls ic cls names, w ∈ WS ∨ (∃ y ∈ xDecl, w = .declares y) ∨ ∃ y ∈ xCast, w = .castable y.1 y.2) ∧ (∀ w ∈ Cond.classLink M.1.cls ik cls :: Cond.initialized cls :: vx_at0 M.1.cls ic cls names, vx_ot w = true) ∧
  names.length + 3 < M.2.2.2.2.1.frames ∧ 13 * (names.length + 1) + 42 ≤ M.2.2.2.2.1.locals ∧ M.2.2.2.2.2 = []
theorem x_throw0 {ik ic : Nat} {cls : String} {names : List String} (hT : xTh M ik ic cls names) (d0 : decode M.2.1 pc = .ok (.new ik, 3)) (d3 : decode M.2.1 (pc + 3) = .ok (.dup, 1)) (d4 : decode M.2.1 (pc + 4) = .ok (.invokespecial ic, 3)) (d7 : decode M.2.1 (pc + 7) = .ok (.athrow, 1))
    (hb1 : 1 ≤ bc) (hb2 : 6 ≤ bs) (k : Q (.inr cls) m) : WW l G M pc L [] m bc bs Q := by
  intro p e s mid args below meth c hC H locs cells slots ls hW hS hL h1 h2
  obtain ⟨t1, t2, t3, t4, t5, t6, t7, t8, t9⟩ := hT
  have hts := hC.2.2.2.2.1
  have hSt := hC.2.2.2.2.2.2.2.2.2.1
  have hat : ∀ w ∈ vx_at0 M.1.cls ic cls names, w.before args s = true := by
    intro w hw
    rcases t5 w hw with h | ⟨y, hy, rfl⟩ | ⟨y, hy, rfl⟩
    · exact hts w h
    · exact va_Nw.use rfl (hSt.2.2.2.2.2.2.2.2.1 y hy)
    · exact va_Nw.use rfl (hSt.2.2.2.2.2.2.2.1 y hy)
  refine vx_throw0 (A := xA G) (names := names) hC.1 hC.2.1 hC.2.2.2.2.2.2.2.2.2.2 hC.2.2.2.1 t1 t2 (hts _ t3) (hts _ t4) hat t6 hSt.2.1 hSt.2.2.1 hS (hL.1.trans hC.2.2.1.symm) d0 d3 d4 d7 ?_ t7 (by simpa using t8) (by omega) (by omega) hC.2.2.2.2.2.1 ?_ hS.2.2 (by omega) (by omega)
  · intro x hx
    rw [hC.2.2.2.2.2.2.2.2.1, t9] at hx
    cases hx
  · intro t _ hz hq
    refine ⟨m, k, fun a kd h => ⟨(hW a kd h).1.kept (hq a (hW a kd h).1.lt), (hW a kd h).2⟩, Nat.le_trans hS.1 hz, fun q g1 g2 => (hq q (Nat.lt_of_lt_of_le g1 hS.1)).trans (hS.2.1 q g1 g2)⟩
/-- a static call of a method that has handlers -/
def xCH (M M' : xMt) (idx n : Nat) : Prop := GoodIn WS (va_wsS M.1.cls idx M'.1 (xws M')) ∧ M'.2.2.2.2.2 ≠ [] ∧ (M'.1.cls ≠ "java/lang/invoke/MethodHandle" ∧ M'.1.cls ≠ "java/lang/invoke/VarHandle" ∧ (parseMethodDescriptor M'.1.desc).map (fun d => d.parameters.length) = some n) ∧
  (M'.2.2.2.2.1.frames + 1 ≤ M.2.2.2.2.1.frames ∧ 8 + (M'.2.2.1 + 11) + M'.2.2.2.2.1.locals ≤ M.2.2.2.2.1.locals) ∧ M.2.2.2.2.2 = []
theorem x_invSH {M' : xMt} {idx n0 : Nat} {as st0 : List XV} {Q' : XR → XM → Prop} (hd : decode M.2.1 pc = .ok (.invokestatic idx, 3)) (hcw : xCH M M' idx n0) (hst0 : st0 = as.reverse ++ st) (hn0 : as.length = n0) (hcat : xCat st ≤ 8) {n bc0 bs0 : Nat} (hn : pc + 3 = n) (hb1 : bc0 = bc + M'.2.2.2.2.1.cells) (hb2 : bs0 = bs + M'.2.2.2.2.1.slots)
    (hcc : CC l G M' as m Q') (hB : xBk l G M n L st bc bs Q Q') : WW l G M pc L st0 m bc0 bs0 Q := by
  subst hst0; subst hb1; subst hb2
  intro p e s mid args below meth c hC H locs cells slots ls hW hS hL h1 h2
  obtain ⟨g1, g2, g3, g4, g5⟩ := hcw
  have hSt := hC.2.2.2.2.2.2.2.2.2.1
  have g2 : xws M' = Cond.codeWith M'.1 M'.2.1 M'.2.2.1 M'.2.2.2.1 M'.2.2.2.2.2 :: WS := by
    unfold xws xcw
    split
    · next h => exact absurd h g2
    · rfl
  have hrun := vx_runSX (p := p) (e := e) (below := below) (meth := meth) (locs := locs) (cells := cells) (slots := slots) (g := F0 mid pc ls ((as.map toV).reverse ++ st.map toV)) (As := as.map toV) (rest := st.map toV) (cc := M.2.1) (nL := M.2.2.1) (Ts := WS) (own := M.1.cls) (index := idx)
    ⟨hC.1, hC.2.1, hC.2.2.1, hC.2.2.2.1, hC.2.2.2.2.1⟩ hcc (vx_cwSW (R := M.2.2.2.2.1) n0 hC.2.2.2.2.1 g1 g2 rfl rfl g3 g4) (xPre (a := as) hW hSt hS) rfl (by rw [List.length_map]; exact hn0) hL.1 rfl (lv_room (by rw [xCat_eq]; exact hcat)) hd ⟨by omega, by omega⟩
  have e0 : (as.reverse ++ st).map toV = (as.map toV).reverse ++ st.map toV := by simp
  rw [e0]
  exact xw_after hC hS hL h1 h2 g5 hn hrun hB
/-- which handler takes E at pc -/
def xCatch (M : xMt) (pc : Nat) (E : String) (hpc : Nat) : Prop := ∃ (pre : List ExceptionTableEntry) (x : ExceptionTableEntry) (suf : List ExceptionTableEntry) (name : String), tableOf M.2.2.2.2.2 = pre ++ x :: suf ∧ (∀ z ∈ pre, covers z pc = false ∨ (z.catchType ≠ 0 ∧ ∃ nm : String, Cond.classLink M.1.cls z.catchType nm ∈ WS ∧ (E, nm) ∈ xNoc)) ∧ covers x pc = true ∧ x.catchType ≠ 0 ∧ Cond.classLink M.1.cls x.catchType name ∈ WS ∧ (E, name) ∈ xCast ∧ x.handlerPc = hpc
def xCT (M M' : xMt) (idx n : Nat) : Prop := GoodIn WS (wsV M.1.cls idx M'.1.cls M'.1 (xws M')) ∧ M'.2.2.2.2.2 = [] ∧ (M'.1.cls ≠ "java/lang/invoke/MethodHandle" ∧ M'.1.cls ≠ "java/lang/invoke/VarHandle" ∧ (parseMethodDescriptor M'.1.desc).map (fun d => d.parameters.length) = some n) ∧
  (M'.2.2.2.2.1.frames + 1 ≤ M.2.2.2.2.1.frames ∧ 8 + (M'.2.2.1 + 11) + M'.2.2.2.2.1.locals ≤ M.2.2.2.2.1.locals)
/-- a call within a try: what is thrown is caught here -/
theorem x_invVT {M' : xMt} {idx ci b n0 : Nat} {o : Option Nat} (ho : o = some b) {as st0 : List XV} {r : vw_C} {Q' : XR → XM → Prop} (hd : decode M.2.1 pc = .ok (.invokevirtual idx, 3)) (hcw : xCT M M' idx n0) (hst0 : st0 = as.reverse ++ vR o :: st) (hn0 : as.length = n0) (hk : m.1 b = some (oB ci)) (hci : vwCl[ci]? = some r) (hr : r.1 = M'.1.cls) (hcat : xCat st ≤ 8) {n bc0 bs0 : Nat} (hn : pc + 3 = n) (hb1 : bc0 = bc + M'.2.2.2.2.1.cells) (hb2 : bs0 = bs + M'.2.2.2.2.1.slots)
    (hcc : CC l G M' (vR (some b) :: as) m Q') (hB : ∀ (r : Option XV) (m' : XM), Q' (.inl r) m' → WW l G M n L (r.toList ++ st) m' bc bs Q) (hX : ∀ (E : String) (m' : XM), Q' (.inr E) m' → ∃ hpc, xCatch M pc E hpc ∧ ∀ q, WW l G M hpc L [vR (some q)] m' bc bs Q) : WW l G M pc L st0 m bc0 bs0 Q := by
  subst ho; subst hst0; subst hb1; subst hb2; subst hn
  intro p e s mid args below meth c hC H locs cells slots ls hW hS hL h1 h2
  obtain ⟨g1, g2, g3, g4⟩ := hcw
  have g2 := xws_code g2
  have hSt := hC.2.2.2.2.2.2.2.2.2.1
  have hts := hC.2.2.2.2.1
  have hrecv : ∃ cellB : Cell, H[b]? = some cellB ∧ cellB.vm.isStatics = false ∧ s.vm.findClass M'.1.cls = some cellB.cls := by
    rw [← hr]
    exact va_recv hSt.1 (xP1 hW hk) hci (q0 := 0) rfl
  have hpre := xPre (a := vR (some b) :: as) hW hSt hS
  have hrun := vx_runV (p := p) (e := e) (below := below) (meth := meth) (locs := locs) (cells := cells) (slots := slots) (g := F0 mid pc ls ((as.map toV).reverse ++ .ref b :: st.map toV)) (As := as.map toV) (rest := st.map toV) (cc := M.2.1) (nL := M.2.2.1) (Ts := WS) (own := M.1.cls) (index := idx)
    ⟨hC.1, hC.2.1, hC.2.2.1, hC.2.2.2.1, hC.2.2.2.2.1⟩ hcc (cwV (R := M.2.2.2.2.1) n0 hC.2.2.2.2.1 g1 g2 rfl rfl ⟨rfl, g3⟩ g4) ⟨hpre.1, hrecv, hpre.2⟩ rfl (by rw [List.length_map]; exact hn0) hL.1 rfl (lv_room (by rw [xCat_eq]; exact hcat)) hd ⟨by omega, by omega⟩
  have e0 : (as.reverse ++ vR (some b) :: st).map toV = (as.map toV).reverse ++ .ref b :: st.map toV := by simp [toV, va_rf]
  rw [e0]
  intro T hT X
  rcases hrun T hT X with ⟨v, st₀, t, T', L1, h0, X', hL1, e1, e2, ⟨⟨r, m', hv, hq, hw⟩, hF⟩, go⟩ | ⟨q, st₀, t, T', L1, E, ce, h0, X', hL1, e1, e2, ⟨m', hq, hw, hF⟩, hce, hcv, hcl, go⟩
  · cases hv
    obtain ⟨-, -, hS1⟩ := vx_keep (A1 := xA G) (free := xA G) h0 e1 hS (fun _ _ h => h) (fun _ h => h) hL1 hF
    obtain ⟨t2, a1, b1⟩ := hB r m' hq p e s mid args below meth c hC T'.heap (locs ++ L1) _ _ ls (by rw [e1]; exact hw) hS1 hL (by omega) (by omega) T' rfl X'
    refine ⟨t2, go t2 ?_, b1⟩
    have : (r.toList ++ st).map toV = (r.map toV).toList ++ st.map toV := by cases r <;> rfl
    rw [this] at a1
    exact a1
  · obtain ⟨-, -, hS1⟩ := vx_keep (A1 := xA G) (free := xA G) h0 e1 hS (fun _ _ h => h) (fun _ h => h) hL1 hF
    obtain ⟨hpc, ⟨pre, x, suf, name, c1, c2, c3, c4, c5, c6, rfl⟩, kk⟩ := hX E m' hq
    have := vx_catch (p := p) (l := l) (e := e) (R := M.2.2.2.2.1) (below := below) (ls := ls) (rest := st.map toV) (locs := locs ++ L1) (pc := pc) (E := E) (H := T'.heap) (q := q) hC.2.2.2.1 pre x suf (by rw [hC.2.2.2.2.2.2.2.2.1]; exact c1)
      (fun z hz => (c2 z hz).imp id fun ⟨z1, nm, z2, z3⟩ => ⟨z1, nm, hts _ z2, hSt.2.2.2.2.2.2.2.2.2.1 _ z3⟩) c3 c4 (hts _ c5) (va_Nw.use rfl (hSt.2.2.2.2.2.2.2.1 _ c6)) (by rw [e1]; exact hce) hcv hcl
      (kk q p e s mid args below meth c hC T'.heap (locs ++ L1) _ _ ls (by rw [e1]; exact hw) hS1 hL (by omega) (by omega)) T' rfl X'
    obtain ⟨t2, a1, b1⟩ := this
    exact ⟨t2, go.trans a1, b1⟩
end XTry
