section XEnd
variable {l : Launch} {G : xG} {M : xMt} {pc : Nat} {L : List (Option XV)} {st : List XV} {m : XM} {bc bs : Nat} {Q : XR → XM → Prop}
/-! ends -/
theorem x_iret {v : Int32} (hd : decode M.2.1 pc = .ok (.ireturn, 1)) (hr : M.2.2.2.1 = some .int) (k : Q (.inl (some (vI v))) m) : WW l G M pc L [vI v] m bc bs Q := by
  intro p e s mid args below meth c hC H locs cells slots ls hW hS hL h1 h2
  exact vx_ret (W.widen (by omega) (by omega) (W.iret hC.1 hC.2.1 (hC.2.2.2.2.2.2.1.trans hr) (fun t ht _ => ⟨⟨some (vI v), m, rfl, k, by rw [ht]; exact hW⟩, hS.F ht⟩) hS.2.2 hd hC.2.2.2.2.2.1))
theorem x_zret {v : Int32} (hd : decode M.2.1 pc = .ok (.ireturn, 1)) (hr : M.2.2.2.1 = some .boolean) (hv : narrow .boolean (.int v) = .int v) (k : Q (.inl (some (vI v))) m) : WW l G M pc L [vI v] m bc bs Q := by
  intro p e s mid args below meth c hC H locs cells slots ls hW hS hL h1 h2
  exact vx_ret (W.widen (by omega) (by omega) (W.zret hC.1 hC.2.1 (hC.2.2.2.2.2.2.1.trans hr) hv (fun t ht _ => ⟨⟨some (vI v), m, rfl, k, by rw [ht]; exact hW⟩, hS.F ht⟩) hS.2.2 hd hC.2.2.2.2.2.1))
theorem x_lret {v : Int64} (hd : decode M.2.1 pc = .ok (.lreturn, 1)) (hr : M.2.2.2.1 = some .long) (k : Q (.inl (some (vL v))) m) : WW l G M pc L [vL v] m bc bs Q := by
  intro p e s mid args below meth c hC H locs cells slots ls hW hS hL h1 h2
  exact vx_ret (W.widen (by omega) (by omega) (W.lret hC.1 hC.2.1 (hC.2.2.2.2.2.2.1.trans hr) (fun t ht _ => ⟨⟨some (vL v), m, rfl, k, by rw [ht]; exact hW⟩, hS.F ht⟩) hS.2.2 hd hC.2.2.2.2.2.1))
theorem x_aret {v : Option Nat} {rt : FieldType} (hd : decode M.2.1 pc = .ok (.areturn, 1)) (hr : M.2.2.2.1 = some rt) (hrt : (∃ n, rt = .object n) ∨ ∃ t, rt = .array t) (k : Q (.inl (some (vR v))) m) : WW l G M pc L [vR v] m bc bs Q := by
  intro p e s mid args below meth c hC H locs cells slots ls hW hS hL h1 h2
  exact vx_ret (W.widen (by omega) (by omega) (W.aret hC.1 hC.2.1 (hC.2.2.2.2.2.2.1.trans hr) hrt (va_rf_or v) (fun t ht _ => ⟨⟨some (vR v), m, rfl, k, by rw [ht]; exact hW⟩, hS.F ht⟩) hS.2.2 hd hC.2.2.2.2.2.1))
theorem x_vret (hd : decode M.2.1 pc = .ok (.return_, 1)) (hr : M.2.2.2.1 = none) (k : Q (.inl none) m) : WW l G M pc L [] m bc bs Q := by
  intro p e s mid args below meth c hC H locs cells slots ls hW hS hL h1 h2
  exact vx_ret (W.widen (by omega) (by omega) (W.vret hC.1 hC.2.1 (hC.2.2.2.2.2.2.1.trans hr) (fun t ht _ => ⟨⟨none, m, rfl, k, by rw [ht]; exact hW⟩, hS.F ht⟩) hS.2.2 hd hC.2.2.2.2.2.1))
/-- 'new Object's own part of a constructor -/
theorem x_objInit {idx a : Nat} (hd : decode M.2.1 pc = .ok (.invokespecial idx, 3)) (w1 : Cond.methodLink M.1.cls idx Lib.objectInit ∈ WS) (w2 : Cond.instanceMethod Lib.objectInit ∈ WS) (w3 : Cond.code Lib.objectInit ⟨#[0xb1]⟩ 1 none ∈ WS)
    (hf : 1 ≤ M.2.2.2.2.1.frames) (hl : 12 ≤ M.2.2.2.2.1.locals) {n : Nat} (hn : pc + 3 = n) (k : WW l G M n L [] m bc bs Q) : WW l G M pc L [vR (some a)] m bc bs Q := by
  subst hn
  intro p e s mid args below meth c hC H locs cells slots ls hW hS hL h1 h2
  have hts := hC.2.2.2.2.1
  exact W.objInit hC.1 hC.2.1 hC.2.2.2.1 (hts _ w1) (hts _ w2) (hts _ w3) rfl (hL.1.trans hC.2.2.1.symm) (rest := []) rfl hd hf (by show 2 * 0 + _ ≤ _; simpa using hl) (k p e s mid args below meth c hC H locs cells slots ls hW hS hL h1 h2)
/-! making -/
def dflt (t : Nat) : Value := match t with
  | 0 => .int 0
  | 1 => .long 0
  | _ => .null
theorem fval_new (m : XM) (a : Nat) (k : XKd) (j t : Nat) : fval (mN m a k) a j t = dflt t := by
  match t with
  | 0 => simp [fval, mN, dflt]
  | 1 => simp [fval, mN, dflt]
  | t + 2 => simp [fval, mN, dflt, va_rf]
def xNw (own : String) (idx ci N : Nat) : Prop := ∃ (C : String) (T : u_T) (ty : Nat → FieldType), vwCl[ci]? = some (C, T, N) ∧ (∀ w ∈ u_ws C T N, w ∈ WS) ∧ (∀ k, k < N → parseFieldDescriptor (T k).2.2.1 = some (ty k)) ∧ Cond.classLink own idx C ∈ WS ∧ Cond.instantiable C N ∈ WS ∧ Cond.initialized C ∈ WS ∧ (xF ci).length = N ∧ ∀ j, j < N → defaultValue (ty j) = dflt ((xF ci).getD j 0)
theorem x_new {idx ci N : Nat} (hd : decode M.2.1 pc = .ok (.new idx, 3)) (hf : xNw M.1.cls idx ci N) {n bc0 bs0 : Nat} (hn : pc + 3 = n) (hb1 : bc0 = bc + 1) (hb2 : bs0 = bs + N) (k : ∀ a, m.1 a = none → WW l G M n L (vR (some a) :: st) (mN m a (oB ci)) bc bs Q) : WW l G M pc L st m bc0 bs0 Q := by
  subst hn; subst hb1; subst hb2
  intro p e s mid args below meth c hC H locs cells slots ls hW hS hL h1 h2
  obtain ⟨C, T, ty, f1, f2, f3, f4, f5, f6, f7, f8⟩ := hf
  have hts := hC.2.2.2.2.1
  have hSt := hC.2.2.2.2.2.2.2.2.2.1
  have hKn := hSt.1.1 ci _ f1
  refine W.newcK hC.1 hC.2.1 hC.2.2.2.1 (hts _ f4) (hts _ f5) (hts _ f6) rfl hd (by omega) (by omega) hKn.2.1 rfl fun H1 kC hkC e1 z1 o1 => ?_
  have hbase : gBase G ≤ H.size := Nat.le_trans hSt.2.2.2.1 hS.1
  refine k H.size hW.fresh p e s mid args below meth c hC H1 locs (cells + 1) (slots + N) ls (hW.new (oB ci) hbase o1 ?_) ⟨Nat.le_trans hS.1 (by omega), fun x g1 g2 => (o1 x (Nat.lt_of_lt_of_le g1 hS.1)).trans (hS.2.1 x g1 g2), hS.2.2⟩ hL (by omega) (by omega)
  refine ⟨_, f1, (u_born ty hts f2 hKn hkC e1 f3).to (fun j hj => ?_)⟩
  rw [f8 j hj]
  show _ = (fvals _ _ 0 (xF ci)).getD j .null
  have hj' : j < (xF ci).length := by rw [f7]; exact hj
  rw [List.getD_eq_getElem?_getD (l := fvals _ _ 0 (xF ci)), fvals_get, List.getElem?_eq_getElem hj']
  simp [fval_new, List.getD_eq_getElem?_getD, List.getElem?_eq_getElem hj']
theorem x_newa {t : Nat} {atype : ArrayType} {i : Int32} (hd : decode M.2.1 pc = .ok (.newarray atype, 2)) (hw : Cond.arrayClass (newarray.typeOf atype) ∈ WS) (ht : (atype = .int ∧ t = 0) ∨ (atype = .boolean ∧ t = 1) ∨ (atype = .long ∧ t = 2)) (hi : ¬ i < 0) (hb : i.toNatClampNeg ≤ 1000000) {n N bc0 bs0 : Nat} (hn : pc + 2 = n) (hN : i.toNatClampNeg = N) (hb1 : bc0 = bc + 1) (hb2 : bs0 = bs + N)
    (k : ∀ a, m.1 a = none → WW l G M n L (vR (some a) :: st) (mN m a (aR t N)) bc bs Q) : WW l G M pc L (vI i :: st) m bc0 bs0 Q := by
  subst hn; subst hb1; subst hb2; subst hN
  intro p e s mid args below meth c hC H locs cells slots ls hW hS hL h1 h2
  have hts := hC.2.2.2.2.1
  have hSt := hC.2.2.2.2.2.2.2.2.2.1
  have hbase : gBase G ≤ H.size := Nat.le_trans hSt.2.2.2.1 hS.1
  refine va_newaK hC.1 hC.2.1 (hts _ hw) rfl hd rfl hi rfl ?_ (by omega) (by omega) rfl fun H1 cA e1 z1 o1 hAr hNm => ?_
  · rcases ht with ⟨rfl, -⟩ | ⟨rfl, -⟩ | ⟨rfl, -⟩ <;> simp [newarray.typeOf, componentBytes] <;> omega
  refine k H.size hW.fresh p e s mid args below meth c hC H1 locs (cells + 1) (slots + i.toNatClampNeg) ls (hW.new (aR t i.toNatClampNeg) hbase o1 ?_) ⟨Nat.le_trans hS.1 (by omega), fun x g1 g2 => (o1 x (Nat.lt_of_lt_of_le g1 hS.1)).trans (hS.2.1 x g1 g2), hS.2.2⟩ hL (by omega) (by omega)
  rcases ht with ⟨rfl, rfl⟩ | ⟨rfl, rfl⟩ | ⟨rfl, rfl⟩
  · have hcA : cA = G.2.1 0 := Option.some.inj (hNm.symm.trans (hSt.1.2 0 _ rfl).2)
    subst hcA
    show H1[H.size]? = some (vp_cell _ (_, .inl ((mN m H.size (aR 0 i.toNatClampNeg)).2.1 H.size)))
    rw [e1, vp_cell_i]
    congr 2
    funext j
    simp [mN, newarray.typeOf, defaultValue]
  · have hcA : cA = G.2.1 1 := Option.some.inj (hNm.symm.trans (hSt.1.2 1 _ rfl).2)
    subst hcA
    show H1[H.size]? = some (vp_cell _ (_, .inl ((mN m H.size (aR 1 i.toNatClampNeg)).2.1 H.size)))
    rw [e1, vp_cell_i]
    congr 2
    funext j
    simp [mN, newarray.typeOf, defaultValue]
  · have hcA : cA = G.2.1 2 := Option.some.inj (hNm.symm.trans (hSt.1.2 2 _ rfl).2)
    subst hcA
    show H1[H.size]? = some (vp_cell _ (_, .inr (.inl ((mN m H.size (aR 2 i.toNatClampNeg)).2.2.1 H.size))))
    rw [e1, vp_cell_l]
    congr 2
    funext j
    simp [mN, newarray.typeOf, defaultValue]
theorem x_anew {t idx : Nat} {C : String} {i : Int32} (hd : decode M.2.1 pc = .ok (.anewarray idx, 3)) (hw : Cond.classLink M.1.cls idx C ∈ WS) (hw2 : C ∈ xAo) (ht : (C = RX1 ∧ t = 3) ∨ (C = RX3 ∧ t = 4)) (hi : ¬ i < 0) (hb : i.toNatClampNeg ≤ 1000000) {n N bc0 bs0 : Nat} (hn : pc + 3 = n) (hN : i.toNatClampNeg = N) (hb1 : bc0 = bc + 1) (hb2 : bs0 = bs + N)
    (k : ∀ a, m.1 a = none → WW l G M n L (vR (some a) :: st) (mN m a (aR t N)) bc bs Q) : WW l G M pc L (vI i :: st) m bc0 bs0 Q := by
  subst hn; subst hb1; subst hb2; subst hN
  intro p e s mid args below meth c hC H locs cells slots ls hW hS hL h1 h2
  have hts := hC.2.2.2.2.1
  have hSt := hC.2.2.2.2.2.2.2.2.2.1
  have hbase : gBase G ≤ H.size := Nat.le_trans hSt.2.2.2.1 hS.1
  refine W.anew hC.1 hC.2.1 hC.2.2.2.1 (hts _ hw) (va_AO.use (hSt.2.2.2.2.2.2.2.2.2.2 C hw2)) rfl hd rfl hi (by omega) (by omega) (by omega) fun cA kA comp f1 f2 f3 f4 => ?_
  generalize hH1 : H.push ({ cls := cA, slots := Array.replicate i.toNatClampNeg .null, vm := .none } : Cell) = H1
  have z1 : H1.size = H.size + 1 := by rw [← hH1, Array.size_push]
  have e1 : H1[H.size]? = some (arrV cA i.toNatClampNeg (fun _ => .null)) := by rw [← hH1, Array.getElem?_push_size, ← arrV_new]
  have o1 : ∀ q : Nat, q < H.size → H1[q]? = H[q]? := fun q hq => by rw [← hH1, Array.getElem?_push, if_neg (Nat.ne_of_lt hq)]
  refine k H.size hW.fresh p e s mid args below meth c hC H1 locs (cells + 1) (slots + i.toNatClampNeg) ls (hW.new (aR t i.toNatClampNeg) hbase o1 ?_) ⟨Nat.le_trans hS.1 (by omega), fun x g1 g2 => (o1 x (Nat.lt_of_lt_of_le g1 hS.1)).trans (hS.2.1 x g1 g2), hS.2.2⟩ hL (by omega) (by omega)
  rcases ht with ⟨rfl, rfl⟩ | ⟨rfl, rfl⟩
  · obtain ⟨kA', comp', -, -, -, hfc⟩ := (hSt.1.2 3 _ rfl).2
    have hcA : cA = G.2.1 3 := Option.some.inj (f1.symm.trans hfc)
    subst hcA
    show H1[H.size]? = some (vp_cell _ (_, .inr (.inr (.inr (.inr ((mN m H.size (aR 3 i.toNatClampNeg)).2.2.2 H.size))))))
    rw [e1, vp_cell_q]
    congr 2
    funext j
    simp [mN, va_rf]
  · obtain ⟨kA', comp', -, -, -, hfc⟩ := (hSt.1.2 4 _ rfl).2
    have hcA : cA = G.2.1 4 := Option.some.inj (f1.symm.trans hfc)
    subst hcA
    show H1[H.size]? = some (vp_cell _ (_, .inr (.inr (.inr (.inr ((mN m H.size (aR 4 i.toNatClampNeg)).2.2.2 H.size))))))
    rw [e1, vp_cell_q]
    congr 2
    funext j
    simp [mN, va_rf]
/-! the entry -/
def inL : List XV → List (Option XV)
  | [] => []
  | .inr (.inl x) :: r => some (vL x) :: none :: inL r
  | v :: r => some v :: inL r
theorem inL_args : ∀ (a : List XV) (i j : Nat) (w : XV), (inL a)[j]? = some (some w) → (i + j, toV w) ∈ lv_args i (a.map toV)
  | [], i, j, w, h => by simp [inL] at h
  | v :: r, i, j, w, h => by
    rcases v with x | x | o
    · cases j with
      | zero =>
        simp only [inL, List.getElem?_cons_zero, Option.some.injEq] at h
        subst h
        exact List.mem_cons_self
      | succ j =>
        simp only [inL, List.getElem?_cons_succ] at h
        have := inL_args r (i + 1) j w h
        refine List.mem_cons_of_mem _ ?_
        show (i + (j + 1), toV w) ∈ lv_args (i + 1) (r.map toV)
        rw [show i + (j + 1) = i + 1 + j by omega]
        exact this
    · cases j with
      | zero =>
        simp only [inL, List.getElem?_cons_zero, Option.some.injEq] at h
        subst h
        exact List.mem_cons_self
      | succ j =>
        cases j with
        | zero => simp [inL] at h
        | succ j =>
          simp only [inL, List.getElem?_cons_succ] at h
          have := inL_args r (i + 2) j w h
          refine List.mem_cons_of_mem _ ?_
          show (i + (j + 1 + 1), toV w) ∈ lv_args (i + 2) (r.map toV)
          rw [show i + (j + 1 + 1) = i + 2 + j by omega]
          exact this
    · cases j with
      | zero =>
        simp only [inL, List.getElem?_cons_zero, Option.some.injEq] at h
        subst h
        exact List.mem_cons_self
      | succ j =>
        simp only [inL, List.getElem?_cons_succ] at h
        have := inL_args r (i + 1) j w h
        refine List.mem_cons_of_mem _ ?_
        show (i + (j + 1), toV w) ∈ lv_args (if (toV (.inr (.inr o))).category = 2 then i + 2 else i + 1) (r.map toV)
        rw [show (toV (.inr (.inr o))).category = 1 from va_rf_cat o, if_neg (by decide), show i + (j + 1) = i + 1 + j by omega]
        exact this
theorem lg_sl_cons (v : Value) (vs : List Value) : lg_sl (v :: vs) = (if v.category = 2 then [Slot.val v, Slot.second] else [Slot.val v]) ++ lg_sl vs := by simp [lg_sl]
theorem inL_len : ∀ a : List XV, (lg_sl (a.map toV)).length = (inL a).length
  | [] => rfl
  | .inl x :: r => by
    rw [List.map_cons, lg_sl_cons, List.length_append, inL_len r, toV_cat]
    simp [inL, isL]; omega
  | .inr (.inl x) :: r => by
    rw [List.map_cons, lg_sl_cons, List.length_append, inL_len r, toV_cat]
    simp [inL, isL]; omega
  | .inr (.inr o) :: r => by
    rw [List.map_cons, lg_sl_cons, List.length_append, inL_len r, toV_cat]
    simp [inL, isL]; omega
theorem lh_entry {a : List XV} {n : Nat} (h : (inL a).length ≤ n) : lh ((lg_sl (a.map toV) ++ List.replicate (n - (lg_sl (a.map toV)).length) Slot.unset).toArray) n (inL a ++ List.replicate (n - (inL a).length) none) := by
  obtain ⟨h1, h2, h3⟩ := lv_entry (a.map toV) (n := n) (by rw [inL_len]; exact h)
  refine ⟨h1, h2, fun j w hw => ?_⟩
  have hj : (inL a)[j]? = some (some w) := by
    by_cases hl : j < (inL a).length
    · rw [List.getElem?_append_left hl] at hw
      exact hw
    · rw [List.getElem?_append_right (by omega), List.getElem?_replicate] at hw
      split at hw <;> cases hw
  have := h3 _ (inL_args a 0 j w hj)
  rw [Nat.zero_add] at this
  exact this
end XEnd
