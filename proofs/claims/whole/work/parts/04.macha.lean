/-! The machine seen through plain data: values, locals, memory, the world, the judgements WW (a point of a method) and CC (a call). -/
abbrev XV : Type := Int32 ⊕ Int64 ⊕ Option Nat
abbrev vI (x : Int32) : XV := .inl x
abbrev vL (x : Int64) : XV := .inr (.inl x)
abbrev vR (o : Option Nat) : XV := .inr (.inr o)
def toV : XV → Value
  | .inl x => .int x
  | .inr (.inl x) => .long x
  | .inr (.inr o) => va_rf o
theorem va_rf_cat (o : Option Nat) : (va_rf o).category = 1 := by cases o <;> rfl
def isL : XV → Bool
  | .inr (.inl _) => true
  | _ => false
theorem toV_cat (v : XV) : (toV v).category = if isL v then 2 else 1 := by
  rcases v with x | x | o
  · rfl
  · rfl
  · exact va_rf_cat o
/-! locals -/
def xclr (L : List (Option XV)) : Nat → List (Option XV)
  | 0 => L
  | k + 1 => match L[k]? with
    | some (some (.inr (.inl _))) => L.set k none
    | _ => L
def xst1 (L : List (Option XV)) (i : Nat) (v : XV) : List (Option XV) := (xclr L i).set i (some v)
def xst2 (L : List (Option XV)) (i : Nat) (v : XV) : List (Option XV) := ((xclr L i).set i (some v)).set (i + 1) none
def lh (ls : Array Slot) (nL : Nat) (L : List (Option XV)) : Prop := ls.size = nL ∧ lv_wf ls ∧ ∀ (j : Nat) (w : XV), L[j]? = some (some w) → ls[j]? = some (.val (toV w))
def asl (L : List (Option XV)) : List (Nat × Value) := (List.range L.length).filterMap fun j => match L[j]? with
  | some (some w) => some (j, toV w)
  | _ => none
theorem asl_mem {L : List (Option XV)} {j : Nat} {v : Value} : (j, v) ∈ asl L ↔ ∃ w, L[j]? = some (some w) ∧ v = toV w := by
  unfold asl
  rw [List.mem_filterMap]
  constructor
  · rintro ⟨i, -, h⟩
    split at h
    · next w hw =>
      simp only [Option.some.injEq, Prod.mk.injEq] at h
      obtain ⟨rfl, rfl⟩ := h
      exact ⟨w, hw, rfl⟩
    · cases h
  · rintro ⟨w, hw, rfl⟩
    refine ⟨j, List.mem_range.mpr (List.getElem?_eq_some_iff.mp hw).1, ?_⟩
    rw [hw]
theorem lh_has {ls : Array Slot} {nL : Nat} {L : List (Option XV)} (h : lh ls nL L) : lv_has ls nL (asl L) := by
  refine ⟨h.1, h.2.1, fun q hq => ?_⟩
  obtain ⟨j, v⟩ := q
  obtain ⟨w, hw, rfl⟩ := asl_mem.mp hq
  exact h.2.2 j w hw
theorem xclr_at {L : List (Option XV)} {i j : Nat} {w : XV} (h : (xclr L i)[j]? = some (some w)) : L[j]? = some (some w) ∧ ¬ (j + 1 = i ∧ isL w = true) := by
  cases i with
  | zero => exact ⟨h, fun q => by omega⟩
  | succ k =>
    simp only [xclr] at h
    split at h
    · next x hx =>
      rw [List.getElem?_set] at h
      split at h
      · split at h <;> cases h
      · next hne => exact ⟨h, fun q => hne (by omega)⟩
    · next hx =>
      refine ⟨h, fun q => ?_⟩
      have hj : j = k := by omega
      subst hj
      rcases w with x | x | o
      · cases q.2
      · exact hx x h
      · cases q.2
theorem lh_of1 {ls : Array Slot} {nL : Nat} {L : List (Option XV)} {i : Nat} {v : XV} (h : lv_has ls nL ((i, toV v) :: (asl L).filter (fun q => !(q.1 == i) && !(q.1 + 1 == i && q.2.category == 2)))) : lh ls nL (xst1 L i v) := by
  refine ⟨h.1, h.2.1, fun j w hw => ?_⟩
  unfold xst1 at hw
  rw [List.getElem?_set] at hw
  split at hw
  · next he =>
    subst he
    split at hw
    · cases hw
      exact h.2.2 (i, toV v) List.mem_cons_self
    · cases hw
  · next hne =>
    obtain ⟨h1, h2⟩ := xclr_at hw
    refine h.2.2 (j, toV w) (List.mem_cons_of_mem _ (List.mem_filter.mpr ⟨asl_mem.mpr ⟨w, h1, rfl⟩, ?_⟩))
    have e1 : (j == i) = false := by simp; exact fun q => hne q.symm
    show (!(j == i) && !(j + 1 == i && (toV w).category == 2)) = true
    rw [e1, toV_cat]
    by_cases hl : isL w = true
    · have : (j + 1 == i) = false := by simp; exact fun q => h2 ⟨q, hl⟩
      simp [this]
    · simp [hl]
theorem lh_of2 {ls : Array Slot} {nL : Nat} {L : List (Option XV)} {i : Nat} {v : XV} (h : lv_has ls nL ((i, toV v) :: (asl L).filter (fun q => !(q.1 == i) && (!(q.1 == i + 1) && !(q.1 + 1 == i && q.2.category == 2))))) : lh ls nL (xst2 L i v) := by
  refine ⟨h.1, h.2.1, fun j w hw => ?_⟩
  unfold xst2 at hw
  rw [List.getElem?_set] at hw
  split at hw
  · split at hw <;> cases hw
  · next hne2 =>
    rw [List.getElem?_set] at hw
    split at hw
    · next he =>
      subst he
      split at hw
      · cases hw
        exact h.2.2 (i, toV v) List.mem_cons_self
      · cases hw
    · next hne =>
      obtain ⟨h1, h2⟩ := xclr_at hw
      refine h.2.2 (j, toV w) (List.mem_cons_of_mem _ (List.mem_filter.mpr ⟨asl_mem.mpr ⟨w, h1, rfl⟩, ?_⟩))
      have e1 : (j == i) = false := by simp; exact fun q => hne q.symm
      have e2 : (j == i + 1) = false := by simp; exact fun q => hne2 q.symm
      show (!(j == i) && (!(j == i + 1) && !(j + 1 == i && (toV w).category == 2))) = true
      rw [e1, e2, toV_cat]
      by_cases hl : isL w = true
      · have : (j + 1 == i) = false := by simp; exact fun q => h2 ⟨q, hl⟩
        simp [this]
      · simp [hl]
/-! memory -/
abbrev XKd : Type := Nat ⊕ (Nat × Nat)
abbrev XM : Type := (Nat → Option XKd) × (Nat → Nat → Int32) × (Nat → Nat → Int64) × (Nat → Nat → Option Nat)
abbrev kd (m : XM) (a : Nat) : Option XKd := m.1 a
abbrev gI (m : XM) (a k : Nat) : Int32 := m.2.1 a k
abbrev gL (m : XM) (a k : Nat) : Int64 := m.2.2.1 a k
abbrev gR (m : XM) (a k : Nat) : Option Nat := m.2.2.2 a k
def mI (m : XM) (a k : Nat) (v : Int32) : XM := (m.1, (fun b j => if b = a ∧ j = k then v else m.2.1 b j), m.2.2.1, m.2.2.2)
def mL (m : XM) (a k : Nat) (v : Int64) : XM := (m.1, m.2.1, (fun b j => if b = a ∧ j = k then v else m.2.2.1 b j), m.2.2.2)
def mR (m : XM) (a k : Nat) (v : Option Nat) : XM := (m.1, m.2.1, m.2.2.1, (fun b j => if b = a ∧ j = k then v else m.2.2.2 b j))
def mN (m : XM) (a : Nat) (k : XKd) : XM := ((fun b => if b = a then some k else m.1 b), (fun b j => if b = a then 0 else m.2.1 b j), (fun b j => if b = a then 0 else m.2.2.1 b j), (fun b j => if b = a then none else m.2.2.2 b j))
abbrev oB (c : Nat) : XKd := .inl c
abbrev aR (t n : Nat) : XKd := .inr (t, n)
def fval (m : XM) (a k : Nat) : Nat → Value
  | 0 => .int (m.2.1 a k)
  | 1 => .long (m.2.2.1 a k)
  | _ => va_rf (m.2.2.2 a k)
def fvals (m : XM) (a : Nat) : Nat → List Nat → List Value
  | _, [] => []
  | k, t :: ts => fval m a k t :: fvals m a (k + 1) ts
theorem fvals_get (m : XM) (a : Nat) : ∀ (ts : List Nat) (j k : Nat), (fvals m a j ts)[k]? = (ts[k]?).map (fval m a (j + k))
  | [], j, k => by simp [fvals]
  | t :: ts, j, 0 => by simp [fvals]
  | t :: ts, j, k + 1 => by
    simp only [fvals, List.getElem?_cons_succ]
    rw [fvals_get m a ts (j + 1) k]
    rw [show j + 1 + k = j + (k + 1) by omega]
theorem fvals_len (m : XM) (a : Nat) : ∀ (ts : List Nat) (j : Nat), (fvals m a j ts).length = ts.length
  | [], j => rfl
  | t :: ts, j => by simp [fvals, fvals_len m a ts (j + 1)]
theorem fvals_put {m m' : XM} {a k t : Nat} {ts : List Nat} {v : Value} (hk : ts[k]? = some t) (hv : fval m' a k t = v) (ho : ∀ i t', i ≠ k → fval m' a i t' = fval m a i t') : (fvals m a 0 ts).set k v = fvals m' a 0 ts := by
  apply List.ext_getElem?
  intro i
  rw [List.getElem?_set, fvals_get, fvals_get, fvals_len]
  have hl := (List.getElem?_eq_some_iff.mp hk).1
  by_cases h : k = i
  · subst h
    rw [if_pos rfl, if_pos hl, hk, Nat.zero_add, Option.map_some, hv]
  · rw [if_neg h]
    simp only [Nat.zero_add]
    cases ts[i]? with
    | none => rfl
    | some t' => simp [ho i t' (fun q => h q.symm)]
theorem fvals_eq {m m' : XM} {a : Nat} (ho : ∀ i t', fval m' a i t' = fval m a i t') : ∀ (ts : List Nat) (j : Nat), fvals m' a j ts = fvals m a j ts
  | [], j => rfl
  | t :: ts, j => by simp only [fvals, ho, fvals_eq ho ts (j + 1)]
def xcont (m : XM) (a : Nat) : Nat → (Nat → Int32) ⊕ (Nat → Int64) ⊕ (Nat → UInt32) ⊕ (Nat → UInt64) ⊕ (Nat → Option Nat)
  | 0 => .inl (m.2.1 a)
  | 1 => .inl (m.2.1 a)
  | 2 => .inr (.inl (m.2.2.1 a))
  | _ => .inr (.inr (.inr (.inr (m.2.2.2 a))))
abbrev xG : Type := va_G × (Nat → ClassId) × Nat × Nat × Nat × (Nat → Int32)
abbrev gBase (G : xG) : Nat := G.2.2.1
def xA (G : xG) : Nat → Prop := fun q => gBase G ≤ q
def xtys (G : xG) : List (ClassId × FieldType) := [(G.2.1 0, .int), (G.2.1 1, .boolean), (G.2.1 2, .long), (G.2.1 3, .object RX1), (G.2.1 4, .object RX3)]
def xE (G : xG) (m : XM) (a : Nat) : XKd → va_E
  | .inl ci => .inr (ci, fvals m a 0 (xF ci))
  | .inr (t, n) => .inl (G.2.1 t, n, xcont m a t)
def Wd (G : xG) (m : XM) (H : Heap) : Prop := ∀ (a : Nat) (k : XKd), m.1 a = some k → va_at G.1 vwCl (a, xE G m a k) H ∧ gBase G ≤ a
theorem xE_off {G : xG} {m m' : XM} {a : Nat} (h1 : ∀ j, m'.2.1 a j = m.2.1 a j) (h2 : ∀ j, m'.2.2.1 a j = m.2.2.1 a j) (h3 : ∀ j, m'.2.2.2 a j = m.2.2.2 a j) (k : XKd) : xE G m' a k = xE G m a k := by
  have e1 : m'.2.1 a = m.2.1 a := funext h1
  have e2 : m'.2.2.1 a = m.2.2.1 a := funext h2
  have e3 : m'.2.2.2 a = m.2.2.2 a := funext h3
  rcases k with ci | ⟨t, n⟩
  · have : fvals m' a 0 (xF ci) = fvals m a 0 (xF ci) := fvals_eq (fun i t' => by
      match t' with
      | 0 => simp only [fval, e1]
      | 1 => simp only [fval, e2]
      | n + 2 => simp only [fval, e3]) _ _
    simp only [xE, this]
  · have : xcont m' a t = xcont m a t := by
      match t with
      | 0 => simp only [xcont, e1]
      | 1 => simp only [xcont, e1]
      | 2 => simp only [xcont, e2]
      | n + 3 => simp only [xcont, e3]
    simp only [xE, this]
theorem Wd.put {G : xG} {m m' : XM} {H H1 : Heap} (h : Wd G m H) {a : Nat} (hk : m'.1 = m.1) (h1 : ∀ b j, b ≠ a → m'.2.1 b j = m.2.1 b j) (h2 : ∀ b j, b ≠ a → m'.2.2.1 b j = m.2.2.1 b j) (h3 : ∀ b j, b ≠ a → m'.2.2.2 b j = m.2.2.2 b j)
    (ha : ∀ k, m.1 a = some k → va_at G.1 vwCl (a, xE G m' a k) H1) (ho : ∀ q : Nat, q ≠ a → H1[q]? = H[q]?) : Wd G m' H1 := by
  intro b k hb
  rw [hk] at hb
  by_cases hba : b = a
  · subst hba
    exact ⟨ha k hb, (h b k hb).2⟩
  · refine ⟨?_, (h b k hb).2⟩
    rw [xE_off (fun j => h1 b j hba) (fun j => h2 b j hba) (fun j => h3 b j hba)]
    exact (h b k hb).1.kept (ho b hba)
theorem Wd.fresh {G : xG} {m : XM} {H : Heap} (h : Wd G m H) : m.1 H.size = none := by
  cases hk : m.1 H.size with
  | none => rfl
  | some k => exact absurd ((h _ k hk).1).lt (Nat.lt_irrefl _)
theorem Wd.new {G : xG} {m : XM} {H H1 : Heap} (h : Wd G m H) (k : XKd) (hb : gBase G ≤ H.size) (ho : ∀ q : Nat, q < H.size → H1[q]? = H[q]?) (ha : va_at G.1 vwCl (H.size, xE G (mN m H.size k) H.size k) H1) : Wd G (mN m H.size k) H1 := by
  intro b k' hk
  by_cases hbs : b = H.size
  · subst hbs
    have hk2 : some k = some k' := by simpa [mN] using hk
    cases hk2
    exact ⟨ha, hb⟩
  · have hk2 : m.1 b = some k' := by simpa [mN, hbs] using hk
    obtain ⟨g1, g2⟩ := h b k' hk2
    refine ⟨?_, g2⟩
    rw [xE_off (m := m) (fun j => by simp [mN, hbs]) (fun j => by simp [mN, hbs]) (fun j => by simp [mN, hbs])]
    exact g1.kept (ho b g1.lt)
/-! the judgements -/
abbrev XR : Type := Option XV ⊕ String
/-- a method: its name, bytes, locals, answer's type, room, handlers -/
abbrev xMt : Type := MethodName × ByteArray × Nat × Option FieldType × Room × List (Nat × Nat × Nat × Nat)
def xcw (M : xMt) : Cond := match M.2.2.2.2.2 with
  | [] => .code M.1 M.2.1 M.2.2.1 M.2.2.2.1
  | hh => .codeWith M.1 M.2.1 M.2.2.1 M.2.2.2.1 hh
def xws (M : xMt) : List Cond := xcw M :: WS
def xQc (G : xG) (Q : XR → XM → Prop) : Array Value → State → Outcome → State → Prop := fun _ st oc t => (∃ (r : Option XV) (m' : XM), oc = .returned (r.map toV) ∧ Q (.inl r) m' ∧ Wd G m' t.heap) ∧ va_F (xA G) st t
def xXC (G : xG) (Q : XR → XM → Prop) : String → State → State → Prop := fun E st t => ∃ m' : XM, Q (.inr E) m' ∧ Wd G m' t.heap ∧ va_F (xA G) st t
/-- words that a call doesn't carry by the list: links of nest mates, castable, declares, not castable -/
def xNt (U : State) : Prop := (∀ q ∈ xNest, va_Nw (.methodLinkNest q.1 q.2.1 q.2.2.1 q.2.2.2) U) ∧ (∀ q ∈ xCast, va_Nw (.castable q.1 q.2) U) ∧ (∀ q ∈ xDecl, va_Nw (.declares q) U) ∧ (∀ q ∈ xNoc, va_Nc q.1 q.2 U) ∧ ∀ C ∈ xAo, va_AO C U
theorem xNt.moved {s U : State} (hW : s.WarmedH U.vm) (h : xNt s) : xNt U := ⟨fun q hq => (h.1 q hq).warmM hW, fun q hq => (h.2.1 q hq).warmC hW, fun q hq => (h.2.2.1 q hq).warmD hW, fun q hq => (h.2.2.2.1 q hq).moved hW.alike, fun C hC => (h.2.2.2.2 C hC).moved hW.alike⟩
def xSt (G : xG) (U : State) (H : Heap) : Prop := va_K G.1 vwCl (xtys G) U ∧ vx_Zq Bundle.tN "UNASSIGNED_STACK" Bundle.steD (xA G) U H ∧ vx_Zq Bundle.tN "SUPPRESSED_SENTINEL" Bundle.listD (xA G) U H ∧ gBase G ≤ H.size ∧ va_X G.2.2.2.1 G.2.2.2.2.1 G.2.2.2.2.2 U H ∧ G.2.2.2.1 < gBase G ∧ xNt U
def xPc (G : xG) (a : List XV) (m : XM) : Array Value → State → Prop := fun v U => v = (a.map toV).toArray ∧ Wd G m U.heap ∧ xSt G U U.heap
def CC (l : Launch) (G : xG) (M : xMt) (a : List XV) (m : XM) (Q : XR → XM → Prop) : Prop :=
  vx_Met l M.1 (xws M) M.2.2.2.2.1 (xPc G a m) (xQc G Q) (xXC G Q) M.2.2.2.2.1.cells M.2.2.2.2.1.slots (xA G)
def xC (l : Launch) (G : xG) (M : xMt) (p : Program) (s : State) (mid : MethodId) (args : Array Value) (meth : Method) (c : Code) : Prop :=
  p.tables.exec = Jvm.exec ∧ c.code = M.2.1 ∧ c.maxLocals = M.2.2.1 ∧ s.vm.findClass M.1.cls = some mid.cls ∧ (∀ w ∈ WS, w.before args s = true) ∧ meth.locks = false ∧ meth.sig.returnType = M.2.2.2.1 ∧ meth.name = M.1.name ∧ c.exceptionTable.toList = tableOf M.2.2.2.2.2 ∧ xSt G s s.heap ∧ l.stackTraces = false
def WW (l : Launch) (G : xG) (M : xMt) (pc : Nat) (L : List (Option XV)) (st : List XV) (m : XM) (bc bs : Nat) (Q : XR → XM → Prop) : Prop :=
  ∀ (p : Program) (e : Env) (s : State) (mid : MethodId) (args : Array Value) (below : List Frame) (meth : Method) (c : Code), xC l G M p s mid args meth c → ∀ (H : Heap) (locs : List Loc) (cells slots : Nat) (ls : Array Slot), Wd G m H → va_S (xA G) s.heap H locs → lh ls M.2.2.1 L → cells + bc ≤ M.2.2.2.2.1.cells → slots + bs ≤ M.2.2.2.2.1.slots →
    W p l e M.2.2.2.2.1 s mid args below meth c H locs cells slots (vx_MQ below (xQc G Q) (xXC G Q) args s M.2.2.2.2.1.cells M.2.2.2.2.1.slots (xA G)) (F0 mid pc ls (st.map toV))
