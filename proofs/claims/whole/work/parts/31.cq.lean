/-! the cache between calls: the cache without memory A, the buffer b, what the last get found fo, whether it is open op; N: cells that are no item's words -/
def FO (m : XM) (z : Nat) (fo : Option (List Int32)) : Prop := match fo with
  | none => m.2.2.2 z 6 = none
  | some v => ∃ a, m.2.2.2 z 6 = some a ∧ Itm m a ∧ vlist m a = v
def NV (N : Nat → Prop) (m : XM) : Prop := (∀ a, m.1 a = some (oB 1) → ∀ v, m.2.2.2 a 1 = some v → ¬ N v) ∧ ∀ b, N b → m.1 b ≠ none
def Ch (K : Nat → Nat) (A : AS) (m : XM) : Prop := ∃ (ar pg : Nat → Nat) (Z : Nat → List Nat) (Y : List Nat) (c fg fp : Nat → Int32), CR K ar m pg Z Y c fg fp A m
def CQ (K : Nat → Nat) (N : Nat → Prop) (A : AS) (b : Nat → Int32) (fo : Option (List Int32)) (op : Int32) (m : XM) : Prop :=
  Ch K A m ∧ AI A ∧ (∀ i, i < 8 → m.2.1 (K 1) i = b i) ∧ FO m (K 0) fo ∧ m.2.1 (K 0) 7 = op ∧ NV N m ∧ N (K 1)
def Ce (K : Nat → Nat) (m m' : XM) : Prop := (∀ b, m.1 b ≠ none → m'.1 b = m.1 b) ∧ ∀ b, m.1 b ≠ none → ¬ clsK K b (m.1 b) → b ≠ K 1 → m'.2.1 b = m.2.1 b ∧ m'.2.2.1 b = m.2.2.1 b ∧ m'.2.2.2 b = m.2.2.2 b
section L2J
variable {l : Launch} {G : xG} {Q : XR → XM → Prop} {K ar : Nat → Nat} {m0 m m' m'' : XM} {N : Nat → Prop} {pg : Nat → Nat} {Z : Nat → List Nat} {Y xs ys : List Nat} {w j a s : Nat} {c fg fp : Nat → Int32} {A B : AS} {b : Nat → Int32} {fo : Option (List Int32)} {op : Int32} {key : Int64}
theorem Ce.rf : Ce K m m := ⟨fun _ _ => rfl, fun _ _ _ _ => ⟨rfl, rfl, rfl⟩⟩
theorem Ce.tr (h : Ce K m m') (h' : Ce K m' m'') : Ce K m m'' := by
  refine ⟨fun x hx => ?_, fun x hx hc h1 => ?_⟩
  · rw [h'.1 x (by rw [h.1 x hx]; exact hx), h.1 x hx]
  · obtain ⟨q1, q2, q3⟩ := h.2 x hx hc h1
    obtain ⟨r1, r2, r3⟩ := h'.2 x (by rw [h.1 x hx]; exact hx) (by rw [h.1 x hx]; exact hc) h1
    exact ⟨r1.trans q1, r2.trans q2, r3.trans q3⟩
theorem Cf.ce (h : Cf K m m') : Ce K m m' := ⟨fun x _ => by rw [h.1], fun x _ hc _ => h.2.1 x hc⟩
theorem CR.kd1 (h : CR K ar m0 pg Z Y c fg fp A m) : m.1 (K 1) = some (aR 0 8) := h.1.1.1.2.2.1
theorem CR.kd0 (h : CR K ar m0 pg Z Y c fg fp A m) : m.1 (K 0) = some (oB 4) := h.1.1.1.1
theorem ncls1 : ¬ clsK K (K 1) (some (aR 0 8)) := by
  show ¬ (0 = 3 ∨ 0 = 4 ∨ (0 = 0 ∧ ((8 = 11 ∧ K 1 = K 4) ∨ (8 = 64 ∧ K 1 = K 10))))
  omega
/-- a call of the cache's own: what it leaves alone -/
theorem CQ.cf (h : CQ K N A b fo op m) (hf : Cf K m m') (hc : Ch K B m') (hB : AI B) : CQ K N B b fo op m' := by
  obtain ⟨⟨ar, pg, Z, Y, c, fg, fp, h1⟩, h2, h3, h4, h5, h6, h7⟩ := h
  refine ⟨hc, hB, fun i hi => ?_, ?_, ?_, ⟨fun a ha v hv => ?_, fun x hx => ?_⟩, h7⟩
  · rw [(hf.2.1 (K 1) (by rw [h1.kd1]; exact ncls1)).1]
    exact h3 i hi
  · cases fo with
    | none =>
      show m'.2.2.2 (K 0) 6 = none
      rw [hf.2.2.2.2]
      exact h4
    | some v =>
      obtain ⟨a, q1, q2, q3⟩ := h4
      refine ⟨a, ?_, hf.it q2, ?_⟩
      · rw [hf.2.2.2.2]
        exact q1
      · rw [(hf.vl q2).1]
        exact q3
  · rw [hf.2.2.2.1]
    exact h5
  · rw [hf.1] at ha
    rw [(hf.2.2.1 a ha).2.1] at hv
    exact h6.1 a ha v hv
  · rw [hf.1]
    exact h6.2 x hx
theorem CR.of (h : CR K ar m pg Z Y c fg fp A m) (hc : CaOK m' K ar pg Z Y A.w) (hk : ∀ k, m'.2.1 (K 4) k = m.2.1 (K 4) k) (hi : ∀ a, Itm m a → vlist m' a = vlist m a ∧ m'.2.2.1 a 0 = m.2.2.1 a 0 ∧ m'.2.1 a 5 = m.2.1 a 5 ∧ m'.2.1 a 4 = m.2.1 a 4) : CR K ar m' pg Z Y c (fun a => m'.2.1 a 5) (fun a => m'.2.1 a 4) A m' := by
  obtain ⟨h1, h2, h3, h4, h5, h6, h7⟩ := h
  have hf : ∀ a, Itm m a → m'.2.1 a 5 = fg a ∧ m'.2.1 a 4 = fp a := fun a ha => by
    obtain ⟨-, -, e5, e4⟩ := hi a ha
    rw [e5, e4]
    exact h1.2.2.1 a ha.1
  refine ⟨⟨hc, fun k => (hk k).trans (h1.2.1 k), fun a _ => ⟨rfl, rfl⟩, Cl.rf⟩, h2, fun s hs => ?_, fun p hp hp' => ?_, ?_, h6, fun a ha => ?_⟩
  · rw [h3 s hs]
    apply List.map_congr_left
    intro a ha
    have hi' := h1.itZ (j := s) (by omega) a ha
    obtain ⟨e1, e2, -, -⟩ := hi a hi'
    unfold tS
    rw [e1, e2]
    simp only [(hf a hi').1]
  · rw [h4 p hp hp']
    apply List.map_congr_left
    intro a ha
    obtain ⟨e1, e2, -, -⟩ := hi a (h1.itZ (j := p) (by omega) a ha)
    unfold tL
    rw [e1, e2]
  · rw [h5]
    apply List.map_congr_left
    intro a ha
    have hi' := h1.itY a ha
    obtain ⟨e1, e2, -, -⟩ := hi a hi'
    unfold tY
    rw [e1, e2]
    simp only [(hf a hi').1, (hf a hi').2]
  · show m'.2.1 a 4 = nI (m'.2.1 a 4).toNatClampNeg
    rw [(hf a (h1.itY a ha)).2]
    exact h7 a ha
theorem vlist_fr {F : Nat → Prop} (hi : Itm m a) (hf : Fr F m m') (ha : ¬ F a) (hv : ∀ v, m.2.2.2 a 1 = some v → ¬ F v) : vlist m' a = vlist m a := by
  obtain ⟨v, h1, h2, h3, h4⟩ := hi.vl
  unfold vlist
  rw [vlen_fr hf ha]
  apply List.map_congr_left
  intro i _
  unfold vals
  rw [show m'.2.2.2 a 1 = m.2.2.2 a 1 from hf.gR ha 1, h1]
  exact hf.gI (hv v h1) i
/-- two fields of the cache's own cell may change: what was found, whether it is open -/
theorem Ch.k0 (h : Ch K A m) (hf : Fr (fun x => x = K 0) m m') (hr : ∀ k, k ≠ 6 → m'.2.2.2 (K 0) k = m.2.2.2 (K 0) k) (h6 : CaF m K → CaF m' K) : Ch K A m' := by
  obtain ⟨ar, pg, Z, Y, c, fg, fp, h⟩ := h
  refine ⟨ar, pg, Z, Y, c, (fun a => m'.2.1 a 5), (fun a => m'.2.1 a 4), h.of ?_ ?_ ?_⟩
  · obtain ⟨⟨a1, a2, a3, a4, a5, a6, a7, a8, a9, a10, a11, a12, a13, a14, a15, a16, a17, a18, a19, a20, a21⟩, h2, h3, h4, h5⟩ := h.1.1
    have nk : ∀ {x : Nat} {k : XKd}, m.1 x = some k → k ≠ oB 4 → ¬ x = K 0 := fun hx hk q => hk (by rw [q] at hx; exact Option.some.inj (hx.symm.trans a1))
    have q0 : ∀ k, k ≠ 6 → gR m' (K 0) k = gR m (K 0) k := hr
    have q3 := nk a7 (by decide)
    refine ⟨⟨(hf.kd _).trans a1, (q0 0 (by decide)).trans a2, (hf.kd _).trans a3, (q0 1 (by decide)).trans a4, (hf.kd _).trans a5, (q0 2 (by decide)).trans a6, (hf.kd _).trans a7, (q0 3 (by decide)).trans a8, (hf.kd _).trans a9, (q0 4 (by decide)).trans a10, (hf.kd _).trans a11, (q0 5 (by decide)).trans a12, (hf.kd _).trans a13, (hf.gR q3 _).trans a14, (hf.kd _).trans a15, (hf.gR q3 _).trans a16, (hf.gR q3 _).trans a17, (hf.gI q3 _).trans a18, a19, fun i hi => (hf.gR (nk a5 (by decide)) _).trans (a20 i hi), fun i hi => (hf.gR (nk a15 (by decide)) _).trans (a21 i hi)⟩, fun j hj => ?_, ?_, h4, h6 h5⟩
    · have hp := h2 j hj
      exact hp.fr hf (nk hp.1 (by decide)) (nk hp.2.2.1 (by decide)) (fun a ha => nk (hp.2.2.2.2.2.1 a ha).1 (by decide))
    · obtain ⟨i1, i2, i3, i4, i5, i6, i7, i8, i9, i10⟩ := id h3
      exact h3.fr hf (nk i1 (by decide)) (nk i3 (by decide)) (nk i5 (by decide)) (fun a ha => nk (i9 a ha).1 (by decide))
  · intro k
    exact hf.gI (fun q => by
      have a9 : m.1 (K 4) = some (aR 0 11) := h.1.1.1.2.2.2.2.2.2.2.2.1
      rw [q, h.kd0] at a9
      cases a9) k
  · intro a ha
    have na : ¬ a = K 0 := fun q => by
      have := ha.1
      rw [q, show kd m (K 0) = _ from h.kd0] at this
      cases this
    refine ⟨vlist_fr ha hf na (fun v hv q => ?_), hf.gL na 0, hf.gI na 5, hf.gI na 4⟩
    obtain ⟨v', h1, h2, -, -⟩ := ha.vl
    rw [hv] at h1
    cases h1
    rw [q, h.kd0] at h2
    cases h2
theorem Itm.k0 (hi : Itm m a) (hk : m.1 (K 0) = some (oB 4)) (hf : Fr (fun x => x = K 0) m m') : Itm m' a ∧ vlist m' a = vlist m a := by
  have na : ¬ a = K 0 := fun q => by
    have := hi.1
    rw [q, show kd m (K 0) = _ from hk] at this
    cases this
  refine ⟨hi.fr hf na, vlist_fr hi hf na (fun v hv q => ?_)⟩
  obtain ⟨v', h1, h2, -, -⟩ := hi.vl
  rw [hv] at h1
  cases h1
  rw [q, hk] at h2
  cases h2
theorem CQ.kd0 (h : CQ K N A b fo op m) : m.1 (K 0) = some (oB 4) := by
  obtain ⟨ar, pg, Z, Y, c, fg, fp, h1⟩ := h.1
  exact h1.kd0
theorem CQ.kd1 (h : CQ K N A b fo op m) : m.1 (K 1) = some (aR 0 8) := by
  obtain ⟨ar, pg, Z, Y, c, fg, fp, h1⟩ := h.1
  exact h1.kd1
theorem Fr.ce0 (h : m.1 (K 0) = some (oB 4)) (hf : Fr (fun x => x = K 0) m m') : Ce K m m' :=
  ⟨fun x _ => hf.kd x, fun x hx hc h1 => hf.2 x (fun q => hc (by rw [q, h]; show 4 ≤ 4; decide))⟩
theorem CQ.op0 (h : CQ K N A b fo op m) (v : Int32) : CQ K N A b fo v (mI m (K 0) 7 v) ∧ Ce K m (mI m (K 0) 7 v) := by
  have hk := h.kd0
  have hf : Fr (fun x => x = K 0) m (mI m (K 0) 7 v) := frI 7 v rfl
  obtain ⟨h1, h2, h3, h4, h5, h6, h7⟩ := id h
  refine ⟨⟨h1.k0 hf (fun _ _ => rfl) ?_, h2, fun i hi => ?_, ?_, ?_, h6, h7⟩, Fr.ce0 hk hf⟩
  · rintro (q | ⟨a, q1, q2⟩)
    · exact Or.inl q
    · exact Or.inr ⟨a, q1, (q2.k0 hk hf).1⟩
  · have n1 : K 1 ≠ K 0 := fun q => by
      have := h.kd1
      rw [q, hk] at this
      cases this
    rw [show (mI m (K 0) 7 v).2.1 (K 1) i = m.2.1 (K 1) i from hf.gI n1 i]
    exact h3 i hi
  · cases fo with
    | none => exact h4
    | some v' =>
      obtain ⟨a, q1, q2, q3⟩ := h4
      exact ⟨a, q1, (q2.k0 hk hf).1, (q2.k0 hk hf).2.trans q3⟩
  · simp [mI]
theorem CQ.fo0 (h : CQ K N A b fo op m) (o : Option Nat) (fo' : Option (List Int32)) (ho : match fo' with
    | none => o = none
    | some v => ∃ a, o = some a ∧ Itm m a ∧ vlist m a = v) : CQ K N A b fo' op (mR m (K 0) 6 o) ∧ Ce K m (mR m (K 0) 6 o) := by
  have hk := h.kd0
  have hf : Fr (fun x => x = K 0) m (mR m (K 0) 6 o) := frR 6 o rfl
  obtain ⟨h1, h2, h3, h4, h5, h6, h7⟩ := id h
  have e6 : (mR m (K 0) 6 o).2.2.2 (K 0) 6 = o := by simp [mR]
  refine ⟨⟨h1.k0 hf (fun k hk => by simp [mR, hk]) ?_, h2, h3, ?_, h5, ⟨fun a ha v hv => ?_, h6.2⟩, h7⟩, Fr.ce0 hk hf⟩
  · intro _
    cases fo' with
    | none => exact Or.inl (e6.trans ho)
    | some v =>
      obtain ⟨a, q1, q2, -⟩ := ho
      exact Or.inr ⟨a, e6.trans q1, (q2.k0 hk hf).1⟩
  · cases fo' with
    | none => exact e6.trans ho
    | some v =>
      obtain ⟨a, q1, q2, q3⟩ := ho
      exact ⟨a, e6.trans q1, (q2.k0 hk hf).1, (q2.k0 hk hf).2.trans q3⟩
  · have na : a ≠ K 0 := fun q => by
      have : m.1 a = some (oB 1) := ha
      rw [q, hk] at this
      cases this
    refine h6.1 a ha v ?_
    rw [← hv]
    simp [mR, na]
theorem xN_of {x : Int32} (h : ¬ x < 0) : x = nI x.toNatClampNeg ∧ x.toNatClampNeg < 2 ^ 31 := by
  rw [Int32.lt_iff_toInt_lt] at h
  have h0 : (0 : Int32).toInt = 0 := rfl
  have h1 := Int32.toInt_lt x
  have e : x.toNatClampNeg = x.toInt.toNat := rfl
  constructor
  · apply Int32.toInt_inj.mp
    show x.toInt = (Int32.ofNat x.toNatClampNeg).toInt
    rw [Int32.toInt_ofNat_of_lt (by omega)]
    omega
  · omega
theorem c_Crefuse (hst : l.stackTraces = false) (hk : m.1 (K 0) = some (oB 4)) (ho : m.2.1 (K 0) 7 = op) (h1 : ¬ op = 0 → Q (.inl none) m) (h0 : op = 0 → Q (.inr "java/lang/IllegalStateException") m) : CC l G xC_refuseWhenClosed [vR (some (K 0))] m Q := by
  refine bC_refuseWhenClosed hst ⟨hk, fun q => h1 (by rw [← ho]; exact q), fun q => ⟨by omega, by omega, h0 (by rw [← ho]; exact q)⟩⟩
theorem c_Cclose (hst : l.stackTraces = false) (h : CQ K N A b fo op m) (h0 : op = 0 → Q (.inr "java/lang/IllegalStateException") m) (h1 : ¬ op = 0 → ∀ m', Ce K m m' → CQ K N A b fo 0 m' → Q (.inl none) m') : CC l G xC_close [vR (some (K 0))] m Q := by
  refine bC_close hst ⟨h.kd0, 0, 0, rfl, rfl, c_Crefuse hst h.kd0 h.2.2.2.2.1 (fun q => ⟨h.kd0, ?_⟩) h0⟩
  rintro m8 rfl
  exact h1 q _ (h.op0 0).2 (h.op0 0).1
theorem CQ.log (h : CQ K N A b fo op m) : gR m (K 0) 2 = some (K 3) ∧ kd m (K 3) = some (oB 2) ∧ gR m (K 3) 1 = some (K 8) ∧ kd m (K 8) = some (oB 0) ∧ gI m (K 8) 2 = nI A.Y.length ∧ gI m (K 3) 3 = nI A.w ∧ A.w < 2 ^ 29 := by
  obtain ⟨ar, pg, Z, Y, c, fg, fp, h1⟩ := h.1
  obtain ⟨a1, a2, a3, a4, a5, a6, a7, a8, a9, a10, a11, a12, a13, a14, a15, a16, a17, a18, a19, a20, a21⟩ := id h1.1.1.1
  have hx := h1.1.1.2.2.1
  refine ⟨a6, a7, a16, hx.1, ?_, a18, a19⟩
  have : A.Y.length = Y.length := by rw [h1.2.2.2.2.1, List.length_map]
  rw [this]
  exact hx.2.2.2.2.2.1
theorem c_Copen (hst : l.stackTraces = false) (h : CQ K N A b fo op m) (h1 : ¬ op = 0 → Q (.inr "java/lang/IllegalStateException") m) (h0 : op = 0 → ∀ m', Ce K m m' → CQ K N A b fo 1 m' → Q (.inl (some (vI (nI A.Y.length)))) m') : CC l G xC_open [vR (some (K 0))] m Q := by
  have ho := h.2.2.2.2.1
  obtain ⟨l1, l2, l3, l4, l5, -, -⟩ := h.log
  refine bC_open hst ⟨h.kd0, fun q => ?_, fun q => ⟨by omega, by omega, h1 (by rw [← ho]; exact q)⟩⟩
  rintro m2 rfl
  refine ⟨K 3, l1, l2, K 8, l3, l4, ?_⟩
  have := h0 (by rw [← ho]; exact q) _ (h.op0 1).2 (h.op0 1).1
  obtain ⟨-, -, -, -, k5, -, -⟩ := (h.op0 1).1.log
  rw [k5]
  exact this
theorem c_Cgot {x : Int32} (hst : l.stackTraces = false) (h : CQ K N A b fo op m) (h0 : (fo = none ∨ x < 0 ∨ ∃ v, fo = some v ∧ v.length ≤ x.toNatClampNeg) → Q (.inr "java/lang/IndexOutOfBoundsException") m)
    (h1 : ∀ v y, fo = some v → ¬ x < 0 → v[x.toNatClampNeg]? = some y → Q (.inl (some (vI y))) m) : CC l G xC_got [vR (some (K 0)), vI x] m Q := by
  have hf := h.2.2.2.1
  refine bC_got hst ⟨h.kd0, fun q => ⟨by omega, by omega, h0 (Or.inl ?_)⟩, fun a2 q => ⟨fun q2 => ⟨by omega, by omega, h0 (Or.inr (Or.inl q2))⟩, fun q2 => ?_⟩⟩
  · cases fo with
    | none => rfl
    | some v =>
      obtain ⟨a, q1, -, -⟩ := hf
      rw [show m.2.2.2 (K 0) 6 = none from q] at q1
      cases q1
  · cases fo with
    | none =>
      have hf' : m.2.2.2 (K 0) 6 = none := hf
      rw [show m.2.2.2 (K 0) 6 = some a2 from q] at hf'
      cases hf'
    | some v =>
      obtain ⟨a, q3, q4, q5⟩ := hf
      rw [show m.2.2.2 (K 0) 6 = some a2 from q] at q3
      cases q3
      obtain ⟨u, u1, u2, u3, u4⟩ := q4.vl
      have hlen : v.length = vlen m a2 := by
        rw [← q5]
        unfold vlist
        simp
      obtain ⟨e1, e2⟩ := xN_of q2
      generalize x.toNatClampNeg = n at *
      subst e1
      have hlt : (nI n < Int32.ofNat (vlen m a2)) ↔ n < vlen m a2 := by
        rw [Int32.lt_iff_toInt_lt]
        show (nI n).toInt < (nI (vlen m a2)).toInt ↔ _
        rw [show (nI n).toInt = (n : Int) from Int32.toInt_ofNat_of_lt (by omega), show (nI (vlen m a2)).toInt = ((vlen m a2 : Nat) : Int) from Int32.toInt_ofNat_of_lt (by omega)]
        omega
      refine ⟨q4.1, u, u1, vlen m a2, u2, fun q6 => ⟨vp_in_nI ?_ (by omega), ?_⟩, fun q6 => ⟨by omega, by omega, h0 (Or.inr (Or.inr ⟨v, rfl, ?_⟩))⟩⟩
      · exact hlt.mp q6
      · refine h1 v _ rfl q2 ?_
        rw [← q5]
        unfold vlist vals
        rw [u1, List.getElem?_map, List.getElem?_range (hlt.mp q6)]
        rfl
      · rw [hlen]
        have : ¬ n < vlen m a2 := fun r => q6 (hlt.mpr r)
        omega
end L2J
