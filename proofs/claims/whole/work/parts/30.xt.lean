/-! what the cache's state outlives: new cells, changes in cells that are not the cache's -/
def Xt (K : Nat → Nat) (E : Nat → Prop) (m m' : XM) : Prop := (∀ b, m.1 b ≠ none → m'.1 b = m.1 b) ∧ (∀ b, m.1 b ≠ none → ¬ E b → m'.2.1 b = m.2.1 b ∧ m'.2.2.1 b = m.2.2.1 b ∧ m'.2.2.2 b = m.2.2.2 b) ∧ (∀ b, E b → ¬ clsK K b (m.1 b)) ∧ ∀ a, m.1 a = some (oB 1) → ∀ v, m.2.2.2 a 1 = some v → ¬ E v
section L2I
variable {K ar : Nat → Nat} {m m' : XM} {E : Nat → Prop} {pg : Nat → Nat} {Z : Nat → List Nat} {Y xs ys : List Nat} {w j a s p pa ix ia ps : Nat} {c fg fp : Nat → Int32} {A : AS} {k : XKd}
theorem Xt.at (h : Xt K E m m') {b : Nat} (hb : m.1 b = some k) (hk : clsK K b (some k)) : m'.1 b = some k ∧ m'.2.1 b = m.2.1 b ∧ m'.2.2.1 b = m.2.2.1 b ∧ m'.2.2.2 b = m.2.2.2 b := by
  have hn : m.1 b ≠ none := by rw [hb]; exact Option.some_ne_none k
  exact ⟨(h.1 b hn).trans hb, h.2.1 b hn (fun q => h.2.2.1 b q (by rw [hb]; exact hk))⟩
theorem Xt.item (h : Xt K E m m') (hi : Itm m a) : Itm m' a ∧ vlist m' a = vlist m a ∧ iw m' a = iw m a ∧ m'.2.2.1 a = m.2.2.1 a ∧ m'.2.1 a = m.2.1 a := by
  obtain ⟨h1, ⟨v, n, h2, h3, h4⟩, h5, h6⟩ := id hi
  have h1' : m.1 a = some (oB 1) := h1
  have h2' : m.2.2.2 a 1 = some v := h2
  have h3' : m.1 v = some (aR 0 n) := h3
  obtain ⟨k1, k2, k3, k4⟩ := h.at h1' (show 1 ≤ 4 by decide)
  have hvn : m.1 v ≠ none := by rw [h3']; exact Option.some_ne_none _
  have hv' : m'.1 v = some (aR 0 n) := (h.1 v hvn).trans h3'
  have hve := h.2.1 v hvn (h.2.2.2 a h1' v h2')
  have hl : vlen m' a = vlen m a := by
    unfold vlen
    rw [k4, h2']
    simp only [hv', h3']
  refine ⟨⟨k1, ⟨v, n, ?_, hv', h4⟩, ?_, ?_⟩, ?_, ?_, k3, k2⟩
  · show m'.2.2.2 a 1 = some v
    rw [k4]
    exact h2
  · show m'.2.1 a 2 = setF (m'.2.2.1 a 0)
    rw [k2, k3]
    exact h5
  · show m'.2.2.1 a 3 = bitF (m'.2.2.1 a 0)
    rw [k3]
    exact h6
  · unfold vlist
    rw [hl]
    apply List.map_congr_left
    intro i _
    unfold vals
    rw [k4, h2']
    show m'.2.1 v i = m.2.1 v i
    rw [hve.1]
  · unfold iw
    rw [hl]
theorem Xt.ws (h : Xt K E m m') (hx : ∀ a ∈ xs, Itm m a) : wsum m' xs = wsum m xs := by
  unfold wsum
  rw [List.map_congr_left (fun a ha => (h.item (hx a ha)).2.2.1)]
theorem Xt.bo (h : Xt K E m m') (hx : ∀ a ∈ xs, Itm m a) : bors m' xs = bors m xs := by
  have : ∀ (xs : List Nat) (b : Int64), (∀ a ∈ xs, Itm m a) → xs.foldl (fun f a => f ||| m'.2.2.1 a 3) b = xs.foldl (fun f a => f ||| m.2.2.1 a 3) b := by
    intro xs
    induction xs with
    | nil => intro b _; rfl
    | cons x xs ih =>
      intro b hx
      simp only [List.foldl_cons]
      rw [(h.item (hx x List.mem_cons_self)).2.2.2.1]
      exact ih _ (fun a ha => hx a (List.mem_cons_of_mem _ ha))
  exact this xs 0 hx
theorem Xt.pgk (h : Xt K E m m') (hp : PgOK m p pa xs) : PgOK m' p pa xs := by
  obtain ⟨g1, g2, g3, g4, g5, g6, g7, g8, g9⟩ := hp
  obtain ⟨k1, k2, k3, k4⟩ := h.at g1 (show 3 ≤ 4 by decide)
  obtain ⟨l1, -, -, l4⟩ := h.at g3 (Or.inl rfl)
  refine ⟨k1, ?_, l1, ?_, fun i hi => ?_, fun a ha => (h.item (g6 a ha)).1, ?_, by rw [h.ws g6]; exact g8, ?_⟩
  · show m'.2.2.2 p 0 = _
    rw [k4]; exact g2
  · show m'.2.1 p 1 = _
    rw [k2]; exact g4
  · show m'.2.2.2 pa i = _
    rw [l4]; exact g5 i hi
  · rw [h.ws g6]
    show m'.2.1 p 2 = _
    rw [k2]; exact g7
  · rw [h.bo g6]
    show m'.2.2.1 p 3 = _
    rw [k3]; exact g9
theorem Xt.ixk (h : Xt K E m m') (hps : ps = K 10) (hp : IxOK m ix ia ps ys) : IxOK m' ix ia ps ys := by
  obtain ⟨g1, g2, g3, g4, g5, g6, g7, g8, g9, g10⟩ := hp
  obtain ⟨k1, k2, k3, k4⟩ := h.at g1 (show 0 ≤ 4 by decide)
  obtain ⟨l1, -, -, l4⟩ := h.at g3 (Or.inl rfl)
  obtain ⟨n1, n2, -, -⟩ := h.at g5 (Or.inr (Or.inr ⟨rfl, Or.inr ⟨rfl, hps⟩⟩))
  refine ⟨k1, ?_, l1, ?_, n1, ?_, g7, fun i hi => ?_, fun a ha => (h.item (g9 a ha)).1, fun s hs => ?_⟩
  · show m'.2.2.2 ix 0 = _
    rw [k4]; exact g2
  · show m'.2.2.2 ix 1 = _
    rw [k4]; exact g4
  · show m'.2.1 ix 2 = _
    rw [k2]; exact g6
  · show m'.2.2.2 ia i = _
    rw [l4]; exact g8 i hi
  · have : cnt m' s ys = cnt m s ys := by
      unfold cnt
      exact List.countP_congr (fun a ha => by rw [(h.item (g9 a ha)).2.2.2.2])
    rw [this]
    show m'.2.1 ps s = _
    rw [n2]; exact g10 s hs
theorem Xt.ca (h : Xt K E m m') (hk1 : m'.1 (K 1) = m.1 (K 1)) (hc : CaOK m K ar pg Z Y w) : CaOK m' K ar pg Z Y w := by
  obtain ⟨⟨a1, a2, a3, a4, a5, a6, a7, a8, a9, a10, a11, a12, a13, a14, a15, a16, a17, a18, a19, a20, a21⟩, h2, h3, h4, h5⟩ := hc
  obtain ⟨e0, i0, -, r0⟩ := h.at a1 (show 4 ≤ 4 by decide)
  obtain ⟨e2, -, -, r2⟩ := h.at a5 (Or.inr (Or.inl rfl))
  obtain ⟨e3, i3, -, r3⟩ := h.at a7 (show 2 ≤ 4 by decide)
  obtain ⟨e4, -, -, -⟩ := h.at a9 (Or.inr (Or.inr ⟨rfl, Or.inl ⟨rfl, rfl⟩⟩))
  obtain ⟨e5, -, -, -⟩ := h.at a11 (Or.inl rfl)
  obtain ⟨e6, -, -, -⟩ := h.at a13 (Or.inl rfl)
  obtain ⟨e7, -, -, r7⟩ := h.at a15 (Or.inr (Or.inl rfl))
  have q0 : ∀ k, gR m' (K 0) k = gR m (K 0) k := fun k => congrFun r0 k
  have q3 : ∀ k, gR m' (K 3) k = gR m (K 3) k := fun k => congrFun r3 k
  refine ⟨⟨e0, (q0 0).trans a2, hk1.trans a3, (q0 1).trans a4, e2, (q0 2).trans a6, e3, (q0 3).trans a8, e4, (q0 4).trans a10, e5, (q0 5).trans a12, e6, (q3 0).trans a14, e7, (q3 1).trans a16, (q3 2).trans a17, (congrFun i3 3).trans a18, a19, fun i hi => (congrFun r2 i).trans (a20 i hi), fun i hi => (congrFun r7 i).trans (a21 i hi)⟩, fun j hj => h.pgk (h2 j hj), h.ixk rfl h3, h4, ?_⟩
  rcases h5 with q | ⟨a, q1, q2⟩
  · exact Or.inl ((q0 6).trans q)
  · exact Or.inr ⟨a, (q0 6).trans q1, (h.item q2).1⟩
theorem Xt.cr (h : Xt K E m m') (hc : CR K ar m pg Z Y c fg fp A m) : CR K ar m' pg Z Y c (fun a => m'.2.1 a 5) (fun a => m'.2.1 a 4) A m' := by
  obtain ⟨h1, h2, h3, h4, h5, h6, h7⟩ := hc
  have a3 : m.1 (K 1) = some (aR 0 8) := h1.1.1.2.2.1
  have a9 : m.1 (K 4) = some (aR 0 11) := h1.1.1.2.2.2.2.2.2.2.2.1
  have hk1 : m'.1 (K 1) = m.1 (K 1) := h.1 _ (by rw [a3]; exact Option.some_ne_none _)
  obtain ⟨-, i4, -, -⟩ := h.at a9 (Or.inr (Or.inr ⟨rfl, Or.inl ⟨rfl, rfl⟩⟩))
  have hf : ∀ a, Itm m a → m'.2.1 a 5 = fg a ∧ m'.2.1 a 4 = fp a := fun a ha => by
    have e := (h.item ha).2.2.2.2
    have := h1.2.2.1 a ha.1
    rw [e]
    exact this
  refine ⟨⟨h.ca hk1 h1.1, fun k => (congrFun i4 k).trans (h1.2.1 k), fun a _ => ⟨rfl, rfl⟩, Cl.rf⟩, h2, fun s hs => ?_, fun p hp hp' => ?_, ?_, h6, fun a ha => ?_⟩
  · rw [h3 s hs]
    apply List.map_congr_left
    intro a ha
    have hi := h1.itZ (j := s) (by omega) a ha
    obtain ⟨-, e1, -, e2, -⟩ := h.item hi
    unfold tS
    rw [e1, e2]
    simp only [(hf a hi).1]
  · rw [h4 p hp hp']
    apply List.map_congr_left
    intro a ha
    obtain ⟨-, e1, -, e2, -⟩ := h.item (h1.itZ (j := p) (by omega) a ha)
    unfold tL
    rw [e1, e2]
  · rw [h5]
    apply List.map_congr_left
    intro a ha
    have hi := h1.itY a ha
    obtain ⟨-, e1, -, e2, -⟩ := h.item hi
    unfold tY
    rw [e1, e2]
    simp only [(hf a hi).1, (hf a hi).2]
  · show m'.2.1 a 4 = nI (m'.2.1 a 4).toNatClampNeg
    rw [(hf a (h1.itY a ha)).2]
    exact h7 a ha
end L2I
