/-! the cache's state by addresses: counts c, items' marks fg and log pages fp; m0 the memory that the call began with (keys, sets, words of items are those of m0) -/
def clsK (K : Nat → Nat) (b : Nat) (k : Option XKd) : Prop := match k with
  | some (.inl c) => c ≤ 4
  | some (.inr (t, n)) => t = 3 ∨ t = 4 ∨ (t = 0 ∧ ((n = 11 ∧ b = K 4) ∨ (n = 64 ∧ b = K 10)))
  | none => False
def Cl (K : Nat → Nat) (m0 m : XM) : Prop := m.1 = m0.1 ∧ (∀ b, ¬ clsK K b (m0.1 b) → m.2.1 b = m0.2.1 b ∧ m.2.2.1 b = m0.2.2.1 b ∧ m.2.2.2 b = m0.2.2.2 b) ∧ (∀ a, m0.1 a = some (oB 1) → m.2.2.1 a = m0.2.2.1 a ∧ m.2.2.2 a = m0.2.2.2 a ∧ ∀ k, k ≠ 4 → k ≠ 5 → m.2.1 a k = m0.2.1 a k) ∧ m.2.1 (K 0) = m0.2.1 (K 0) ∧ m.2.2.2 (K 0) = m0.2.2.2 (K 0) ∧ m.2.2.2 (K 6) = m0.2.2.2 (K 6)
def CS (K ar : Nat → Nat) (m0 : XM) (pg : Nat → Nat) (Z : Nat → List Nat) (Y : List Nat) (w : Nat) (c : Nat → Int32) (fg fp : Nat → Int32) (m : XM) : Prop := CaOK m K ar pg Z Y w ∧ (∀ k, m.2.1 (K 4) k = c k) ∧ (∀ a, m0.1 a = some (oB 1) → m.2.1 a 5 = fg a ∧ m.2.1 a 4 = fp a) ∧ Cl K m0 m
section L2t
variable {K ar : Nat → Nat} {m0 m m' : XM} {F : Nat → Prop} {pg : Nat → Nat} {Z : Nat → List Nat} {Y Y' xs : List Nat} {w j a : Nat} {c fg fp : Nat → Int32}
theorem clsF {b : Nat} {k : XKd} (a1 : m.1 (K 0) = some (oB 4)) (a13 : m.1 (K 6) = some (aR 3 32)) (e : m.1 b = some k) (hk : clsK K b (some k)) (h1 : k ≠ oB 1) (h0 : k ≠ oB 4) (h6 : k ≠ aR 3 32) : clsK K b (m.1 b) ∧ ¬ m.1 b = some (oB 1) ∧ b ≠ K 0 ∧ b ≠ K 6 := by
  refine ⟨by rw [e]; exact hk, fun q => ?_, fun q => ?_, fun q => ?_⟩
  · exact h1 (Option.some.inj (e.symm.trans q))
  · subst q
    exact h0 (Option.some.inj (e.symm.trans a1))
  · subst q
    exact h6 (Option.some.inj (e.symm.trans a13))
theorem Cl.rf : Cl K m m := ⟨rfl, fun _ _ => ⟨rfl, rfl, rfl⟩, fun _ _ => ⟨rfl, rfl, fun _ _ _ => rfl⟩, rfl, rfl, rfl⟩
theorem Cl.fr (h : Cl K m0 m) (hf : Fr F m m') (hF : ∀ b, F b → clsK K b (m.1 b) ∧ ¬ m.1 b = some (oB 1) ∧ b ≠ K 0 ∧ b ≠ K 6) : Cl K m0 m' := by
  obtain ⟨h1, h2, h3, h4, h5, h6⟩ := h
  refine ⟨hf.1.trans h1, fun b hb => ?_, fun a ha => ?_, ?_, ?_, ?_⟩
  · have : ¬ F b := fun q => hb (by rw [← h1]; exact (hF b q).1)
    obtain ⟨g1, g2, g3⟩ := hf.2 b this
    obtain ⟨k1, k2, k3⟩ := h2 b hb
    exact ⟨g1.trans k1, g2.trans k2, g3.trans k3⟩
  · have : ¬ F a := fun q => (hF a q).2.1 (by rw [h1]; exact ha)
    obtain ⟨g1, g2, g3⟩ := hf.2 a this
    obtain ⟨k1, k2, k3⟩ := h3 a ha
    exact ⟨g2.trans k1, g3.trans k2, fun k n4 n5 => by rw [g1]; exact k3 k n4 n5⟩
  · exact (hf.2 _ (fun q => (hF _ q).2.2.1 rfl)).1.trans h4
  · exact (hf.2 _ (fun q => (hF _ q).2.2.1 rfl)).2.2.trans h5
  · exact (hf.2 _ (fun q => (hF _ q).2.2.2 rfl)).2.2.trans h6
theorem CS.kd0 (h : CS K ar m0 pg Z Y w c fg fp m) : m.1 = m0.1 := h.2.2.2.1
theorem CS.key (h : CS K ar m0 pg Z Y w c fg fp m) (ha : m0.1 a = some (oB 1)) (k : Nat) : m.2.2.1 a k = m0.2.2.1 a k := by rw [(h.2.2.2.2.2.1 a ha).1]
theorem CS.itm (h : CS K ar m0 pg Z Y w c fg fp m) (ha : m.1 a = some (oB 1)) : m0.1 a = some (oB 1) := by rw [← h.kd0]; exact ha
theorem vlen_eq (e1 : m.2.2.2 a = m0.2.2.2 a) (e2 : m.1 = m0.1) : vlen m a = vlen m0 a := by
  unfold vlen
  rw [e1, e2]
theorem CS.wd (h : CS K ar m0 pg Z Y w c fg fp m) (ha : m0.1 a = some (oB 1)) : iw m a = iw m0 a := by
  unfold iw
  rw [vlen_eq (h.2.2.2.2.2.1 a ha).2.1 h.kd0]
theorem CS.ws (h : CS K ar m0 pg Z Y w c fg fp m) (hx : ∀ a ∈ xs, m0.1 a = some (oB 1)) : wsum m xs = wsum m0 xs := by
  unfold wsum
  rw [List.map_congr_left (fun a ha => h.wd (hx a ha))]
theorem CS.inZ (h : CS K ar m0 pg Z Y w c fg fp m) (hj : j < 97) : ∀ a ∈ Z j, m0.1 a = some (oB 1) := fun a ha => h.itm ((h.1.2.1 j hj).2.2.2.2.2.1 a ha).1
theorem CS.inY (h : CS K ar m0 pg Z Y w c fg fp m) : ∀ a ∈ Y, m0.1 a = some (oB 1) := fun a ha => h.itm (h.1.2.2.1.2.2.2.2.2.2.2.2.1 a ha).1
/-- one page's items -/
theorem CS.page (h : CS K ar m0 pg Z Y w c fg fp m) (hj : j < 97) (hf : Fr (PF (pg j) (ar (pg j))) m m') (hp : PgOK m' (pg j) (ar (pg j)) xs) : CS K ar m0 pg (up Z j xs) Y w c fg fp m' := by
  have hpj := h.1.2.1 j hj
  have a9 : m.1 (K 4) = some (aR 0 11) := h.1.1.2.2.2.2.2.2.2.2.1
  have hF : ∀ b, PF (pg j) (ar (pg j)) b → clsK K b (m.1 b) ∧ ¬ m.1 b = some (oB 1) ∧ b ≠ K 0 ∧ b ≠ K 6 := by
    intro b hb
    have a1 : m.1 (K 0) = some (oB 4) := h.1.1.1
    have a13 : m.1 (K 6) = some (aR 3 32) := h.1.1.2.2.2.2.2.2.2.2.2.2.2.2.1
    rcases PF.kind hpj hb with e | e
    · exact clsF a1 a13 e (show 3 ≤ 4 by decide) (by decide) (by decide) (by decide)
    · exact clsF a1 a13 e (Or.inl rfl) (by decide) (by decide) (by decide)
  have n4 : ¬ PF (pg j) (ar (pg j)) (K 4) := fun q => by
    rcases PF.kind hpj q with e | e <;> · rw [a9] at e; cases e
  refine ⟨h.1.page hj hf hp, fun k => (hf.gI n4 k).trans (h.2.1 k), fun a ha => ?_, h.2.2.2.fr hf hF⟩
  have na : ¬ PF (pg j) (ar (pg j)) a := fun q => (hF a q).2.1 (by rw [h.kd0]; exact ha)
  exact ⟨(hf.gI na 5).trans (h.2.2.1 a ha).1, (hf.gI na 4).trans (h.2.2.1 a ha).2⟩
theorem CS.index (h : CS K ar m0 pg Z Y w c fg fp m) (hf : Fr (fun b => XF (K 8) (K 9) (K 10) b ∨ b = K 5) m m') (hx : IxOK m' (K 8) (K 9) (K 10) Y') : CS K ar m0 pg Z Y' w c fg fp m' := by
  have a9 : m.1 (K 4) = some (aR 0 11) := h.1.1.2.2.2.2.2.2.2.2.1
  have a1 : m.1 (K 0) = some (oB 4) := h.1.1.1
  have a13 : m.1 (K 6) = some (aR 3 32) := h.1.1.2.2.2.2.2.2.2.2.2.2.2.2.1
  have hk : ∀ b, (XF (K 8) (K 9) (K 10) b ∨ b = K 5) → m.1 b = some (oB 0) ∨ m.1 b = some (aR 3 264) ∨ (m.1 b = some (aR 0 64) ∧ b = K 10) := by
    rintro b ((q | q | q) | q)
    · exact Or.inl (by rw [q]; exact h.1.2.2.1.1)
    · exact Or.inr (Or.inl (by rw [q]; exact h.1.2.2.1.2.2.1))
    · exact Or.inr (Or.inr ⟨by rw [q]; exact h.1.2.2.1.2.2.2.2.1, q⟩)
    · subst q
      exact Or.inr (Or.inl h.1.1.2.2.2.2.2.2.2.2.2.2.1)
  have hF : ∀ b, (XF (K 8) (K 9) (K 10) b ∨ b = K 5) → clsK K b (m.1 b) ∧ ¬ m.1 b = some (oB 1) ∧ b ≠ K 0 ∧ b ≠ K 6 := by
    intro b hb
    rcases hk b hb with e | e | ⟨e, e'⟩
    · exact clsF a1 a13 e (show 0 ≤ 4 by decide) (by decide) (by decide) (by decide)
    · exact clsF a1 a13 e (Or.inl rfl) (by decide) (by decide) (by decide)
    · exact clsF a1 a13 e (Or.inr (Or.inr ⟨rfl, Or.inr ⟨rfl, e'⟩⟩)) (by decide) (by decide) (by decide)
  have n4 : ¬ (XF (K 8) (K 9) (K 10) (K 4) ∨ K 4 = K 5) := fun q => by
    rcases hk _ q with e | e | ⟨e, -⟩ <;> · rw [a9] at e; cases e
  refine ⟨h.1.index (Or.inl rfl) hf hx, fun k => (hf.gI n4 k).trans (h.2.1 k), fun a ha => ?_, h.2.2.2.fr hf hF⟩
  have na : ¬ (XF (K 8) (K 9) (K 10) a ∨ a = K 5) := fun q => (hF a q).2.1 (by rw [h.kd0]; exact ha)
  exact ⟨(hf.gI na 5).trans (h.2.2.1 a ha).1, (hf.gI na 4).trans (h.2.2.1 a ha).2⟩
theorem CS.count (h : CS K ar m0 pg Z Y w c fg fp m) (k : Nat) (v : Int32) : CS K ar m0 pg Z Y w (up c k v) fg fp (mI m (K 4) k v) := by
  have a9 : m.1 (K 4) = some (aR 0 11) := h.1.1.2.2.2.2.2.2.2.2.1
  have a1 : m.1 (K 0) = some (oB 4) := h.1.1.1
  have a13 : m.1 (K 6) = some (aR 3 32) := h.1.1.2.2.2.2.2.2.2.2.2.2.2.2.1
  have n04 : K 4 ≠ K 0 := fun q => by rw [q, a1] at a9; cases a9
  refine ⟨h.1.count k v, fun i => ?_, fun a ha => ?_, h.2.2.2.fr (F := fun b => b = K 4) (frI (F := fun b => b = K 4) k v rfl) ?_⟩
  · have := h.2.1 i
    by_cases e : i = k
    · simp [mI, up, e]
    · simp [mI, up, e, this]
  · have na : a ≠ K 4 := fun q => by
      rw [← h.kd0, q, a9] at ha
      cases ha
    have := h.2.2.1 a ha
    simp [mI, na, this]
  · rintro b rfl
    exact clsF a1 a13 a9 (Or.inr (Or.inr ⟨rfl, Or.inl ⟨rfl, rfl⟩⟩)) (by decide) (by decide) (by decide)
theorem CS.got (h : CS K ar m0 pg Z Y w c fg fp m) (ha : m0.1 a = some (oB 1)) (v : Int32) : CS K ar m0 pg Z Y w c (up fg a v) fp (mI m a 5 v) := by
  have ha' : m.1 a = some (oB 1) := by rw [h.kd0]; exact ha
  have a9 : m.1 (K 4) = some (aR 0 11) := h.1.1.2.2.2.2.2.2.2.2.1
  have a1 : m.1 (K 0) = some (oB 4) := h.1.1.1
  have n4 : K 4 ≠ a := fun q => by rw [q, ha'] at a9; cases a9
  have n0 : K 0 ≠ a := fun q => by rw [q, ha'] at a1; cases a1
  obtain ⟨h1, h2, h3, h4, h5⟩ := h.2.2.2
  refine ⟨h.1.fl (flI v ha' (Or.inr rfl)), fun i => ?_, fun b hb => ?_, h1, fun b hb => ?_, fun b hb => ?_, ?_, h5⟩
  · rw [← h.2.1 i]
    simp [mI, n4]
  · have := h.2.2.1 b hb
    by_cases e : b = a
    · subst e
      simp [mI, up, this]
    · simp [mI, up, e, this]
  · have : b ≠ a := fun q => hb (by rw [q, ha]; show 1 ≤ 4; decide)
    obtain ⟨k1, k2, k3⟩ := h2 b hb
    exact ⟨by rw [← k1]; funext i; simp [mI, this], k2, k3⟩
  · obtain ⟨k1, k2, k3⟩ := h3 b hb
    refine ⟨k1, k2, fun k g4 g5 => ?_⟩
    rw [← k3 k g4 g5]
    simp [mI, g5]
  · rw [← h4]
    funext i
    simp [mI, n0]
end L2t
