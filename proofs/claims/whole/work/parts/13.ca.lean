/-! the cache as a whole: K the fixed cells (0 the cache, 1 buffer, 2 sets, 3 log, 4 counts, 5 gathered, 6 anew, 7 the log's pages, 8 index, 9 its items, 10 its counts by sets); pg the 97 pages (64 sets, 32 of the log, the open one), ar a page's array, Z the pages' items, Y the index's, w the pages written -/
def up {α : Type} (f : Nat → α) (k : Nat) (v : α) : Nat → α := fun j => if j = k then v else f j
def CaP (m : XM) (K pg : Nat → Nat) (w : Nat) : Prop := kd m (K 0) = some (oB 4) ∧ gR m (K 0) 0 = some (K 1) ∧ kd m (K 1) = some (aR 0 8) ∧ gR m (K 0) 1 = some (K 2) ∧ kd m (K 2) = some (aR 4 64) ∧ gR m (K 0) 2 = some (K 3) ∧ kd m (K 3) = some (oB 2) ∧ gR m (K 0) 3 = some (K 4) ∧ kd m (K 4) = some (aR 0 11) ∧ gR m (K 0) 4 = some (K 5) ∧ kd m (K 5) = some (aR 3 264) ∧ gR m (K 0) 5 = some (K 6) ∧ kd m (K 6) = some (aR 3 32) ∧
  gR m (K 3) 0 = some (K 7) ∧ kd m (K 7) = some (aR 4 32) ∧ gR m (K 3) 1 = some (K 8) ∧ gR m (K 3) 2 = some (pg 96) ∧ gI m (K 3) 3 = nI w ∧ w < 2 ^ 29 ∧ (∀ i, i < 64 → gR m (K 2) i = some (pg i)) ∧ (∀ i, i < 32 → gR m (K 7) i = some (pg (64 + i)))
def CaD (K ar pg : Nat → Nat) : Prop := (∀ i j, i < 97 → j < 97 → pg i = pg j → i = j) ∧ (∀ i j, i < 97 → j < 97 → ar (pg i) = ar (pg j) → i = j) ∧ K 5 ≠ K 9
def CaF (m : XM) (K : Nat → Nat) : Prop := gR m (K 0) 6 = none ∨ ∃ a, gR m (K 0) 6 = some a ∧ Itm m a
def CaOK (m : XM) (K ar pg : Nat → Nat) (Z : Nat → List Nat) (Y : List Nat) (w : Nat) : Prop := CaP m K pg w ∧ (∀ j, j < 97 → PgOK m (pg j) (ar (pg j)) (Z j)) ∧ IxOK m (K 8) (K 9) (K 10) Y ∧ CaD K ar pg ∧ CaF m K
section L2s
variable {m m' : XM} {F : Nat → Prop} {K ar pg : Nat → Nat} {Z : Nat → List Nat} {Y Y' xs : List Nat} {w j : Nat}
/-- the cells that CaP speaks of but for what changes -/
theorem CaP.fr (h : CaP m K pg w) (hf : Fr F m m') (h0 : ¬ F (K 0)) (h2 : ¬ F (K 2)) (h3 : ¬ F (K 3)) (h7 : ¬ F (K 7)) : CaP m' K pg w := by
  obtain ⟨a1, a2, a3, a4, a5, a6, a7, a8, a9, a10, a11, a12, a13, a14, a15, a16, a17, a18, a19, a20, a21⟩ := h
  exact ⟨(hf.kd _).trans a1, (hf.gR h0 _).trans a2, (hf.kd _).trans a3, (hf.gR h0 _).trans a4, (hf.kd _).trans a5, (hf.gR h0 _).trans a6, (hf.kd _).trans a7, (hf.gR h0 _).trans a8, (hf.kd _).trans a9, (hf.gR h0 _).trans a10, (hf.kd _).trans a11, (hf.gR h0 _).trans a12, (hf.kd _).trans a13, (hf.gR h3 _).trans a14, (hf.kd _).trans a15, (hf.gR h3 _).trans a16, (hf.gR h3 _).trans a17, (hf.gI h3 _).trans a18, a19, fun i hi => (hf.gR h2 _).trans (a20 i hi), fun i hi => (hf.gR h7 _).trans (a21 i hi)⟩
theorem CaP.fl (h : CaP m K pg w) (hf : Fl m m') : CaP m' K pg w := by
  obtain ⟨a1, a2, a3, a4, a5, a6, a7, a8, a9, a10, a11, a12, a13, a14, a15, a16, a17, a18, a19, a20, a21⟩ := h
  exact ⟨(hf.kd _).trans a1, (hf.gR _ _).trans a2, (hf.kd _).trans a3, (hf.gR _ _).trans a4, (hf.kd _).trans a5, (hf.gR _ _).trans a6, (hf.kd _).trans a7, (hf.gR _ _).trans a8, (hf.kd _).trans a9, (hf.gR _ _).trans a10, (hf.kd _).trans a11, (hf.gR _ _).trans a12, (hf.kd _).trans a13, (hf.gR _ _).trans a14, (hf.kd _).trans a15, (hf.gR _ _).trans a16, (hf.gR _ _).trans a17, (hf.n45 _ (by decide) (by decide)).trans a18, a19, fun i hi => (hf.gR _ _).trans (a20 i hi), fun i hi => (hf.gR _ _).trans (a21 i hi)⟩
theorem CaOK.fl (h : CaOK m K ar pg Z Y w) (hf : Fl m m') : CaOK m' K ar pg Z Y w := by
  refine ⟨h.1.fl hf, fun j hj => (h.2.1 j hj).fl hf, h.2.2.1.fl hf, h.2.2.2.1, ?_⟩
  rcases h.2.2.2.2 with q | ⟨a, q1, q2⟩
  · exact Or.inl ((hf.gR _ _).trans q)
  · exact Or.inr ⟨a, (hf.gR _ _).trans q1, q2.fl hf⟩
/-- the kinds of the cells that an operation may change tell that it leaves the rest alone -/
theorem CaOK.fr (h : CaOK m K ar pg Z Y w) (hf : Fr F m m') (h0 : ¬ F (K 0)) (h2 : ¬ F (K 2)) (h3 : ¬ F (K 3)) (h7 : ¬ F (K 7)) (h8 : ¬ F (K 8)) (h9 : ¬ F (K 9)) (h10 : ¬ F (K 10)) (hit : ∀ a, m.1 a = some (oB 1) → ¬ F a) (hpg : ∀ j, j < 97 → ¬ F (pg j) ∧ ¬ F (ar (pg j))) : CaOK m' K ar pg Z Y w := by
  refine ⟨h.1.fr hf h0 h2 h3 h7, fun j hj => (h.2.1 j hj).fr hf (hpg j hj).1 (hpg j hj).2 (fun a ha => hit a ((h.2.1 j hj).2.2.2.2.2.1 a ha).1), h.2.2.1.fr hf h8 h9 h10 (fun a ha => hit a (h.2.2.1.2.2.2.2.2.2.2.2.1 a ha).1), h.2.2.2.1, ?_⟩
  rcases h.2.2.2.2 with q | ⟨a, q1, q2⟩
  · exact Or.inl ((hf.gR h0 _).trans q)
  · exact Or.inr ⟨a, (hf.gR h0 _).trans q1, q2.fr hf (hit a q2.1)⟩
/-- one page's items -/
theorem CaOK.page (h : CaOK m K ar pg Z Y w) (hj : j < 97) (hf : Fr (PF (pg j) (ar (pg j))) m m') (hp : PgOK m' (pg j) (ar (pg j)) xs) : CaOK m' K ar pg (up Z j xs) Y w := by
  have hpj := h.2.1 j hj
  have nk : ∀ {b : Nat} {k : XKd}, m.1 b = some k → k ≠ oB 3 → k ≠ aR 3 8 → ¬ PF (pg j) (ar (pg j)) b := by
    intro b k hb n1 n2 q
    rcases PF.kind hpj q with e | e
    · exact n1 (Option.some.inj (hb.symm.trans e))
    · exact n2 (Option.some.inj (hb.symm.trans e))
  obtain ⟨a1, a2, a3, a4, a5, a6, a7, a8, a9, a10, a11, a12, a13, a14, a15, a16, a17, a18, a19, a20, a21⟩ := id h.1
  obtain ⟨i1, i2, i3, i4, i5, i6, i7, i8, i9, i10⟩ := id h.2.2.1
  refine ⟨h.1.fr hf (nk a1 (by decide) (by decide)) (nk a5 (by decide) (by decide)) (nk a7 (by decide) (by decide)) (nk a15 (by decide) (by decide)), fun i hi => ?_, h.2.2.1.fr hf (nk i1 (by decide) (by decide)) (nk i3 (by decide) (by decide)) (nk i5 (by decide) (by decide)) (fun a ha => nk (i9 a ha).1 (by decide) (by decide)), h.2.2.2.1, ?_⟩
  · by_cases e : i = j
    · subst e
      simp only [up, if_pos]
      exact hp
    · simp only [up, if_neg e]
      have hpi := h.2.1 i hi
      have np : ¬ PF (pg j) (ar (pg j)) (pg i) := by
        rintro (q | q)
        · exact e (h.2.2.2.1.1 i j hi hj q)
        · have := hpi.1.symm.trans (q ▸ hpj.2.2.1)
          cases this
      have na : ¬ PF (pg j) (ar (pg j)) (ar (pg i)) := by
        rintro (q | q)
        · have := hpj.1.symm.trans (q ▸ hpi.2.2.1)
          cases this
        · exact e (h.2.2.2.1.2.1 i j hi hj q)
      exact hpi.fr hf np na (fun a ha => nk (hpi.2.2.2.2.2.1 a ha).1 (by decide) (by decide))
  · rcases h.2.2.2.2 with q | ⟨a, q1, q2⟩
    · exact Or.inl ((hf.gR (nk a1 (by decide) (by decide)) _).trans q)
    · exact Or.inr ⟨a, (hf.gR (nk a1 (by decide) (by decide)) _).trans q1, q2.fr hf (nk q2.1 (by decide) (by decide))⟩
/-- the index's items, and what lies in the two arrays for taken items -/
theorem CaOK.index (h : CaOK m K ar pg Z Y w) {tt : Nat} (htt : tt = K 5 ∨ tt = K 6) (hf : Fr (fun b => XF (K 8) (K 9) (K 10) b ∨ b = tt) m m') (hx : IxOK m' (K 8) (K 9) (K 10) Y') : CaOK m' K ar pg Z Y' w := by
  have hix := h.2.2.1
  obtain ⟨a1, a2, a3, a4, a5, a6, a7, a8, a9, a10, a11, a12, a13, a14, a15, a16, a17, a18, a19, a20, a21⟩ := id h.1
  have ht : m.1 tt = some (aR 3 264) ∨ m.1 tt = some (aR 3 32) := by
    rcases htt with rfl | rfl
    · exact Or.inl a11
    · exact Or.inr a13
  have nk : ∀ {b : Nat} {k : XKd}, m.1 b = some k → k ≠ oB 0 → k ≠ aR 3 264 → k ≠ aR 0 64 → k ≠ aR 3 32 → ¬ (XF (K 8) (K 9) (K 10) b ∨ b = tt) := by
    rintro b k hb n1 n2 n3 n4 (q | q)
    · rcases XF.kind hix q with e | e | e
      · exact n1 (Option.some.inj (hb.symm.trans e))
      · exact n2 (Option.some.inj (hb.symm.trans e))
      · exact n3 (Option.some.inj (hb.symm.trans e))
    · subst q
      rcases ht with e | e
      · exact n2 (Option.some.inj (hb.symm.trans e))
      · exact n4 (Option.some.inj (hb.symm.trans e))
  have k0 := nk a1 (by decide) (by decide) (by decide) (by decide)
  refine ⟨h.1.fr hf k0 (nk a5 (by decide) (by decide) (by decide) (by decide)) (nk a7 (by decide) (by decide) (by decide) (by decide)) (nk a15 (by decide) (by decide) (by decide) (by decide)), fun i hi => ?_, hx, h.2.2.2.1, ?_⟩
  · have hpi := h.2.1 i hi
    exact hpi.fr hf (nk hpi.1 (by decide) (by decide) (by decide) (by decide)) (nk hpi.2.2.1 (by decide) (by decide) (by decide) (by decide)) (fun a ha => nk (hpi.2.2.2.2.2.1 a ha).1 (by decide) (by decide) (by decide) (by decide))
  · rcases h.2.2.2.2 with q | ⟨a, q1, q2⟩
    · exact Or.inl ((hf.gR k0 _).trans q)
    · exact Or.inr ⟨a, (hf.gR k0 _).trans q1, q2.fr hf (nk q2.1 (by decide) (by decide) (by decide) (by decide))⟩
/-- a count -/
theorem CaOK.count (h : CaOK m K ar pg Z Y w) (k : Nat) (v : Int32) : CaOK (mI m (K 4) k v) K ar pg Z Y w := by
  obtain ⟨a1, a2, a3, a4, a5, a6, a7, a8, a9, a10, a11, a12, a13, a14, a15, a16, a17, a18, a19, a20, a21⟩ := id h.1
  have nk : ∀ {b : Nat} {kk : XKd}, m.1 b = some kk → kk ≠ aR 0 11 → ¬ b = K 4 := by
    intro b kk hb n1 q
    subst q
    exact n1 (Option.some.inj (hb.symm.trans a9))
  have hix := h.2.2.1
  exact h.fr (F := fun b => b = K 4) (frI (F := fun b => b = K 4) k v rfl) (nk a1 (by decide)) (nk a5 (by decide)) (nk a7 (by decide)) (nk a15 (by decide)) (nk hix.1 (by decide)) (nk hix.2.2.1 (by decide)) (nk hix.2.2.2.2.1 (by decide)) (fun a ha => nk ha (by decide)) (fun j hj => ⟨nk (h.2.1 j hj).1 (by decide), nk (h.2.1 j hj).2.2.1 (by decide)⟩)
end L2s
