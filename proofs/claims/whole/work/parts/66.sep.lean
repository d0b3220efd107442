/-! the class's cells and the reference's lie apart; the state between two steps of the law -/
def LN (K R : Nat → Nat) (o : Nat) : Nat → Prop := fun x => x = K 1 ∨ mc R x ∨ x = o
def LQ (K R : Nat → Nat) (o : Nat) (A : AS) (b : Nat → Int32) (fo : Option (List Int32)) (op : Int32) (m : XM) : Prop :=
  CQ K (LN K R o) A b fo op m ∧ (∃ S du ix pn th, MR R m S (mX th op b (fo.getD []) du) m ∧ RA S A ix pn) ∧ m.1 o = some (aR 2 1) ∧ ¬ mc R o ∧ (∀ j, inU j = true → R j ≠ K 1) ∧ (op = 0 ∨ op = 1)
section L3S
variable {l : Launch} {G : xG} {Q : XR → XM → Prop} {K R : Nat → Nat} {m0 m m' m'' : XM} {S S' : RS} {X : RX} {A B : AS} {ix : List Nat} {pn : Nat → Nat} {o j x : Nat} {b b' : Nat → Int32} {fo : Option (List Int32)} {op : Int32}
theorem MR.rb (h : MR R m0 S X m) : MR R m S X m := ⟨h.1, MB.rf, h.2.2⟩
theorem MW.ncl (h : MW R m) (hj : inU j = true) : m.1 (R j) ≠ none ∧ ¬ clsK K (R j) (m.1 (R j)) := by
  have key : ∀ t n, (j, t, n) ∈ mtab → t ≠ 3 → t ≠ 4 → (t = 0 → n ≠ 11 ∧ n ≠ 64) → m.1 (R j) ≠ none ∧ ¬ clsK K (R j) (m.1 (R j)) := by
    intro t n hq h3 h4 h0
    have e : m.1 (R j) = some (aR t n) := (h.2.1 (j, t, n) hq).2
    rw [e]
    refine ⟨Option.some_ne_none _, fun r => ?_⟩
    have r' : t = 3 ∨ t = 4 ∨ (t = 0 ∧ ((n = 11 ∧ R j = K 4) ∨ (n = 64 ∧ R j = K 10))) := r
    rcases r' with r1 | r1 | ⟨r1, ⟨r2, -⟩ | ⟨r2, -⟩⟩
    · exact h3 r1
    · exact h4 r1
    · exact (h0 r1).1 r2
    · exact (h0 r1).2 r2
  have hU : j = 0 ∨ j = 2 ∨ j = 4 ∨ j = 6 ∨ j = 7 ∨ j = 8 ∨ j = 9 ∨ j = 10 ∨ j = 11 ∨ j = 12 ∨ j = 14 ∨ j = 15 ∨ j = 17 ∨ j = 19 ∨ j = 21 ∨ j = 22 ∨ j = 23 := by
    unfold inU at hj
    simpa using hj
  rcases hU with e | e | e | e | e | e | e | e | e | e | e | e | e | e | e | e | e <;> subst e
  · rw [h.1]
    exact ⟨Option.some_ne_none _, fun r => by have r' : 5 ≤ 4 := r; omega⟩
  · exact key 0 8 (by decide) (by decide) (by decide) (by decide)
  · exact key 0 8 (by decide) (by decide) (by decide) (by decide)
  · exact key 2 4096 (by decide) (by decide) (by decide) (by decide)
  · exact key 0 4096 (by decide) (by decide) (by decide) (by decide)
  · exact key 0 32768 (by decide) (by decide) (by decide) (by decide)
  · exact key 1 4096 (by decide) (by decide) (by decide) (by decide)
  · exact key 1 4096 (by decide) (by decide) (by decide) (by decide)
  · exact key 0 4096 (by decide) (by decide) (by decide) (by decide)
  · exact key 1 4096 (by decide) (by decide) (by decide) (by decide)
  · exact key 0 97 (by decide) (by decide) (by decide) (by decide)
  · exact key 0 776 (by decide) (by decide) (by decide) (by decide)
  · exact key 1 4096 (by decide) (by decide) (by decide) (by decide)
  · exact key 0 300 (by decide) (by decide) (by decide) (by decide)
  · exact key 0 300 (by decide) (by decide) (by decide) (by decide)
  · exact key 1 64 (by decide) (by decide) (by decide) (by decide)
  · exact key 0 13 (by decide) (by decide) (by decide) (by decide)
/-- what leaves the reference's cells alone -/
theorem MR.kept (h : MR R m S X m) (hk : ∀ j, inU j = true → m'.1 (R j) = m.1 (R j) ∧ m'.2.1 (R j) = m.2.1 (R j) ∧ m'.2.2.1 (R j) = m.2.2.1 (R j) ∧ m'.2.2.2 (R j) = m.2.2.2 (R j)) : MR R m' S X m' := by
  obtain ⟨⟨w1, w2, w3⟩, -, hF⟩ := h
  have hin : ∀ q ∈ mtab, inU q.1 = true := by decide
  refine ⟨⟨by rw [(hk 0 (by decide)).1]; exact w1, fun q hq => ?_, w3⟩, MB.rf, ?_⟩
  · rw [(hk 0 (by decide)).2.2.2, (hk q.1 (hin q hq)).1]
    exact w2 q hq
  · have e : lM R m' = lM R m := (hk 6 (by decide)).2.2.1
    rw [e]
    exact hF.congr (fun j hj => (hk j hj).2.1)
theorem MR.ce (h : MR R m S X m) (hc : Ce K m m') (hn : ∀ j, inU j = true → R j ≠ K 1) : MR R m' S X m' := by
  refine h.kept (fun j hj => ?_)
  obtain ⟨c1, c2⟩ := h.w.ncl (K := K) hj
  obtain ⟨d1, d2, d3⟩ := hc.2 (R j) c1 c2 (hn j hj)
  exact ⟨hc.1 (R j) c1, d1, d2, d3⟩
theorem CQ.mcell {N : Nat → Prop} (h : CQ K N A b fo op m) (hW : MW R m) (hb : MB R m m') (hN : ∀ x, mc R x → N x) (hn : ∀ j, inU j = true → R j ≠ K 1) : CQ K N A b fo op m' := by
  refine h.xfr (E := mc R) hb.fr (fun x hx => ⟨hN x hx, ?_⟩) (fun i hi => ?_)
  · obtain ⟨j, hj, rfl⟩ := hx
    exact (hW.ncl hj).2
  · rw [(hb.2.2 (K 1) (fun ⟨j, hj, e⟩ => hn j hj e.symm)).1]
    exact h.2.2.1 i hi
/-- the out array is written -/
theorem LQ.out (h : LQ K R o A b fo op m) (v : Int64) : LQ K R o A b fo op (mL m o 0 v) := by
  obtain ⟨h1, ⟨S, du, ix, pn, th, h2, h3⟩, h4, h5, h6, h7⟩ := h
  have hf : Fr (fun x => x = o) m (mL m o 0 v) := frL _ _ rfl
  have n1 : K 1 ≠ o := fun r => by
    have := h1.kd1
    rw [r, h4] at this
    cases this
  refine ⟨h1.xfr (E := fun x => x = o) hf (fun x hx => ⟨Or.inr (Or.inr hx), ?_⟩) (fun i hi => ?_), ⟨S, du, ix, pn, th, h2.kept (fun j hj => ?_), h3⟩, h4, h5, h6, h7⟩
  · rw [show x = o from hx, h4]
    intro r
    have r' : 2 = 3 ∨ 2 = 4 ∨ (2 = 0 ∧ ((1 = 11 ∧ o = K 4) ∨ (1 = 64 ∧ o = K 10))) := r
    omega
  · rw [hf.gI n1 i]
    exact h1.2.2.1 i hi
  · have nj : R j ≠ o := fun r => h5 ⟨j, hj, r.symm⟩
    exact ⟨hf.kd _, (hf.2 _ nj).1, (hf.2 _ nj).2.1, (hf.2 _ nj).2.2⟩
end L3S
