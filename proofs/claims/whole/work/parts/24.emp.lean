/-! the class empties a segment -/
section L2C
variable {l : Launch} {G : xG} {K ar : Nat → Nat} {m0 m m' : XM} {Q : XR → XM → Prop} {pg : Nat → Nat} {Z : Nat → List Nat} {Y Y' xs ys g : List Nat} {w j a s e : Nat} {c fg fp : Nat → Int32} {key : Int64} {A : AS}
theorem tY_k : (tY m fg fp a).k = m.2.2.1 a 0 := rfl
theorem tY_g : (tY m fg fp a).g = fg a := rfl
theorem tY_p : (tY m fg fp a).p = (fp a).toNatClampNeg := rfl
theorem CR.at (h : CR K ar m0 pg Z Y c fg fp A m) (ha : a ∈ Y) : m.2.1 a 5 = fg a ∧ m.2.1 a 4 = nI (fp a).toNatClampNeg ∧ m.2.1 a 2 = nI (sN (m0.2.2.1 a 0)) ∧ m.2.2.1 a 0 = m0.2.2.1 a 0 := by
  have hi := h.1.inY a ha
  have h2 := h.1.2.2.1 a hi
  have h3 := h.1.1.2.2.1.2.2.2.2.2.2.2.2.1 a ha
  have h4 : m.2.2.1 a 0 = m0.2.2.1 a 0 := h.1.key hi 0
  refine ⟨h2.1, h2.2.trans (h.2.2.2.2.2.2 a ha), ?_, h4⟩
  have : m.2.1 a 2 = setF (m.2.2.1 a 0) := h3.2.2.1
  rw [this, h4, setF_n]
theorem CR.set (h : CR K ar m0 pg Z Y c fg fp A m) (hs : s < 64) (ha : a ∈ Y) : (m.2.1 a 2 == nI s) = (sN (tY m0 fg fp a).k == s) := by
  have h1 := (h.at ha).2.2.1
  have h2 := sN_lt (m0.2.2.1 a 0)
  rw [h1]
  show (nI (sN (m0.2.2.1 a 0)) == nI s) = (sN (m0.2.2.1 a 0) == s)
  by_cases q : sN (m0.2.2.1 a 0) = s
  · simp [q]
  · have : nI (sN (m0.2.2.1 a 0)) ≠ nI s := fun r => q ((nI_eq (by omega) (by omega)).mp r)
    rw [beq_eq_false_iff_ne.mpr q, beq_eq_false_iff_ne.mpr this]
theorem CR.atK (h : CR K ar m0 pg Z Y c fg fp A m) (hp : ∀ x ∈ A.Y, x.p < 2 ^ 30) (he : e < 2 ^ 30) (ha : a ∈ Y) : tk m (nI e) Y a = isK A.Y e (tY m0 fg fp a) := by
  obtain ⟨h1, h2, h3, h4⟩ := h.at ha
  have hY := h.2.2.2.2.1
  have hpa : (fp a).toNatClampNeg < 2 ^ 30 := hp (tY m0 fg fp a) (by rw [hY]; exact List.mem_map_of_mem ha)
  unfold tk isK
  have e1 : decide (m.2.1 a 4 < nI e) = decide ((tY m0 fg fp a).p < e) := by
    rw [h2, tY_p]
    exact decide_eq_decide.mpr (nI_ltI (by omega) (by omega))
  have e2 : Y.countP (fun b => m.2.1 b 2 == m.2.1 a 2) = (gS A.Y (sN (tY m0 fg fp a).k)).length := by
    unfold gS
    rw [hY, List.filter_map, List.length_map, ← List.countP_eq_length_filter]
    apply List.countP_congr
    intro b hb
    rw [h3, h.set (sN_lt _) hb, Function.comp, tY_k, tY_k]
  rw [h1, e1, e2, tY_g]
theorem CR.sb (h : CR K ar m0 pg Z Y c fg fp A m) (hp : ∀ x ∈ A.Y, x.p < 2 ^ 30) (he : e < 2 ^ 30) (hs : s < 64) : (bN (sbs m (nI e) Y)).testBit s = due A.Y e s := by
  have gen : ∀ (ys : List Nat) (t : Int64), (∀ a ∈ ys, a ∈ Y) → (bN (ys.foldl (fun t a => if m.2.1 a 4 < nI e then t ||| jshl (1 : Int64) (m.2.1 a 2) else t) t)).testBit s = ((bN t).testBit s || due (ys.map (tY m0 fg fp)) e s) := by
    intro ys
    induction ys with
    | nil => intro t _; simp [due]
    | cons a ys ih =>
      intro t hy
      have ha := hy a List.mem_cons_self
      obtain ⟨h1, h2, h3, h4⟩ := h.at ha
      have hpa : (fp a).toNatClampNeg < 2 ^ 30 := hp (tY m0 fg fp a) (by rw [h.2.2.2.2.1]; exact List.mem_map_of_mem ha)
      rw [List.foldl_cons, ih _ (fun b hb => hy b (List.mem_cons_of_mem _ hb)), h2, h3]
      have e1 : due ((a :: ys).map (tY m0 fg fp)) e s = ((decide ((fp a).toNatClampNeg < e) && sN (m0.2.2.1 a 0) == s) || due (ys.map (tY m0 fg fp)) e s) := rfl
      rw [e1]
      by_cases q : (fp a).toNatClampNeg < e
      · rw [if_pos (nI_lt q (by omega)), bN_or, bN_one (sN_lt _)]
        have : decide (sN (m0.2.2.1 a 0) = s) = (sN (m0.2.2.1 a 0) == s) := by
          by_cases r : sN (m0.2.2.1 a 0) = s <;> simp [r]
        rw [this]
        simp [q, Bool.or_assoc]
      · rw [if_neg (fun r => q ((nI_ltI (by omega) (by omega)).mp r))]
        simp [q]
  rw [h.2.2.2.2.1]
  have := gen Y 0 (fun a ha => ha)
  unfold sbs
  rw [this, show bN 0 = 0 by decide, Nat.zero_testBit, Bool.false_or]
/-- the first taking, into the array of those put anew -/
theorem CR.take6 (h : CR K ar m pg Z Y c fg fp A m) (hsub : ∀ a ∈ Y', a ∈ Y) (hf : Fr (fun b => XF (K 8) (K 9) (K 10) b ∨ b = K 6) m m') (hx : IxOK m' (K 8) (K 9) (K 10) Y') : Cf K m m' ∧ CR K ar m' pg Z Y' c fg fp (mA A.Z (Y'.map (tY m fg fp)) A.w A.c A.t) m' := by
  obtain ⟨h1, h2, h3, h4, h5, h6, h7⟩ := h
  have a9 : m.1 (K 4) = some (aR 0 11) := h1.1.1.2.2.2.2.2.2.2.2.1
  have hk : ∀ b, (XF (K 8) (K 9) (K 10) b ∨ b = K 6) → m.1 b = some (oB 0) ∨ m.1 b = some (aR 3 264) ∨ (m.1 b = some (aR 0 64) ∧ b = K 10) ∨ m.1 b = some (aR 3 32) := by
    rintro b ((q | q | q) | q)
    · exact Or.inl (by rw [q]; exact h1.1.2.2.1.1)
    · exact Or.inr (Or.inl (by rw [q]; exact h1.1.2.2.1.2.2.1))
    · exact Or.inr (Or.inr (Or.inl ⟨by rw [q]; exact h1.1.2.2.1.2.2.2.2.1, q⟩))
    · subst q
      exact Or.inr (Or.inr (Or.inr h1.1.1.2.2.2.2.2.2.2.2.2.2.2.2.1))
  have hcl : ∀ b, (XF (K 8) (K 9) (K 10) b ∨ b = K 6) → clsK K b (m.1 b) ∧ ¬ m.1 b = some (oB 1) := by
    intro b hb
    rcases hk b hb with e | e | ⟨e, e'⟩ | e <;> rw [e]
    · exact ⟨show 0 ≤ 4 by decide, by decide⟩
    · exact ⟨Or.inl rfl, by decide⟩
    · exact ⟨Or.inr (Or.inr ⟨rfl, Or.inr ⟨rfl, e'⟩⟩), by decide⟩
    · exact ⟨Or.inl rfl, by decide⟩
  have n4 : ¬ (XF (K 8) (K 9) (K 10) (K 4) ∨ K 4 = K 6) := fun q => by
    rcases hk _ q with e | e | ⟨e, -⟩ | e <;> · rw [a9] at e; cases e
  have a1 : m.1 (K 0) = some (oB 4) := h1.1.1.1
  have n0 : ¬ (XF (K 8) (K 9) (K 10) (K 0) ∨ K 0 = K 6) := fun q => by
    rcases hk _ q with e | e | ⟨e, -⟩ | e <;> · rw [a1] at e; cases e
  have hcf : Cf K m m' := by
    refine ⟨hf.1, fun b hb => ?_, fun a ha => ?_, (hf.2 _ n0).1, (hf.2 _ n0).2.2⟩
    · have : ¬ (XF (K 8) (K 9) (K 10) b ∨ b = K 6) := fun q => hb (hcl b q).1
      exact hf.2 b this
    · have : ¬ (XF (K 8) (K 9) (K 10) a ∨ a = K 6) := fun q => (hcl a q).2 ha
      obtain ⟨g1, g2, g3⟩ := hf.2 a this
      exact ⟨g2, g3, fun k _ _ => by rw [g1]⟩
  refine ⟨hcf, ⟨h1.1.index (Or.inr rfl) hf hx, fun k => (hf.gI n4 k).trans (h1.2.1 k), fun a ha => ?_, Cl.rf⟩, h2, fun s hs => ?_, fun p hp hp' => ?_, ?_, fun s hs a ha hy => h6 s hs a ha (hsub a hy), fun a ha => h7 a (hsub a ha)⟩
  · have ha' : m.1 a = some (oB 1) := by rw [← hf.1]; exact ha
    have na : ¬ (XF (K 8) (K 9) (K 10) a ∨ a = K 6) := fun q => (hcl a q).2 ha'
    exact ⟨(hf.gI na 5).trans (h1.2.2.1 a ha').1, (hf.gI na 4).trans (h1.2.2.1 a ha').2⟩
  · show A.Z s = _
    rw [h3 s hs]
    apply List.map_congr_left
    intro a ha
    obtain ⟨e1, e2⟩ := hcf.vl (h1.itZ (by omega) a ha)
    unfold tS
    rw [e1, e2]
  · show A.Z p = _
    rw [h4 p hp hp']
    apply List.map_congr_left
    intro a ha
    obtain ⟨e1, e2⟩ := hcf.vl (h1.itZ (by omega) a ha)
    unfold tL
    rw [e1, e2]
  · show Y'.map _ = _
    apply List.map_congr_left
    intro a ha
    obtain ⟨e1, e2⟩ := hcf.vl (h1.itY a (hsub a ha))
    unfold tY
    rw [e1, e2]
end L2C
