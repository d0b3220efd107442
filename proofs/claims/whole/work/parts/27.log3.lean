/-! appending to the log -/
section L2F
variable {l : Launch} {G : xG} {K ar : Nat → Nat} {m0 m m' : XM} {Q : XR → XM → Prop} {pg : Nat → Nat} {Z : Nat → List Nat} {Y Y' xs ys g : List Nat} {w j a s e : Nat} {c fg fp : Nat → Int32} {key : Int64} {A : AS}
theorem CS.logp (h : CS K ar m0 pg Z Y w c fg fp m) (ha : m0.1 a = some (oB 1)) (v : Int32) : CS K ar m0 pg Z Y w c fg (up fp a v) (mI m a 4 v) := by
  have ha' : m.1 a = some (oB 1) := by rw [h.kd0]; exact ha
  have a9 : m.1 (K 4) = some (aR 0 11) := h.1.1.2.2.2.2.2.2.2.2.1
  have a1 : m.1 (K 0) = some (oB 4) := h.1.1.1
  have n4 : K 4 ≠ a := fun q => by rw [q, ha'] at a9; cases a9
  have n0 : K 0 ≠ a := fun q => by rw [q, ha'] at a1; cases a1
  obtain ⟨h1, h2, h3, h4, h5⟩ := h.2.2.2
  refine ⟨h.1.fl (flI v ha' (Or.inl rfl)), fun i => ?_, fun b hb => ?_, h1, fun b hb => ?_, fun b hb => ?_, ?_, h5⟩
  · rw [← h.2.1 i]
    simp [mI, n4]
  · have := h.2.2.1 b hb
    by_cases e : b = a
    · subst e
      simp [mI, up, this]
    · simp [mI, up, e, this]
  · have : b ≠ a := fun q => hb (by rw [q, ha]; show 1 ≤ 4; decide)
    obtain ⟨k1, k2, k3⟩ := h2 b hb
    exact ⟨by rw [← k1]; funext i; simp [mI, this], k2, k3⟩
  · obtain ⟨k1, k2, k3⟩ := h3 b hb
    refine ⟨k1, k2, fun k g4 g5 => ?_⟩
    rw [← k3 k g4 g5]
    simp [mI, g4]
  · rw [← h4]
    funext i
    simp [mI, n0]
theorem c_app (hst : l.stackTraces = false) (h : CR K ar m0 pg Z Y c fg fp A m) (hA' : AI (ent (tL m0 a) A)) (hi : Itm m0 a) (hs : ∀ s, s < 64 → a ∉ Z s) (hr : eS (A.Z 96) + iw m0 a ≤ 32)
    (hq : ∀ m', CR K ar m0 pg (up Z 96 (Z 96 ++ [a])) (Y.filter (fun b => m0.2.2.1 b 0 != m0.2.2.1 a 0) ++ [a]) c (up fg a 0) (up fp a (nI A.w)) (ent (tL m0 a) A) m' → Q (.inl none) m') : CC l G xG_append [vR (some (K 3)), vR (some a)] m Q := by
  obtain ⟨h1, h2, h3, h4, h5, h6, h7⟩ := id h
  obtain ⟨a1, a2, a3, a4, a5, a6, a7, a8, a9, a10, a11, a12, a13, a14, a15, a16, a17, a18, a19, a20, a21⟩ := id h1.1.1
  have hp := h1.1.2.1 96 (by omega)
  have hx := h1.1.2.2.1
  have hin := h1.inZ (j := 96) (by omega)
  have him := h1.it hi
  have hz96 := h4 96 (by omega) (by omega)
  have hws : wsum m (Z 96) = eS (A.Z 96) := by
    rw [h1.ws hin, hz96, wsum_map (T := tL m0) (fun _ => ew_iw)]
  have hiw : iw m a = iw m0 a := h1.wd hi.1
  have hfe : Y.filter (fun b => gL m b 0 != gL m a 0) = Y.filter (fun b => m0.2.2.1 b 0 != m0.2.2.1 a 0) := by
    apply List.filter_congr
    intro b hb
    rw [show gL m b 0 = m0.2.2.1 b 0 from h1.key (h1.inY b hb) 0, show gL m a 0 = m0.2.2.1 a 0 from h1.key hi.1 0]
  have hYm : A.Y.filter (fun y => y.k != (tL m0 a).k) = (Y.filter (fun b => m0.2.2.1 b 0 != m0.2.2.1 a 0)).map (tY m0 fg fp) := by
    rw [h5, List.filter_map]
    rfl
  have hlen : (Y.filter (fun b => m0.2.2.1 b 0 != m0.2.2.1 a 0)).length < 264 := by
    have := hA'.yl
    have e1 : (ent (tL m0 a) A).Y = A.Y.filter (fun y => y.k != (tL m0 a).k) ++ [mE (tL m0 a).k (tL m0 a).v 0 A.w] := rfl
    rw [e1, hYm, List.length_append, List.length_map] at this
    simp at this
    omega
  refine c_append hst a7 a17 a16 hp hx him (by rw [hws, hiw]; exact hr) (by rw [hfe]; exact hlen) (fun m1 m' f1 p1 f2 x2 => hq m' ?_)
  rw [hfe] at x2
  rw [show gI m (K 3) 3 = nI A.w from a18] at f1
  have g1 := (h1.got hi.1 0).logp hi.1 (nI A.w)
  have g2 := g1.page (j := 96) (by omega) f1 p1
  have g3 := g2.index (f2.mono (fun b hb => Or.inl hb)) x2
  generalize hY2 : Y.filter (fun b => m0.2.2.1 b 0 != m0.2.2.1 a 0) = Y2 at *
  have hne : ∀ b ∈ Y2, b ∈ Y ∧ b ≠ a := fun b hb => by
    rw [← hY2] at hb
    obtain ⟨q1, q2⟩ := List.mem_filter.mp hb
    refine ⟨q1, fun r => ?_⟩
    rw [r] at q2
    simp at q2
  have hclamp : (nI A.w).toNatClampNeg = A.w := nI_clamp (by omega)
  refine ⟨g3, h2, fun s hs' => ?_, fun p hp hp' => ?_, ?_, fun s hs' b hb hy => ?_, fun b hb => ?_⟩
  · show up A.Z 96 _ s = (up Z 96 _ s).map _
    unfold up
    rw [if_neg (by omega), if_neg (by omega), h3 s hs']
    apply List.map_congr_left
    intro b hb
    have : b ≠ a := fun q => hs s hs' (q ▸ hb)
    simp [tS, this]
  · show up A.Z 96 _ p = (up Z 96 _ p).map _
    unfold up
    by_cases q : p = 96
    · rw [if_pos q, if_pos q, List.map_append, hz96]
      rfl
    · rw [if_neg q, if_neg q]
      exact h4 p hp hp'
  · show A.Y.filter (fun y => y.k != (tL m0 a).k) ++ [mE (tL m0 a).k (tL m0 a).v 0 A.w] = _
    rw [hYm, List.map_append]
    congr 1
    · apply List.map_congr_left
      intro b hb
      have := (hne b hb).2
      simp [tY, up, this]
    · simp [tY, tL, up, hclamp]
      rfl
  · unfold up at hb
    rw [if_neg (by omega)] at hb
    rcases List.mem_append.mp hy with q | q
    · exact h6 s hs' b hb (hne b q).1
    · simp at q
      exact hs s hs' (q ▸ hb)
  · rcases List.mem_append.mp hb with q | q
    · have := (hne b q).2
      simp only [up, if_neg this]
      exact h7 b (hne b q).1
    · simp at q
      subst q
      rw [up_same, hclamp]
end L2F
