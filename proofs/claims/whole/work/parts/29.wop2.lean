/-! a page is written and all that belongs to it: the whole -/
section L2H
variable {l : Launch} {G : xG} {K ar : Nat → Nat} {m0 m m' : XM} {Q : XR → XM → Prop} {pg : Nat → Nat} {Z : Nat → List Nat} {Y Y' xs ys g : List Nat} {w j a s e : Nat} {c fg fp : Nat → Int32} {key : Int64} {A : AS}
theorem anw_pos (h : AI A) (hE : isE A) : ∀ x ∈ anw A, A.w ≤ x.p + 32 ∧ x.p + 32 < A.w + 4 := fun x hx => by
  obtain ⟨m1, -, m3⟩ := anw_mem hx
  have := (h.iy x m1).2.2
  have := hE.1
  have := hE.2
  omega
theorem wro_BJ (h : AI A) (hE : isE A) : BJ A.w [] (wro (emp A)) := by
  obtain ⟨h1, h2, h3⟩ := emp_AI h hE
  have h4 : AI (wro (emp A)) := wro_AI h1 (fun e he => by have := h2 e he; have := hE.2; show 4 * ((A.w + 4) / 4) ≤ _; omega)
  exact ⟨h4, fun e he => by have := h2 e he; omega, Nat.le_refl _, show A.w + 1 ≤ A.w + 4 by omega, fun d hd _ => ⟨show A.w + 1 ≤ A.w + 1 + d by omega, fun _ => Nat.zero_le _⟩⟩
theorem zS_set (hs : s < 64) : zS Z w s = Z s := by
  unfold zS up
  rw [if_neg (by omega), if_neg (by omega)]
theorem c_writeOpenPage (hst : l.stackTraces = false) (h : CR K ar m pg Z Y c fg fp A m) (hA : AI A) (hw : A.w + 5 < 2 ^ 29)
    (hq : ∀ (m' : XM) (pg' : Nat → Nat) (Z' : Nat → List Nat) (Y' : List Nat) (c' fg' fp' : Nat → Int32), Cf K m m' → CR K ar m' pg' Z' Y' c' fg' fp' (wop A) m' → (∀ a, a ∉ Y → (∀ s, s < 64 → a ∉ Z s) → a ∉ Y' ∧ ∀ s, s < 64 → a ∉ Z' s) → Q (.inl none) m') : CC l G xC_writeOpenPage [vR (some (K 0))] m Q := by
  have hP := h.1.1.1
  have h3 := hP.2.2.2.2.2.1
  have h3k := hP.2.2.2.2.2.2.1
  have hw3 := hP.2.2.2.2.2.2.2.2.2.2.2.2.2.2.2.2.2.1
  refine bC_writeOpenPage hst ⟨hP.1, K 3, h3, h3k, c_isBefore hst h3k hw3 (by omega) (fun q1 q2 => ⟨fun q => absurd q (by decide), fun _ => ⟨hP.1, ?_⟩⟩) (fun hn => ⟨fun _ => ⟨hP.1, K 3, h3, h3k, ?_⟩, fun q => absurd rfl q⟩)⟩
  · have hE : isE A := ⟨q1, q2⟩
    refine c_emptySegment hst h hA hE (fun m13 Z1 Y1 c1 fg1 an hcf h13 hanE hani ha6 hanY hout => ?_)
    have hP1 := h13.1.1.1
    have hanl : an.length ≤ 32 := by
      have := anw_len hA hE
      have h2 := congrArg List.length hanE
      simp at h2
      omega
    refine ⟨hP1.1, K 3, hP1.2.2.2.2.2.1, hP1.2.2.2.2.2.2.1, c_wro hst h13 (show A.w + 1 < 2 ^ 29 by omega) (fun m19 h19 => ?_)⟩
    show WW _ _ _ _ _ _ _ _ _ _
    refine c_wopLoop (A := wro (emp A)) (E := anw A) (an := an) (w0 := A.w) hst hE.2 hw (hA.so.sublist List.filter_sublist) (anw_pos hA hE) (fun x hx => hA.ly x (anw_mem hx).1) (fun n => anw_page hA) hanE (fun a ha => (hani a ha).1) hanl ha6 (fun a => a ∉ Y ∧ ∀ s, s < 64 → a ∉ Z s) (fun a ha q => q.1 (hanY a ha)) ?_ (anw A) [] an [] _ _ _ _ _ _ m19 rfl rfl rfl h19 (wro_BJ hA hE) (fun a ha s hs => by rw [zS_set hs]; exact (hani a ha).2.2 s hs) (fun a ha => ⟨(hout a ha.1 ha.2).1, fun s hs => by rw [zS_set hs]; exact (hout a ha.1 ha.2).2 s hs⟩)
    intro m' pg' Z' Y' c' fg' fp' B hB hR hX
    have hwo : wo1 A = B := by
      rw [hB]
      unfold wo1 anl
      rw [if_pos hE, if_pos hE]
    have hll : an.length = (anl A).length := by
      have h2 := congrArg List.length hanE
      simp at h2
      unfold anl
      rw [if_pos hE]
      exact h2
    rw [← hwo, hll] at hR
    exact hq m' pg' Z' Y' c' fg' fp' (hcf.tr hR.1.2.2.2.cf) hR.rebase (fun a q1 q2 => hX a ⟨q1, q2⟩)
  · have hE : ¬ isE A := hn
    refine c_wro hst h (by omega) (fun m11 h11 => ?_)
    show WW _ _ _ _ _ _ _ _ _ _
    have hP1 := h11.1.1.1
    refine bC_writeOpenPage_28 ⟨fun _ => ⟨hP1.1, K 4, hP1.2.2.2.2.2.2.2.1, 11, hP1.2.2.2.2.2.2.2.2.1, vp_in_nI (n := 10) (by omega) (by omega), vp_in_nI (n := 10) (by omega) (by omega), ?_⟩, fun hh => absurd Int32.le_rfl hh⟩
    intro m8 hm8
    rw [show gI m11 (K 4) (10 : Int32).toNatClampNeg = c 10 from h11.1.2.1 10] at hm8
    have h8 : CS K ar m (pgS pg A.w) (zS Z A.w) Y (wro A).w (cA c 10 (nI 0)) fg fp m8 := by
      rw [hm8]
      exact h11.1.count 10 (c 10 + 0)
    have hl0 : (anl A).length = 0 := by
      unfold anl
      rw [if_neg hE]
      rfl
    have hR := h11.cnt8 (B := wop A) h8 (by unfold wop; rw [mA_Z, wo1_nE hE]) (by unfold wop; rw [mA_Y, wo1_nE hE]) (by unfold wop; rw [mA_w, wo1_nE hE]) (by unfold wop; rw [mA_c, wo1_nE hE, hl0])
    exact hq m8 _ _ Y _ fg fp hR.1.2.2.2.cf hR.rebase (fun a q1 q2 => ⟨q1, fun s hs => by rw [zS_set hs]; exact q2 s hs⟩)
end L2H
