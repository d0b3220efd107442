/-! crash -/
def aCra (t : Nat) : AS := mA (fun _ => []) [] 0 (fun _ => 0) t
theorem aCra_AI {t : Nat} : AI (aCra t) := aNew_AI
section L2N
variable {l : Launch} {G : xG} {Q : XR → XM → Prop} {K ar : Nat → Nat} {m0 m m' m'' : XM} {N E : Nat → Prop} {pg : Nat → Nat} {Z : Nat → List Nat} {Y xs ys zs : List Nat} {w j a s z t : Nat} {c fg fp : Nat → Int32} {A B : AS} {b b' : Nat → Int32} {fo : Option (List Int32)} {op : Int32} {key : Int64}
theorem CS.wr (h : CS K ar m0 pg Z Y w c fg fp m) {w' : Nat} (hw : w' < 2 ^ 29) : CS K ar m0 pg Z Y w' c fg fp (mI m (K 3) 3 (nI w')) := by
  obtain ⟨⟨a1, a2, a3, a4, a5, a6, a7, a8, a9, a10, a11, a12, a13, a14, a15, a16, a17, a18, a19, a20, a21⟩, g2, g3, g4, g5⟩ := id h.1
  have hf : Fr (fun x => x = K 3) m (mI m (K 3) 3 (nI w')) := frI 3 _ rfl
  have nk : ∀ {x : Nat} {k : XKd}, m.1 x = some k → k ≠ oB 2 → ¬ x = K 3 := fun hx hk q => hk (by rw [q] at hx; exact Option.some.inj (hx.symm.trans a7))
  refine ⟨⟨⟨a1, a2, a3, a4, a5, a6, a7, a8, a9, a10, a11, a12, a13, a14, a15, a16, a17, ?_, hw, a20, a21⟩, fun j hj => ?_, ?_, g4, ?_⟩, fun k => (hf.gI (nk a9 (by decide)) k).trans (h.2.1 k), fun a ha => ?_, h.2.2.2.fr hf ?_⟩
  · simp [gI, mI]
  · have hp := g2 j hj
    exact hp.fr hf (nk hp.1 (by decide)) (nk hp.2.2.1 (by decide)) (fun a ha => nk (hp.2.2.2.2.2.1 a ha).1 (by decide))
  · obtain ⟨i1, i2, i3, i4, i5, i6, i7, i8, i9, i10⟩ := id g3
    exact g3.fr hf (nk i1 (by decide)) (nk i3 (by decide)) (nk i5 (by decide)) (fun a ha => nk (i9 a ha).1 (by decide))
  · rcases g5 with q | ⟨a, q1, q2⟩
    · exact Or.inl q
    · exact Or.inr ⟨a, q1, q2.fr hf (nk q2.1 (by decide))⟩
  · have na : ¬ a = K 3 := nk (k := oB 1) (by rw [h.kd0]; exact ha) (by decide)
    exact ⟨(hf.gI na 5).trans (h.2.2.1 a ha).1, (hf.gI na 4).trans (h.2.2.1 a ha).2⟩
  · rintro x rfl
    exact clsF a1 a13 a7 (show 2 ≤ 4 by decide) (by decide) (by decide) (by decide)
theorem CS.cn (h : CS K ar m0 pg Z Y w c fg fp m) (hf : Fr (fun x => x = K 4) m m') : CS K ar m0 pg Z Y w (fun k => m'.2.1 (K 4) k) fg fp m' := by
  obtain ⟨⟨a1, a2, a3, a4, a5, a6, a7, a8, a9, a10, a11, a12, a13, a14, a15, a16, a17, a18, a19, a20, a21⟩, g2, g3, g4, g5⟩ := id h.1
  have nk : ∀ {x : Nat} {k : XKd}, m.1 x = some k → k ≠ aR 0 11 → ¬ x = K 4 := fun hx hk q => hk (by rw [q] at hx; exact Option.some.inj (hx.symm.trans a9))
  refine ⟨h.1.fr hf (nk a1 (by decide)) (nk a5 (by decide)) (nk a7 (by decide)) (nk a15 (by decide)) (nk g3.1 (by decide)) (nk g3.2.2.1 (by decide)) (nk g3.2.2.2.2.1 (by decide)) (fun a ha => nk ha (by decide)) (fun j hj => ⟨nk (g2 j hj).1 (by decide), nk (g2 j hj).2.2.1 (by decide)⟩), fun k => rfl, fun a ha => ?_, h.2.2.2.fr hf ?_⟩
  · have na : ¬ a = K 4 := nk (k := oB 1) (by rw [h.kd0]; exact ha) (by decide)
    exact ⟨(hf.gI na 5).trans (h.2.2.1 a ha).1, (hf.gI na 4).trans (h.2.2.1 a ha).2⟩
  · rintro x rfl
    exact clsF a1 a13 a9 (Or.inr (Or.inr ⟨rfl, Or.inl ⟨rfl, rfl⟩⟩)) (by decide) (by decide) (by decide)
/-- the pages from p on, n of them, without items -/
def wip (Z : Nat → List Nat) (p n : Nat) : Nat → List Nat := fun j => if p ≤ j ∧ j < p + n then [] else Z j
theorem wip_0 {p : Nat} : wip Z p 0 = Z := by
  funext j
  unfold wip
  rw [if_neg (by omega)]
theorem wip_s {p n : Nat} : up (wip Z p n) (p + n) [] = wip Z p (n + 1) := by
  funext j
  simp only [wip, up]
  by_cases q : j = p + n
  · rw [if_pos q, if_pos (by omega)]
  · rw [if_neg q]
    by_cases r : p ≤ j ∧ j < p + n
    · rw [if_pos r, if_pos (by omega)]
    · rw [if_neg r, if_neg (by omega)]
theorem c_Gwipe (hst : l.stackTraces = false) (h : CS K ar m0 pg Z Y w c fg fp m) (hq : ∀ m', CS K ar m0 pg (up (wip Z 64 32) 96 []) [] 0 c fg fp m' → Q (.inl none) m') : CC l G xG_wipe [vR (some (K 3))] m Q := by
  refine bG_wipe hst ?_
  have loop : ∀ k i m', i + k = 32 → CS K ar m0 pg (wip Z 64 i) Y w c fg fp m' → WW l G xG_wipe 2 [some (vR (some (K 3))), some (vI (nI i))] [] m' 0 0 Q := by
    intro k
    induction k with
    | zero =>
      intro i m' e h'
      have e' : i = 32 := by omega
      subst e'
      obtain ⟨a1, a2, a3, a4, a5, a6, a7, a8, a9, a10, a11, a12, a13, a14, a15, a16, a17, a18, a19, a20, a21⟩ := id h'.1.1
      have hp := h'.1.2.1 96 (by omega)
      refine bG_wipe_2 ⟨fun _ => ⟨a7, pg 96, a17, hp.1, c_Pwipe hst hp.1 hp.2.1 hp.2.2.1 (fun m5 f5 p5 => ?_)⟩, fun q => absurd Int32.le_rfl q⟩
      have h5 := h'.page (j := 96) (by omega) f5 p5
      obtain ⟨b1, b2, b3, b4, b5, b6, b7, b8, b9, b10, b11, b12, b13, b14, b15, b16, b17, b18, b19, b20, b21⟩ := id h5.1.1
      refine ⟨b7, K 8, b16, h5.1.2.2.1.1, c_Iwipe hst h5.1.2.2.1 (fun m10 f10 x10 => ?_)⟩
      have h10 := h5.index (f10.mono (fun x hx => Or.inl hx)) x10
      refine ⟨h10.1.1.2.2.2.2.2.2.1, fun m12 hm => ?_⟩
      have h12 := h10.wr (w' := 0) (by omega)
      rw [hm]
      exact hq _ h12
    | succ k ih =>
      intro i m' e h'
      obtain ⟨a1, a2, a3, a4, a5, a6, a7, a8, a9, a10, a11, a12, a13, a14, a15, a16, a17, a18, a19, a20, a21⟩ := id h'.1.1
      have hp := h'.1.2.1 (64 + i) (by omega)
      refine bG_wipe_2 ⟨fun q => ?_, fun _ => ⟨a7, K 7, a14, 32, a15, vp_in_nI (by omega) (by omega), pg (64 + i), ?_, hp.1, c_Pwipe hst hp.1 hp.2.1 hp.2.2.1 (fun m5 f5 p5 => ?_)⟩⟩
      · rw [show (32 : Int32) = nI 32 from rfl, nI_leI (by omega) (by omega)] at q
        omega
      · rw [nI_clamp (by omega)]
        exact a21 i (by omega)
      · have h5 := h'.page (j := 64 + i) (by omega) f5 p5
        rw [wip_s] at h5
        show WW _ _ _ _ _ _ _ _ _ _
        rw [nI_1]
        exact ih (i + 1) m5 (by omega) h5
  exact loop 32 0 m rfl (by rw [wip_0]; exact h)
theorem c_Ccrash (hst : l.stackTraces = false) (h : CQ K N A b fo op m) (h0 : op = 0 → Q (.inr "java/lang/IllegalStateException") m)
    (h1 : ¬ op = 0 → ∀ m', Ce K m m' → CQ K N (aCra t) b none 0 m' → Q (.inl none) m') : CC l G xC_crash [vR (some (K 0))] m Q := by
  obtain ⟨ar, pg, Z, Y, c, fg, fp, hR⟩ := id h.1
  have a1 := hR.kd0
  refine bC_crash hst ⟨a1, 0, 0, rfl, rfl, c_Crefuse hst a1 h.2.2.2.2.1 (fun q => ?_) h0⟩
  have loop : ∀ k i m', i + k = 64 → CS K ar m pg (wip Z 0 i) Y A.w c fg fp m' → WW l G xC_crash 6 [some (vR (some (K 0))), some (vI (nI i))] [] m' 0 0 Q := by
    intro k
    induction k with
    | zero =>
      intro i m' e h'
      have e' : i = 64 := by omega
      subst e'
      obtain ⟨b1, b2, b3, b4, b5, b6, b7, -⟩ := id h'.1.1
      refine bC_crash_6 ⟨fun _ => ⟨b1, K 3, b6, b7, c_Gwipe hst h' (fun m5 h5 => ?_)⟩, fun q => absurd Int32.le_rfl q⟩
      obtain ⟨c1, c2, c3, c4, c5, c6, c7, c8, c9, -⟩ := id h5.1.1
      refine ⟨c1, ?_⟩
      rw [c8]
      refine c_fill hst c9 (by omega) (fun m7 f7 g7 => ?_)
      have h7 := h5.cn f7
      have hR7 : CR K ar m pg (up (wip (wip Z 0 64) 64 32) 96 []) [] (fun k => m7.2.1 (K 4) k) fg fp (aCra t) m7 := by
        refine ⟨h7, fun k hk => g7 k hk, fun s hs => ?_, fun p hp hp' => ?_, rfl, (fun s hs a ha hy => nomatch hy), (fun a ha => nomatch ha)⟩
        · have : up (wip (wip Z 0 64) 64 32) 96 [] s = [] := by
            unfold up wip
            rw [if_neg (by omega), if_neg (by omega), if_pos (by omega)]
          rw [this]
          rfl
        · have : up (wip (wip Z 0 64) 64 32) 96 [] p = [] := by
            unfold up wip
            by_cases q : p = 96
            · rw [if_pos q]
            · rw [if_neg q, if_pos (by omega)]
          rw [this]
          rfl
      have hcf := hR7.1.2.2.2.cf
      have hQ7 := h.cf hcf ⟨ar, pg, _, [], _, fg, fp, hR7.rebase⟩ aCra_AI
      refine ⟨hR7.kd0, fun m9 hm9 m10 hm10 => ?_⟩
      have hQ9 : CQ K N (aCra t) b none op m9 ∧ Ce K m7 m9 := by rw [hm9]; exact hQ7.fo0 none none rfl
      have hQ10 : CQ K N (aCra t) b none 0 m10 ∧ Ce K m9 m10 := by rw [hm10]; exact hQ9.1.op0 0
      exact h1 q m10 ((hcf.ce.tr hQ9.2).tr hQ10.2) hQ10.1
    | succ k ih =>
      intro i m' e h'
      obtain ⟨b1, b2, b3, b4, b5, b6, b7, b8, b9, b10, b11, b12, b13, b14, b15, b16, b17, b18, b19, b20, b21⟩ := id h'.1.1
      have hp := h'.1.2.1 i (by omega)
      refine bC_crash_6 ⟨fun q => ?_, fun _ => ⟨b1, K 2, b4, 64, b5, vp_in_nI (by omega) (by omega), pg i, ?_, hp.1, c_Pwipe hst hp.1 hp.2.1 hp.2.2.1 (fun m5 f5 p5 => ?_)⟩⟩
      · rw [show (64 : Int32) = nI 64 from rfl, nI_leI (by omega) (by omega)] at q
        omega
      · rw [nI_clamp (by omega)]
        exact b20 i (by omega)
      · have h5 := h'.page (j := i) (by omega) f5 p5
        have := wip_s (Z := Z) (p := 0) (n := i)
        rw [Nat.zero_add] at this
        rw [this] at h5
        show WW _ _ _ _ _ _ _ _ _ _
        rw [nI_1]
        exact ih (i + 1) m5 (by omega) h5
  exact loop 64 0 m rfl (by rw [wip_0]; exact hR.1)
end L2N
