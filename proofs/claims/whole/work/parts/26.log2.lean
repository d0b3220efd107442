/-! writing the open page, appending: the cache's state and the cache without memory -/
def pgS (pg : Nat → Nat) (w : Nat) : Nat → Nat := up (up pg (64 + w % 32) (pg 96)) 96 (pg (64 + w % 32))
def zS (Z : Nat → List Nat) (w : Nat) : Nat → List Nat := up (up Z (64 + w % 32) (Z 96)) 96 []
section L2E
variable {l : Launch} {G : xG} {K ar : Nat → Nat} {m0 m m' : XM} {Q : XR → XM → Prop} {pg : Nat → Nat} {Z : Nat → List Nat} {Y Y' xs ys g : List Nat} {w j a s e : Nat} {c fg fp : Nat → Int32} {key : Int64} {A : AS}
theorem c_wro (hst : l.stackTraces = false) (h : CR K ar m0 pg Z Y c fg fp A m) (hw : A.w + 1 < 2 ^ 29) (hq : ∀ m', CR K ar m0 (pgS pg A.w) (zS Z A.w) Y c fg fp (wro A) m' → Q (.inl none) m') : CC l G xG_writeOut [vR (some (K 3))] m Q := by
  obtain ⟨h1, h2, h3, h4, h5, h6, h7⟩ := h
  obtain ⟨a1, a2, a3, a4, a5, a6, a7, a8, a9, a10, a11, a12, a13, a14, a15, a16, a17, a18, a19, a20, a21⟩ := id h1.1.1
  have hlt : A.w % 32 < 32 := Nat.mod_lt _ (by omega)
  generalize hq0 : 64 + A.w % 32 = q0 at *
  have hq97 : q0 < 97 := by omega
  have hpq := h1.1.2.1 q0 hq97
  have hpo := h1.1.2.1 96 (by omega)
  have hD := h1.1.2.2.2.1
  refine c_writeOut (q := pg q0) (qa := ar (pg q0)) hst a7 a14 a15 a17 hpo.1 a18 (by omega) (by rw [← hq0]; exact a21 (A.w % 32) hlt) hpq.1 hpq.2.1 hpq.2.2.1 (fun m' hf k1 k2 k3 k4 k5 k6 => hq m' ?_)
  have hk : ∀ b, (b = K 7 ∨ b = K 3 ∨ PF (pg q0) (ar (pg q0)) b) → m.1 b = some (aR 4 32) ∨ m.1 b = some (oB 2) ∨ m.1 b = some (oB 3) ∨ m.1 b = some (aR 3 8) := by
    rintro b (q | q | q)
    · rw [q]; exact Or.inl a15
    · rw [q]; exact Or.inr (Or.inl a7)
    · exact Or.inr (Or.inr (PF.kind hpq q))
  have nk : ∀ {b : Nat} {k : XKd}, m.1 b = some k → k ≠ aR 4 32 → k ≠ oB 2 → k ≠ oB 3 → k ≠ aR 3 8 → ¬ (b = K 7 ∨ b = K 3 ∨ PF (pg q0) (ar (pg q0)) b) := by
    intro b k hb n1 n2 n3 n4 q
    rcases hk b q with e | e | e | e
    · exact n1 (Option.some.inj (hb.symm.trans e))
    · exact n2 (Option.some.inj (hb.symm.trans e))
    · exact n3 (Option.some.inj (hb.symm.trans e))
    · exact n4 (Option.some.inj (hb.symm.trans e))
  have hF : ∀ b, (b = K 7 ∨ b = K 3 ∨ PF (pg q0) (ar (pg q0)) b) → clsK K b (m.1 b) ∧ ¬ m.1 b = some (oB 1) ∧ b ≠ K 0 ∧ b ≠ K 6 := by
    intro b hb
    rcases hk b hb with e | e | e | e
    · exact clsF a1 a13 e (Or.inr (Or.inl rfl)) (by decide) (by decide) (by decide)
    · exact clsF a1 a13 e (show 2 ≤ 4 by decide) (by decide) (by decide) (by decide)
    · exact clsF a1 a13 e (show 3 ≤ 4 by decide) (by decide) (by decide) (by decide)
    · exact clsF a1 a13 e (Or.inl rfl) (by decide) (by decide) (by decide)
  have k0 := nk a1 (by decide) (by decide) (by decide) (by decide)
  have kk2 := nk a5 (by decide) (by decide) (by decide) (by decide)
  have k4' := nk a9 (by decide) (by decide) (by decide) (by decide)
  have nit : ∀ b, m.1 b = some (oB 1) → ¬ (b = K 7 ∨ b = K 3 ∨ PF (pg q0) (ar (pg q0)) b) := fun b hb => nk hb (by decide) (by decide) (by decide) (by decide)
  have np : ∀ j, j < 97 → j ≠ q0 → ¬ (pg j = K 7 ∨ pg j = K 3 ∨ PF (pg q0) (ar (pg q0)) (pg j)) ∧ ¬ (ar (pg j) = K 7 ∨ ar (pg j) = K 3 ∨ PF (pg q0) (ar (pg q0)) (ar (pg j))) := by
    intro j hj hne
    have hpj := h1.1.2.1 j hj
    constructor
    · rintro (q | q | q | q)
      · have := hpj.1.symm.trans (q ▸ a15); cases this
      · have := hpj.1.symm.trans (q ▸ a7); cases this
      · exact hne (hD.1 j q0 hj hq97 q)
      · have := hpj.1.symm.trans (q ▸ hpq.2.2.1); cases this
    · rintro (q | q | q | q)
      · have := hpj.2.2.1.symm.trans (q ▸ a15); cases this
      · have := hpj.2.2.1.symm.trans (q ▸ a7); cases this
      · have := hpj.2.2.1.symm.trans (q ▸ hpq.1); cases this
      · exact hne (hD.2.1 j q0 hj hq97 q)
  have hpg : ∀ j, pgS pg A.w j = if j = 96 then pg q0 else if j = q0 then pg 96 else pg j := by
    intro j
    unfold pgS up
    rw [hq0]
  have hzz : ∀ j, zS Z A.w j = if j = 96 then [] else if j = q0 then Z 96 else Z j := by
    intro j
    unfold zS up
    rw [hq0]
  have hfr : ∀ j, j < 97 → j ≠ q0 → PgOK m' (pg j) (ar (pg j)) (Z j) := fun j hj hne => (h1.1.2.1 j hj).fr hf (np j hj hne).1 (np j hj hne).2 (fun a ha => nit a ((h1.1.2.1 j hj).2.2.2.2.2.1 a ha).1)
  have hCa : CaOK m' K ar (pgS pg A.w) (zS Z A.w) Y (wro A).w := by
    refine ⟨⟨(hf.kd _).trans a1, (hf.gR k0 _).trans a2, (hf.kd _).trans a3, (hf.gR k0 _).trans a4, (hf.kd _).trans a5, (hf.gR k0 _).trans a6, (hf.kd _).trans a7, (hf.gR k0 _).trans a8, (hf.kd _).trans a9, (hf.gR k0 _).trans a10, (hf.kd _).trans a11, (hf.gR k0 _).trans a12, (hf.kd _).trans a13, k2.trans a14, (hf.kd _).trans a15, k3.trans a16, ?_, k5, hw, fun i hi => ?_, fun i hi => ?_⟩, fun j hj => ?_, ?_, ⟨fun i j hi hj e => ?_, fun i j hi hj e => ?_, hD.2.2⟩, ?_⟩
    · rw [hpg, if_pos rfl]
      exact k4
    · rw [hpg, if_neg (by omega), if_neg (by omega)]
      exact (hf.gR kk2 _).trans (a20 i hi)
    · rw [k1, hpg, if_neg (show ¬ 64 + i = 96 by omega)]
      by_cases q : i = A.w % 32
      · rw [if_pos q, if_pos (show 64 + i = q0 by omega)]
      · rw [if_neg q, if_neg (show ¬ 64 + i = q0 by omega)]
        exact a21 i hi
    · rw [hpg, hzz]
      by_cases q : j = 96
      · rw [if_pos q, if_pos q]
        exact k6
      · rw [if_neg q, if_neg q]
        by_cases r : j = q0
        · rw [if_pos r, if_pos r]
          exact hfr 96 (by omega) (by omega)
        · rw [if_neg r, if_neg r]
          exact hfr j hj r
    · have hix := h1.1.2.2.1
      exact hix.fr hf (nk hix.1 (by decide) (by decide) (by decide) (by decide)) (nk hix.2.2.1 (by decide) (by decide) (by decide) (by decide)) (nk hix.2.2.2.2.1 (by decide) (by decide) (by decide) (by decide)) (fun a ha => nit a (hix.2.2.2.2.2.2.2.2.1 a ha).1)
    · rw [hpg, hpg] at e
      by_cases q1 : i = 96 <;> by_cases q2 : j = 96
      · omega
      · rw [if_pos q1, if_neg q2] at e
        split at e
        · have := hD.1 _ _ hq97 (by omega) e; omega
        · have := hD.1 _ _ hq97 hj e; omega
      · rw [if_neg q1, if_pos q2] at e
        split at e
        · have := hD.1 _ _ (by omega) hq97 e; omega
        · have := hD.1 _ _ hi hq97 e; omega
      · rw [if_neg q1, if_neg q2] at e
        split at e <;> split at e
        · omega
        · have := hD.1 _ _ (by omega) hj e; omega
        · have := hD.1 _ _ hi (by omega) e; omega
        · exact hD.1 _ _ hi hj e
    · rw [hpg, hpg] at e
      by_cases q1 : i = 96 <;> by_cases q2 : j = 96
      · omega
      · rw [if_pos q1, if_neg q2] at e
        split at e
        · have := hD.2.1 _ _ hq97 (by omega) e; omega
        · have := hD.2.1 _ _ hq97 hj e; omega
      · rw [if_neg q1, if_pos q2] at e
        split at e
        · have := hD.2.1 _ _ (by omega) hq97 e; omega
        · have := hD.2.1 _ _ hi hq97 e; omega
      · rw [if_neg q1, if_neg q2] at e
        split at e <;> split at e
        · omega
        · have := hD.2.1 _ _ (by omega) hj e; omega
        · have := hD.2.1 _ _ hi (by omega) e; omega
        · exact hD.2.1 _ _ hi hj e
    · rcases h1.1.2.2.2.2 with q | ⟨a, q1, q2⟩
      · exact Or.inl ((hf.gR k0 _).trans q)
      · exact Or.inr ⟨a, (hf.gR k0 _).trans q1, q2.fr hf (nit a q2.1)⟩
  refine ⟨⟨hCa, fun k => (hf.gI k4' k).trans (h1.2.1 k), fun a ha => ?_, h1.2.2.2.fr hf hF⟩, h2, fun s hs => ?_, fun p hp hp' => ?_, h5, fun s hs a ha => ?_, h7⟩
  · have na := nit a (by rw [h1.kd0]; exact ha)
    exact ⟨(hf.gI na 5).trans (h1.2.2.1 a ha).1, (hf.gI na 4).trans (h1.2.2.1 a ha).2⟩
  · rw [hzz, if_neg (by omega), if_neg (by omega)]
    show up (up A.Z (64 + A.w % 32) (A.Z 96)) 96 [] s = _
    rw [hq0]
    unfold up
    rw [if_neg (by omega), if_neg (by omega)]
    exact h3 s hs
  · rw [hzz]
    show up (up A.Z (64 + A.w % 32) (A.Z 96)) 96 [] p = _
    rw [hq0]
    unfold up
    by_cases q : p = 96
    · rw [if_pos q, if_pos q]
      rfl
    · rw [if_neg q, if_neg q]
      by_cases r : p = q0
      · rw [if_pos r, if_pos r]
        exact h4 96 (by omega) (by omega)
      · rw [if_neg r, if_neg r]
        exact h4 p hp hp'
  · rw [hzz, if_neg (by omega), if_neg (by omega)] at ha
    exact h6 s hs a ha
end L2E
