/-! the reference enters a number -/
section L3I
variable {l : Launch} {G : xG} {Q : XR → XM → Prop} {R : Nat → Nat} {m0 m m' : XM} {S S' S1 S2 : RS} {X X' : RX} {A B : AS} {ix g xs ys zs : List Nat} {pn : Nat → Nat} {n p s i x v : Nat} {key : Int64} {c : Nat → Int32}
theorem en_P : (en1 S n).P = up S.P 96 (S.P 96 ++ [n]) := by unfold en1; rw [RS.P_scm, RS.P_st, RS.P_sgt, RS.P_snw, RS.P_sP]
theorem en_k : (en1 S n).k = S.k := by unfold en1; rw [RS.k_scm, RS.k_st, RS.k_sgt, RS.k_snw, RS.k_sP]
theorem en_l : (en1 S n).l = S.l := by unfold en1; rw [RS.l_scm, RS.l_st, RS.l_sgt, RS.l_snw, RS.l_sP]
theorem en_v : (en1 S n).v = S.v := by unfold en1; rw [RS.v_scm, RS.v_st, RS.v_sgt, RS.v_snw, RS.v_sP]
theorem en_mk : (en1 S n).mk = S.mk := by unfold en1; rw [RS.mk_scm, RS.mk_st, RS.mk_sgt, RS.mk_snw, RS.mk_sP]
theorem en_nw : (en1 S n).nw = up S.nw n 1 := by unfold en1; rw [RS.nw_scm, RS.nw_st, RS.nw_sgt, RS.nw_snw]
theorem en_gt : (en1 S n).gt = up S.gt n 0 := by unfold en1; rw [RS.gt_scm, RS.gt_st, RS.gt_sgt]
theorem en_cm : (en1 S n).cm = up S.cm n (S.t + 1) := by unfold en1; rw [RS.cm_scm]
theorem en_t : (en1 S n).t = S.t + 1 := by unfold en1; rw [RS.t_scm, RS.t_st]
theorem en_w : (en1 S n).w = S.w := by unfold en1; rw [RS.w_scm, RS.w_st, RS.w_sgt, RS.w_snw, RS.w_sP]
theorem en_c : (en1 S n).c = S.c := by unfold en1; rw [RS.c_scm, RS.c_st, RS.c_sgt, RS.c_snw, RS.c_sP]
theorem en_g : (en1 S n).g = S.g := by unfold en1; rw [RS.g_scm, RS.g_st, RS.g_sgt, RS.g_snw, RS.g_sP]
theorem en_h : (en1 S n).h = S.h := by unfold en1; rw [RS.h_scm, RS.h_st, RS.h_sgt, RS.h_snw, RS.h_sP]
theorem RA.en (hA : RA S A ix pn) (hn : ∀ p, p < 97 → n ∉ S.P p) : RA (en1 S n) (mA (up A.Z 96 (A.Z 96 ++ [eL S n])) (A.Y ++ [mE (S.k n) (vlS S n) 0 A.w]) A.w A.c (A.t + 1)) (ix ++ [n]) (up pn n A.w) := by
  obtain ⟨h1, h2, h3, h4, h5, h6, h7, h8, h9, h10, h11⟩ := hA
  have eZ' : eZ (en1 S n) = eZ S := eZ_of en_l en_v en_k en_mk
  have eL' : eL (en1 S n) = eL S := eL_of en_l en_v en_k
  have evl : vlS (en1 S n) = vlS S := vlS_of en_l en_v
  have hnx : ∀ y ∈ ix, y ≠ n := fun y hy r => by
    obtain ⟨q, a1, a2, a3⟩ := lgs_mem.mp ((h5 y).mp hy).1
    exact hn q a2 (r ▸ a3)
  refine ⟨by rw [en_P]; exact h1.app (by omega) hn, fun s hs => ?_, fun p hp hp' => ?_, ?_, fun y => ?_, ?_, fun y hy => ?_, by rw [en_w]; exact h8, by rw [en_t, ← h9]; rfl, by rw [en_c]; exact h10, by rw [en_c]; exact h11⟩
  · rw [eZ', en_P, mA_Z, upN (by omega), upN (by omega)]
    exact h2 s hs
  · rw [eL', en_P, mA_Z]
    by_cases e : p = 96
    · rw [e, up_same, up_same, List.map_append, h3 96 (by omega) (by omega)]
      rfl
    · rw [upN e, upN e]
      exact h3 p hp hp'
  · rw [mA_Y, List.map_append, h4]
    congr 1
    · apply List.map_congr_left
      intro y hy
      have := hnx y hy
      unfold eY
      rw [en_k, evl, en_gt, upN this, upN this]
    · unfold eY
      rw [List.map_singleton, en_k, evl, en_gt, up_same, up_same]
  · rw [List.mem_append, List.mem_singleton, h5 y, lgs_mem, lgs_mem, en_P, en_nw]
    constructor
    · rintro (⟨⟨q, a1, a2, a3⟩, a4⟩ | r)
      · have hne : y ≠ n := fun e => hn q a2 (e ▸ a3)
        rw [upN hne]
        refine ⟨⟨q, a1, a2, ?_⟩, a4⟩
        by_cases e : q = 96
        · rw [e, up_same]
          exact List.mem_append_left _ (e ▸ a3)
        · rw [upN e]
          exact a3
      · rw [r, up_same]
        exact ⟨⟨96, by omega, by omega, by rw [up_same]; simp⟩, by decide⟩
    · rintro ⟨⟨q, a1, a2, a3⟩, a4⟩
      by_cases e0 : y = n
      · exact Or.inr e0
      · rw [upN e0] at a4
        refine Or.inl ⟨⟨q, a1, a2, ?_⟩, a4⟩
        by_cases e : q = 96
        · rw [e, up_same] at a3
          rcases List.mem_append.mp a3 with r | r
          · rw [e]
            exact r
          · simp at r
            exact absurd r e0
        · rw [upN e] at a3
          exact a3
  · rw [List.pairwise_append, en_cm]
    refine ⟨?_, List.pairwise_singleton _ _, fun a ha b hb => ?_⟩
    · refine List.Pairwise.imp_of_mem (fun {a b} ha hb hab => ?_) h6
      rw [upN (hnx a ha), upN (hnx b hb)]
      exact hab
    · simp at hb
      rw [hb, up_same, upN (hnx a ha)]
      have := (h7 a ha).2
      omega
  · rw [en_P, en_cm, en_t, mA_w]
    rcases List.mem_append.mp hy with r | r
    · have hne := hnx y r
      rw [upN hne, upN hne]
      obtain ⟨a1, a2⟩ := h7 y r
      refine ⟨?_, by omega⟩
      by_cases e : pl A.w (pn y) = 96
      · rw [e, up_same]
        exact List.mem_append_left _ (e ▸ a1)
      · rw [upN e]
        exact a1
    · simp at r
      rw [r, up_same, up_same]
      have : pl A.w A.w = 96 := by unfold pl; rw [if_pos rfl]
      rw [this, up_same]
      exact ⟨by simp, Nat.le_refl _⟩
theorem c_MenterR (hst : l.stackTraces = false) (h : MR R m0 S X m) (hA : RA S A ix pn) (hky : (A.Y.map Ent.k).Nodup) (hn4 : n < 4096) (hn : ∀ p, p < 97 → n ∉ S.P p) (hl : (S.P 96).length < 8) (ht : S.t + 1 < 2 ^ 29)
    (hq : ∀ S' ix' pn' m', MR R m0 S' X m' → RA S' (ent (eL S n) A) ix' pn' → S'.h = S.h → S'.g = S.g → (∀ y, y ≠ n → S'.k y = S.k y ∧ S'.l y = S.l y ∧ S'.v y = S.v y ∧ S'.cm y = S.cm y) → (∀ p y, p < 97 → y ∈ S'.P p → y ∈ S.P p ∨ y = n) → Q (.inl none) m') : CC l G xM_enter [vR (some (R 0)), vI (nI n)] m Q := by
  have hY := hA.2.2.2.1
  have fin : ∀ S1 m', S1.P = S.P → Dk S S1 → S1.g = S.g → MR R m0 (en1 S1 n) X m' → RA (en1 S1 n) (ent (eL S n) A) (ix.filter (fun y => S.k y != S.k n) ++ [n]) (up pn n A.w) → Q (.inl none) m' := by
    intro S1 m' eP K eg h' hA'
    refine hq _ _ _ m' h' hA' (by rw [en_h, K.2.2.2.2.2]) (by rw [en_g, eg]) (fun y hy => ?_) (fun p y hp hy => ?_)
    · rw [en_k, en_l, en_v, en_cm, upN hy, K.1, K.2.1, K.2.2.1, K.2.2.2.1]
      exact ⟨rfl, rfl, rfl, rfl⟩
    · rw [en_P, eP] at hy
      by_cases e : p = 96
      · rw [e, up_same] at hy
        rcases List.mem_append.mp hy with r | r
        · rw [e]
          exact Or.inl r
        · simp at r
          exact Or.inr r
      · rw [upN e] at hy
        exact Or.inl hy
  have hYf : A.Y.filter (fun y => y.k != (eL S n).k) = (ix.filter (fun y => S.k y != S.k n)).map (eY S pn) := by
    rw [hY, List.filter_map]
    rfl
  have hixl : ∀ y ∈ ix, y ∈ lgs S ∧ S.nw y ≠ 0 := fun y hy => (hA.2.2.2.2.1 y).mp hy
  refine c_Menter hst h hn4 hl ht (fun hno m' h' => ?_) (fun x hx hnw hk m' h' => ?_)
  · have e1 : ix.filter (fun y => S.k y != S.k n) = ix := List.filter_eq_self.mpr (fun y hy => by
      have hm := hixl y hy
      rcases hno y hm.1 with r | r
      · exact absurd r hm.2
      · simpa using r)
    have := hA.en hn
    refine fin S m' rfl ⟨rfl, rfl, rfl, rfl, rfl, rfl⟩ rfl h' ?_
    have e2 : ent (eL S n) A = mA (up A.Z 96 (A.Z 96 ++ [eL S n])) (A.Y ++ [mE (S.k n) (vlS S n) 0 A.w]) A.w A.c (A.t + 1) := by
      unfold ent
      rw [hYf, e1, ← hY]
      rfl
    rw [e1, e2]
    exact this
  · have hxix : x ∈ ix := (hA.2.2.2.2.1 x).mpr ⟨hx, hnw⟩
    have hkn : (ix.map S.k).Nodup := by
      rw [hY, List.map_map] at hky
      exact hky
    have e1 : ix.filter (fun y => !([x] : List Nat).contains y) = ix.filter (fun y => S.k y != S.k n) := by
      apply List.filter_congr
      intro y hy
      rw [Bool.eq_iff_iff]
      constructor
      · intro r
        have hne : y ≠ x := by simpa using r
        have : S.k y ≠ S.k n := fun t => hne (nd_inj hkn y hy x hxix (t.trans hk.symm))
        simpa using this
      · intro r
        have hne : S.k y ≠ S.k n := by simpa using r
        have : y ≠ x := fun t => hne (by rw [t]; exact hk)
        simpa using this
    have hA1 := hA.mv (g := [x]) (xs := S.P 0) (s := 0) (by omega) (List.Sublist.refl _) (fun y hy => by simp at hy; rw [hy]; exact hxix)
    rw [up_self, ← hA.2.1 0 (by omega), up_self, e1] at hA1
    have e : (S.snw (clF S.nw [x])).sP S.P = S.snw (up S.nw x 0) := by
      rw [show clF S.nw [x] = up S.nw x 0 from rfl]
      have := RS.sP_self (S := S.snw (up S.nw x 0))
      rw [RS.P_snw] at this
      exact this
    rw [e] at hA1
    have hA2 := hA1.en (n := n) (fun p hp => by rw [RS.P_snw]; exact hn p hp)
    refine fin _ m' RS.P_snw Dk.snw RS.g_snw h' ?_
    have e2 : ent (eL S n) A = mA (up A.Z 96 (A.Z 96 ++ [eL S n])) ((ix.filter (fun y => S.k y != S.k n)).map (eY S pn) ++ [mE (S.k n) (vlS S n) 0 A.w]) A.w A.c (A.t + 1) := by
      unfold ent
      rw [hYf]
      rfl
    rw [e2]
    have e3 : eL (S.snw (up S.nw x 0)) = eL S := (Dk.snw (S := S)).eL
    have e4 : vlS (S.snw (up S.nw x 0)) = vlS S := (Dk.snw (S := S)).vl
    rw [e3, e4, RS.k_snw, mA_Z, mA_Y, mA_w, mA_c] at hA2
    exact hA2
end L3I
