/-! the reference's delete and get -/
section L3O
variable {l : Launch} {G : xG} {Q : XR → XM → Prop} {R : Nat → Nat} {m0 m m' : XM} {S S' S1 S2 : RS} {X X' : RX} {A B : AS} {ix g xs ys zs rest hs0 : List Nat} {pn : Nat → Nat} {n p s i v w0 k x z : Nat} {key : Int64} {c c0 : Nat → Int32}
theorem RA.ixk (hA : RA S A ix pn) (hky : (A.Y.map Ent.k).Nodup) : (ix.map S.k).Nodup := by
  rw [hA.2.2.2.1, List.map_map] at hky
  exact hky
/-- one is no more the newest -/
theorem RA.drop (hA : RA S A ix pn) (hky : (A.Y.map Ent.k).Nodup) (hx : x ∈ ix) (hk : S.k x = key) : RA (S.snw (up S.nw x 0)) (mA A.Z (A.Y.filter (fun y => y.k != key)) A.w A.c A.t) (ix.filter (fun y => S.k y != key)) pn := by
  have hkn := hA.ixk hky
  have e1 : ix.filter (fun y => !([x] : List Nat).contains y) = ix.filter (fun y => S.k y != key) := by
    apply List.filter_congr
    intro y hy
    rw [Bool.eq_iff_iff]
    constructor
    · intro r
      have hne : y ≠ x := by simpa using r
      have : S.k y ≠ key := fun t => hne (nd_inj hkn y hy x hx (t.trans hk.symm))
      simpa using this
    · intro r
      have hne : S.k y ≠ key := by simpa using r
      have : y ≠ x := fun t => hne (by rw [t]; exact hk)
      simpa using this
  have hA1 := hA.mv (g := [x]) (xs := S.P 0) (s := 0) (by omega) (List.Sublist.refl _) (fun y hy => by simp at hy; rw [hy]; exact hx)
  have hYf : A.Y.filter (fun y => y.k != key) = (ix.filter (fun y => S.k y != key)).map (eY S pn) := by
    rw [hA.2.2.2.1, List.filter_map]
    rfl
  rw [up_self, ← hA.2.1 0 (by omega), up_self, e1, ← hYf] at hA1
  have e : (S.snw (clF S.nw [x])).sP S.P = S.snw (up S.nw x 0) := by
    rw [show clF S.nw [x] = up S.nw x 0 from rfl]
    have := RS.sP_self (S := S.snw (up S.nw x 0))
    rw [RS.P_snw] at this
    exact this
  rw [e] at hA1
  exact hA1
theorem c_Mdelete (hst : l.stackTraces = false) (h : MR R m0 S X m) (hA : RA S A ix pn) (hAI : AI A) (hop : X.op = 0 ∨ X.op = 1) (h0 : X.op = 0 → ∀ m', MR R m0 S (mX 1 X.op X.b X.fo X.du) m' → Q (.inl (some (vI 0))) m')
    (h1 : X.op = 1 → ∀ S' ix' m' y, MR R m0 S' (mX 0 X.op X.b X.fo X.du) m' → RA S' (aDel key A) ix' pn → (y = 0 ↔ aDA key A = 0) → (y = 0 ∨ y = 1) → Q (.inl (some (vI y))) m') : CC l G xM_delete [vR (some (R 0)), vL key] m Q := by
  have hs := sN_lt key
  have hn := (hAI.kz (sN key) hs).1
  refine bM_delete hst ⟨h.w.k0, c_Mworks hst h hop (fun o m2 h2 => ⟨fun q => absurd rfl q, fun _ => h0 o m2 h2⟩) (fun o m2 h2 => ⟨fun _ => ⟨h2.w.k0, c_Mnewest hst h2 ?_⟩, fun q => absurd q (by decide)⟩)⟩
  have hq := h1 o
  have hda : aDA key A = if aHas key A.Y then 1 else aRmA key A.Z := rfl
  rcases hA.newest (key := key) with ⟨e1, e2, e3⟩ | ⟨x, hx, e1, e2, e3⟩
  · rw [e1]
    refine ⟨fun _ => ?_, fun q => absurd (by decide) q⟩
    have hYf : A.Y.filter (fun y => y.k != key) = A.Y := List.filter_eq_self.mpr (fun e he => by
      unfold aHas at e3
      rw [List.any_eq_false] at e3
      have := e3 e he
      simpa using this)
    refine bM_delete_26 ⟨h2.w.k0, c_MremoveR (k := 3) hst h2 hA (by omega) (by omega) hn (fun S' m' h' hA' _ _ _ _ => ⟨fun q => absurd q (by decide), fun _ => ?_⟩)⟩
    have hA'' : RA S' (aDel key A) ix pn := by
      unfold aDel
      rw [hYf]
      exact hA'
    rw [e3] at hda
    have hda' : aDA key A = aRmA key A.Z := hda
    refine ⟨fun r => hq S' ix m' 0 h' hA'' (by rw [hda', r]) (Or.inl rfl), fun r => hq S' ix m' 1 h' hA'' ?_ (Or.inr rfl)⟩
    rw [hda']
    exact ⟨fun t => absurd t (by decide), fun t => absurd t r⟩
  · rw [e2]
    have hx4 := h.lt ((hA.2.2.2.2.1 x).mp hx).1
    refine ⟨fun q => absurd q (nI_nn (by omega)), fun _ => ⟨h2.w.k0, R 9, h2.w.r9, 4096, h2.w.k9, vp_in_nI hx4 (by omega), fun m13 hm13 => ?_⟩⟩
    rw [nI_clamp (by omega)] at hm13
    have h13 := h2.sNw hx4 0
    rw [← hm13] at h13
    have hA13 := hA.drop hAI.ky hx e1
    refine bM_delete_26 ⟨h13.w.k0, c_MremoveR (k := 3) hst h13 hA13 (by omega) (by omega) hn (fun S' m' h' hA' _ _ _ _ => ⟨fun _ => ?_, fun q => absurd (nI_n0 (by omega)) q⟩)⟩
    rw [e3] at hda
    have hda' : aDA key A = 1 := hda
    exact hq S' _ m' 1 h' hA' (by rw [hda']) (Or.inr rfl)
theorem pgF_no {P : Nat → List Nat} : ∀ (k p : Nat) (a : Int32), (∀ q, p ≤ q → q < p + k → n ∉ P q) → pgF P n p k a = a
  | 0, p, a, _ => rfl
  | k + 1, p, a, h => by
    rw [pgF]
    have e : ∀ (xs : List Nat) (a : Int32), n ∉ xs → xs.foldl (fun a x => if x = n then nI p else a) a = a := by
      intro xs
      induction xs with
      | nil => intro a _; rfl
      | cons y ys ih =>
        intro a hn
        rw [List.foldl_cons, if_neg (fun r => hn (by rw [r]; simp))]
        exact ih a (fun r => hn (List.mem_cons_of_mem _ r))
    rw [e _ _ (h p (Nat.le_refl _) (by omega))]
    exact pgF_no k (p + 1) a (fun q hq hq' => h q (by omega) (by omega))
theorem pgF_in {P : Nat → List Nat} {q : Nat} : ∀ (k p : Nat) (a : Int32), p ≤ q → q < p + k → n ∈ P q → (∀ r, p ≤ r → r < p + k → r ≠ q → n ∉ P r) → pgF P n p k a = nI q
  | 0, p, a, h1, h2, _, _ => by omega
  | k + 1, p, a, h1, h2, h3, h4 => by
    rw [pgF]
    by_cases e : p = q
    · subst e
      have e2 : ∀ (xs : List Nat) (a : Int32), n ∈ xs → xs.foldl (fun a x => if x = n then nI p else a) a = nI p := by
        have e3 : ∀ (xs : List Nat), xs.foldl (fun a x => if x = n then nI p else a) (nI p) = nI p := by
          intro xs
          induction xs with
          | nil => rfl
          | cons y ys ih => rw [List.foldl_cons]; split <;> exact ih
        intro xs
        induction xs with
        | nil => intro a hn; cases hn
        | cons y ys ih =>
          intro a hn
          rw [List.foldl_cons]
          by_cases r : y = n
          · rw [if_pos r]
            exact e3 ys
          · rw [if_neg r]
            rcases List.mem_cons.mp hn with t | t
            · exact absurd t.symm r
            · exact ih a t
      rw [e2 _ _ h3]
      exact pgF_no k (p + 1) _ (fun r hr hr' => h4 r (by omega) (by omega) (by omega))
    · exact pgF_in k (p + 1) _ (by omega) (by omega) h3 (fun r hr hr' hne => h4 r (by omega) (by omega) hne)
theorem RA.pgo (hA : RA S A ix pn) (hx : x ∈ ix) : pgF S.P x 64 33 (-1) = nI (pl A.w (pn x)) := by
  have hp := (hA.2.2.2.2.2.2.1 x hx).1
  have hl := pl_lt (w := A.w) (p := pn x)
  exact pgF_in 33 64 (-1) hl.1 (by omega) hp (fun r hr hr' hne t => hA.1.2 r _ (by omega) (by omega) hne x t hp)
theorem RA.mky (hA : RA S A ix pn) (hky : (A.Y.map Ent.k).Nodup) (hx : x ∈ ix) (hk : S.k x = key) : RA (S.sgt (up S.gt x 1)) (mA A.Z (mk1 key A.Y) A.w A.c A.t) ix pn := by
  have hkn := hA.ixk hky
  obtain ⟨h1, h2, h3, h4, h5, h6, h7, h8, h9, h10, h11⟩ := hA
  have eZ' : eZ (S.sgt (up S.gt x 1)) = eZ S := eZ_of RS.l_sgt RS.v_sgt RS.k_sgt RS.mk_sgt
  have eL' : eL (S.sgt (up S.gt x 1)) = eL S := eL_of RS.l_sgt RS.v_sgt RS.k_sgt
  have evl : vlS (S.sgt (up S.gt x 1)) = vlS S := vlS_of RS.l_sgt RS.v_sgt
  refine ⟨by rw [RS.P_sgt]; exact h1, fun s hs => by rw [eZ', RS.P_sgt]; exact h2 s hs, fun p hp hp' => by rw [eL', RS.P_sgt]; exact h3 p hp hp', ?_, fun n => ?_, by rw [RS.cm_sgt]; exact h6, fun n hn => by rw [RS.P_sgt, RS.cm_sgt, RS.t_sgt]; exact h7 n hn, by rw [RS.w_sgt]; exact h8, by rw [RS.t_sgt]; exact h9, by rw [RS.c_sgt]; exact h10, by rw [RS.c_sgt]; exact h11⟩
  · rw [mA_Y, h4]
    unfold mk1
    rw [List.map_map]
    apply List.map_congr_left
    intro n hn
    show (if (eY S pn n).k = key then _ else _) = _
    rw [eY_k]
    by_cases q : n = x
    · subst q
      rw [if_pos hk]
      unfold eY
      rw [RS.k_sgt, evl, RS.gt_sgt, up_same]
      rfl
    · have : ¬ S.k n = key := fun r => q (nd_inj hkn n hn x hx (r.trans hk.symm))
      rw [if_neg this]
      unfold eY
      rw [RS.k_sgt, evl, RS.gt_sgt, upN q]
  · have : lgs (S.sgt (up S.gt x 1)) = lgs S := by
      unfold lgs
      rw [RS.P_sgt]
    rw [this, RS.nw_sgt]
    exact h5 n
theorem RA.mkz (hA : RA S A ix pn) (hn : ((A.Z (sN key)).map Ent.k).Nodup) (hz : z ∈ S.P (sN key)) (hk : S.k z = key) : RA (S.smk (up S.mk z 1)) (mA (up A.Z (sN key) (mk1 key (A.Z (sN key)))) A.Y A.w A.c A.t) ix pn := by
  have hs := sN_lt key
  have hkn := hA.kn hs hn
  obtain ⟨h1, h2, h3, h4, h5, h6, h7, h8, h9, h10, h11⟩ := hA
  have eL' : eL (S.smk (up S.mk z 1)) = eL S := eL_of RS.l_smk RS.v_smk RS.k_smk
  have eY' : eY (S.smk (up S.mk z 1)) pn = eY S pn := eY_of RS.l_smk RS.v_smk RS.k_smk RS.gt_smk
  have evl : vlS (S.smk (up S.mk z 1)) = vlS S := vlS_of RS.l_smk RS.v_smk
  refine ⟨by rw [RS.P_smk]; exact h1, fun s hs' => ?_, fun p hp hp' => ?_, by rw [eY']; exact h4, fun n => ?_, by rw [RS.cm_smk]; exact h6, fun n hn => by rw [RS.P_smk, RS.cm_smk, RS.t_smk]; exact h7 n hn, by rw [RS.w_smk]; exact h8, by rw [RS.t_smk]; exact h9, by rw [RS.c_smk]; exact h10, by rw [RS.c_smk]; exact h11⟩
  · rw [mA_Z, RS.P_smk]
    by_cases e : s = sN key
    · rw [e, up_same, h2 _ hs]
      unfold mk1
      rw [List.map_map]
      apply List.map_congr_left
      intro n hn'
      show (if (eZ S n).k = key then _ else _) = _
      rw [eZ_k]
      by_cases q : n = z
      · subst q
        rw [if_pos hk]
        unfold eZ
        rw [RS.k_smk, evl, RS.mk_smk, up_same]
        rfl
      · have : ¬ S.k n = key := fun r => q (nd_inj hkn n hn' z hz (r.trans hk.symm))
        rw [if_neg this]
        unfold eZ
        rw [RS.k_smk, evl, RS.mk_smk, upN q]
    · rw [upN e, h2 s hs']
      apply List.map_congr_left
      intro n hn'
      have q : n ≠ z := fun r => h1.2 s (sN key) (by omega) (by omega) e n hn' (r ▸ hz)
      unfold eZ
      rw [RS.k_smk, evl, RS.mk_smk, upN q]
  · rw [mA_Z, eL', RS.P_smk, upN (by omega)]
    exact h3 p hp hp'
  · have : lgs (S.smk (up S.mk z 1)) = lgs S := by
      unfold lgs
      rw [RS.P_smk]
    rw [this, RS.nw_smk]
    exact h5 n
end L3O
