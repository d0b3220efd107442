/-! the class empties a segment: the whole -/
section L2D
variable {l : Launch} {G : xG} {K ar : Nat → Nat} {m0 m m' : XM} {Q : XR → XM → Prop} {pg : Nat → Nat} {Z : Nat → List Nat} {Y Y' xs ys g : List Nat} {w j a s e : Nat} {c fg fp : Nat → Int32} {key : Int64} {A : AS}
theorem mA_Z {Z : Nat → List Ent} {Y : List Ent} {c : Nat → Int32} {t : Nat} : (mA Z Y w c t).Z = Z := rfl
theorem mA_Y {Z : Nat → List Ent} {Y : List Ent} {c : Nat → Int32} {t : Nat} : (mA Z Y w c t).Y = Y := rfl
theorem mA_w {Z : Nat → List Ent} {Y : List Ent} {c : Nat → Int32} {t : Nat} : (mA Z Y w c t).w = w := rfl
theorem mA_c {Z : Nat → List Ent} {Y : List Ent} {c : Nat → Int32} {t : Nat} : (mA Z Y w c t).c = c := rfl
theorem Bs_Z : (Bs A s).Z = (swp A.Y (A.w - 28) (A.Z, A.c) s).1 := rfl
theorem Bs_Y : (Bs A s).Y = yF A s := rfl
theorem Bs_w : (Bs A s).w = A.w := rfl
theorem Bs_c : (Bs A s).c = (swp A.Y (A.w - 28) (A.Z, A.c) s).2 := rfl
/-- an old value goes out of its set's page -/
theorem CR.rm {k : Nat} {B : AS} (h : CR K ar m0 pg Z Y c fg fp A m) (h2 : CS K ar m0 pg (rmZ m0 key Z) Y A.w (rmC m0 key k Z c) fg fp m') (hZ : B.Z = aRmZ key A.Z) (hY : B.Y = A.Y) (hw : B.w = A.w) (hc : B.c = aRmC key k A.Z A.c) : CR K ar m0 pg (rmZ m0 key Z) Y (rmC m0 key k Z c) fg fp B m' := by
  obtain ⟨h1, g2, h3, h4, h5, h6, h7⟩ := h
  have hs := sN_lt key
  have hit := h1.itZ (j := sN key) (by omega)
  have hsub : ∀ s a, a ∈ rmZ m0 key Z s → a ∈ Z s := by
    intro s a ha
    unfold rmZ at ha
    split at ha
    · exact ha
    · unfold up at ha
      split at ha
      · rename_i q
        rw [q]
        exact era_sub a ha
      · exact ha
  refine ⟨by rw [hw]; exact h2, ?_, fun s hs' => ?_, fun p hp hp' => ?_, by rw [hY]; exact h5, fun s hs' a ha => h6 s hs' a (hsub s a ha), h7⟩
  · have : rmC m0 key k Z c = aRmC key k A.Z c := by
      unfold rmC aRmC
      rw [h3 _ hs, ← bors_map (T := tS m0 fg) (fun _ => rfl) hit, ← has_map (T := tS m0 fg) (fun _ => rfl)]
      rfl
    rw [this, hc]
    exact ag_aRmC g2
  · rw [hZ, rmZ_map hit s]
    exact aRmZ_congr (h3 _ hs) (h3 s hs')
  · rw [hZ, aRmZ_ne (by omega), h4 p hp hp']
    have : rmZ m0 key Z p = Z p := by
      unfold rmZ
      split
      · rfl
      · unfold up
        rw [if_neg (by omega)]
    rw [this]
/-- gathered ones come into their set's page -/
theorem CR.mv {B : AS} (h : CR K ar m0 pg Z Y c fg fp A m) (hs : s < 64) (hAs : ∀ s', s' < 64 → ∀ e ∈ A.Z s', sN e.k = s') (hg : ∀ a ∈ g, sN (m0.2.2.1 a 0) = s) (hYn : ∀ a ∈ Y, sN (m0.2.2.1 a 0) ≠ s) (h2 : CS K ar m0 pg (up Z s (mvP m0 fg (Z s) g)) Y A.w (mvC m0 fg (Z s) g c) (fun b => if b ∈ mvP m0 fg (Z s) g then 0 else fg b) fp m') (hZ : B.Z = up A.Z s (aMP (A.Z s) (g.map (tY m0 fg fp)))) (hY : B.Y = A.Y) (hw : B.w = A.w) (hc : B.c = aMC (A.Z s) (g.map (tY m0 fg fp)) A.c) :
    CR K ar m0 pg (up Z s (mvP m0 fg (Z s) g)) Y (mvC m0 fg (Z s) g c) (fun b => if b ∈ mvP m0 fg (Z s) g then 0 else fg b) fp B m' := by
  obtain ⟨h1, g2, h3, h4, h5, h6, h7⟩ := h
  have hzs : ∀ s', s' < 64 → ∀ a ∈ Z s', sN (m0.2.2.1 a 0) = s' := fun s' hs' a ha => hAs s' hs' (tS m0 fg a) (by rw [h3 s' hs']; exact List.mem_map_of_mem ha)
  have hps : ∀ a ∈ mvP m0 fg (Z s) g, sN (m0.2.2.1 a 0) = s := by
    intro a ha
    rcases mvP_sub ha with q | q
    · exact hzs s hs a q
    · exact hg a q
  refine ⟨by rw [hw]; exact h2, ?_, fun s' hs' => ?_, fun p hp hp' => ?_, ?_, fun s' hs' a ha hy => ?_, h7⟩
  · rw [hc, mvC_map (fp := fp), ← h3 s hs]
    exact ag_aMC g2
  · rw [hZ]
    by_cases q : s' = s
    · subst q
      rw [up_same, up_same, h3 s' hs, ← mvP_map]
      apply List.map_congr_left
      intro a ha
      simp only [tS, tL, if_pos ha]
    · show up A.Z s _ s' = (up Z s _ s').map _
      unfold up
      rw [if_neg q, if_neg q, h3 s' hs']
      apply List.map_congr_left
      intro a ha
      simp only [tS, if_neg (fun r => q ((hzs s' hs' a ha).symm.trans (hps a r)))]
  · rw [hZ]
    show up A.Z s _ p = (up Z s _ p).map _
    unfold up
    rw [if_neg (by omega), if_neg (by omega)]
    exact h4 p hp hp'
  · rw [hY, h5]
    apply List.map_congr_left
    intro a ha
    simp only [tY, if_neg (fun r => hYn a ha (hps a r))]
  · unfold up at ha
    split at ha
    · exact hYn a hy (hps a ha)
    · exact h6 s' hs' a ha hy
/-- one set's are taken out -/
theorem CR.take5 (h : CR K ar m0 pg Z Y c fg fp A m) (hsub : ∀ a ∈ Y', a ∈ Y) (h2 : CS K ar m0 pg Z Y' A.w c fg fp m') : CR K ar m0 pg Z Y' c fg fp (mA A.Z (Y'.map (tY m0 fg fp)) A.w A.c A.t) m' :=
  ⟨h2, h.2.1, h.2.2.1, h.2.2.2.1, rfl, fun s hs a ha hy => h.2.2.2.2.2.1 s hs a ha (hsub a hy), fun a ha => h.2.2.2.2.2.2 a (hsub a ha)⟩
theorem CR.cnt8 {B : AS} {k : Nat} {v : Int32} (h : CR K ar m0 pg Z Y c fg fp A m) (h2 : CS K ar m0 pg Z Y A.w (cA c k v) fg fp m') (hZ : B.Z = A.Z) (hY : B.Y = A.Y) (hw : B.w = A.w) (hc : B.c = cA A.c k v) : CR K ar m0 pg Z Y (cA c k v) fg fp B m' :=
  ⟨by rw [hw]; exact h2, by rw [hc]; exact h.2.1.add, by rw [hZ]; exact h.2.2.1, by rw [hZ]; exact h.2.2.2.1, by rw [hY]; exact h.2.2.2.2.1, h.2.2.2.2.2.1, h.2.2.2.2.2.2⟩
theorem CR.gm (h : CR K ar m0 pg Z Y c fg fp A m) (hs : s < 64) : (Y.filter (fun a => m.2.1 a 2 == nI s)).map (tY m0 fg fp) = gS A.Y s := by
  unfold gS
  have : Y.filter (fun a => m.2.1 a 2 == nI s) = Y.filter (fun a => sN (tY m0 fg fp a).k == s) := List.filter_congr (fun a ha => h.set hs ha)
  rw [h.2.2.2.2.1, List.filter_map, Function.comp_def, this]
theorem CR.ym (h : CR K ar m0 pg Z Y c fg fp A m) (hs : s < 64) : (Y.filter (fun a => !(m.2.1 a 2 == nI s))).map (tY m0 fg fp) = A.Y.filter (fun x => !(sN x.k == s)) := by
  have : Y.filter (fun a => !(m.2.1 a 2 == nI s)) = Y.filter (fun a => !(sN (tY m0 fg fp a).k == s)) := List.filter_congr (fun a ha => congrArg not (h.set hs ha))
  rw [h.2.2.2.2.1, List.filter_map, Function.comp_def, this]
theorem CR.gy (h : CR K ar m0 pg Z Y c fg fp A m) (hs : s < 64) (ha : a ∈ Y.filter (fun a => m.2.1 a 2 == nI s)) : a ∈ Y ∧ sN (m0.2.2.1 a 0) = s := by
  obtain ⟨q1, q2⟩ := List.mem_filter.mp ha
  rw [h.set hs q1, tY_k] at q2
  exact ⟨q1, eq_of_beq q2⟩
theorem CR.ny (h : CR K ar m0 pg Z Y c fg fp A m) (hs : s < 64) (ha : a ∈ Y.filter (fun a => !(m.2.1 a 2 == nI s))) : a ∈ Y ∧ sN (m0.2.2.1 a 0) ≠ s := by
  obtain ⟨q1, q2⟩ := List.mem_filter.mp ha
  rw [h.set hs q1, tY_k] at q2
  refine ⟨q1, fun r => ?_⟩
  rw [r] at q2
  simp at q2
theorem c_emptySegment (hst : l.stackTraces = false) (h : CR K ar m pg Z Y c fg fp A m) (hA : AI A) (hE : isE A)
    (hq : ∀ (m' : XM) (Z' : Nat → List Nat) (Y' : List Nat) (c' fg' : Nat → Int32) (an : List Nat), Cf K m m' → CR K ar m' pg Z' Y' c' fg' fp (emp A) m' → an.map (tL m') = (anw A).map e0 → (∀ a ∈ an, Itm m' a ∧ a ∉ Y' ∧ ∀ s, s < 64 → a ∉ Z' s) → (∀ i, i < an.length → gR m' (K 6) i = an[i]?) → (∀ a ∈ an, a ∈ Y) → (∀ a, a ∉ Y → (∀ s, s < 64 → a ∉ Z s) → a ∉ Y' ∧ ∀ s, s < 64 → a ∉ Z' s) → Q (.inl (some (vI (nI an.length)))) m') : CC l G xC_emptySegment [vR (some (K 0))] m Q := by
  have hP := h.1.1.1
  have hw29 : A.w < 2 ^ 29 := hP.2.2.2.2.2.2.2.2.2.2.2.2.2.2.2.2.2.2.1
  have hpb : ∀ x ∈ A.Y, x.p < 2 ^ 30 := fun x hx => by have := (hA.iy x hx).2.1; omega
  have hY := h.2.2.2.2.1
  have hix := h.1.1.2.2.1
  have hK6 : m.1 (K 6) = some (aR 3 32) := hP.2.2.2.2.2.2.2.2.2.2.2.2.1
  have hn69 : K 6 ≠ K 9 := fun q => by
    have := hK6.symm.trans (q ▸ hix.2.2.1)
    cases this
  have hfil : (Y.filter (tk m (nI (A.w - 28)) Y)).map (tY m fg fp) = anw A := by
    unfold anw
    rw [hY, List.filter_map]
    congr 1
    apply List.filter_congr
    intro a ha
    rw [h.atK hpb (by omega) ha, hY]
    simp only [Function.comp]
  have hfil0 : (Y.filter (fun a => !tk m (nI (A.w - 28)) Y a)).map (tY m fg fp) = yF A 0 := by
    unfold yF
    rw [hY, List.filter_map]
    congr 1
    apply List.filter_congr
    intro a ha
    rw [h.atK hpb (by omega) ha, hY]
    simp
  have hanl : (Y.filter (tk m (nI (A.w - 28)) Y)).length ≤ 32 := by
    have := anw_len hA hE
    rw [← hfil, List.length_map] at this
    exact this
  refine bC_emptySegment hst ⟨hP.1, K 3, hP.2.2.2.2.2.1, hP.2.2.2.2.2.2.1, c_oldestEnd hst hP.2.2.2.2.2.2.1 hP.2.2.2.2.2.2.2.2.2.2.2.2.2.2.2.2.2.1 hE.1 ⟨hP.1, K 3, hP.2.2.2.2.2.1, hP.2.2.2.2.2.2.1, K 8, hP.2.2.2.2.2.2.2.2.2.2.2.2.2.2.2.1, hix.1, ?_⟩⟩
  rw [show gR m (K 0) 5 = some (K 6) from hP.2.2.2.2.2.2.2.2.2.2.2.1]
  refine c_takeGotAlone hst hix hK6 (by omega) hn69 hanl (fun m14 f14 hx14 ha14 => ?_)
  obtain ⟨hcf, h14⟩ := h.take6 (fun a ha => List.filter_sublist.subset ha) f14 hx14
  generalize hY1 : Y.filter (fun a => !tk m (nI (A.w - 28)) Y a) = Y1 at *
  generalize han : Y.filter (tk m (nI (A.w - 28)) Y) = an at *
  have hanY : ∀ a ∈ an, a ∈ Y := fun a ha => by rw [← han] at ha; exact List.filter_sublist.subset ha
  have hanY1 : ∀ a ∈ an, a ∉ Y1 := fun a ha hy => by
    rw [← han] at ha
    rw [← hY1] at hy
    have h1 := (List.mem_filter.mp ha).2
    have h2 := (List.mem_filter.mp hy).2
    rw [h1] at h2
    cases h2
  have hB0 : mA A.Z (Y1.map (tY m fg fp)) A.w A.c A.t = Bs A 0 := by rw [hfil0]; rfl
  rw [hB0] at h14
  have hP14 := h14.1.1.1
  have hix14 := h14.1.1.2.2.1
  refine ⟨hP14.1, K 3, hP14.2.2.2.2.2.1, hP14.2.2.2.2.2.2.1, K 8, hP14.2.2.2.2.2.2.2.2.2.2.2.2.2.2.2.1, hix14.1, c_setsBefore hst hix14 ?_⟩
  have hpb0 : ∀ x ∈ (Bs A 0).Y, x.p < 2 ^ 30 := fun x hx => hpb x (List.filter_sublist.subset hx)
  have hbit : ∀ s, s < 64 → ((jushr (sbs m14 (nI (A.w - 28)) Y1) (nI s) &&& (1 : Int64)) = 0 ↔ due (yF A 0) (A.w - 28) s = false) := fun s hs => by
    rw [bit_iff hs, h14.sb hpb0 (by omega) hs]
    rfl
  generalize sbs m14 (nI (A.w - 28)) Y1 = tch at *
  have hkz : ∀ n s, s < 64 → ∀ e ∈ (Bs A n).Z s, sN e.k = s := fun n s hs => (swp_PZ (e := A.w - 28) (zc := (A.Z, A.c)) hA.ky hA.ly (fun s hs => hA.pz hs) n s hs).2.1
  have loop : ∀ n s, s + n = 64 → ∀ Zc Yc cc fgc mm, CR K ar m14 pg Zc Yc cc fgc fp (Bs A s) mm → (∀ a, (a ∈ an ∨ (a ∉ Y ∧ ∀ s, s < 64 → a ∉ Z s)) → a ∉ Yc ∧ ∀ s, s < 64 → a ∉ Zc s) →
      WW l G xC_emptySegment 39 [some (vR (some (K 0))), some (vI (nI (A.w - 28))), some (vI (nI an.length)), some (vL tch), none, some (vI (nI s)), none] [] mm 0 0 Q := by
    intro n
    induction n with
    | zero =>
      intro s hs Zc Yc cc fgc mm hc hav
      have : s = 64 := by omega
      subst this
      rw [Bs_end] at hc
      refine bC_emptySegment_39 ⟨fun _ => ?_, fun hh => absurd (nI_le (a := 64) (Nat.le_refl _) (by omega)) hh⟩
      have hcf2 := hcf.tr hc.1.2.2.2.cf
      refine hq mm Zc Yc cc fgc an hcf2 hc.rebase ?_ (fun a ha => ⟨hcf2.it (h.1.itY a (hanY a ha)), hav a (Or.inl ha)⟩) (fun i hi => ?_) hanY (fun a q1 q2 => hav a (Or.inr ⟨q1, q2⟩))
      · rw [← hfil, tY_e0]
        apply List.map_congr_left
        intro a ha
        obtain ⟨e1, e2⟩ := hcf2.vl (h.1.itY a (hanY a ha))
        unfold tL
        rw [e1, e2]
      · have : mm.2.2.2 (K 6) = m14.2.2.2 (K 6) := hc.1.2.2.2.2.2.2.2.2
        show mm.2.2.2 (K 6) i = _
        rw [this]
        exact ha14 i hi
    | succ n ih =>
      intro s hs Zc Yc cc fgc mm hc hav
      have hs64 : s < 64 := by omega
      have hPc := hc.1.1.1
      have hixc := hc.1.1.2.2.1
      refine bC_emptySegment_39 ⟨fun hh => absurd hh (nI_ge (b := 64) hs64 (by omega)), fun _ => ⟨fun hne => ?_, fun heq => ?_⟩⟩
      · have ht : due (yF A 0) (A.w - 28) s = true := by
          cases q : due (yF A 0) (A.w - 28) s with
          | true => rfl
          | false => exact absurd (lgc0.mpr ((hbit s hs64).mpr q)) hne
        obtain ⟨t1, t2, t3, t4⟩ := touch1 ht
        refine ⟨hPc.1, K 3, hPc.2.2.2.2.2.1, hPc.2.2.2.2.2.2.1, K 8, hPc.2.2.2.2.2.2.2.2.2.2.2.2.2.2.2.1, hixc.1, ?_⟩
        rw [show gR mm (K 0) 4 = some (K 5) from hPc.2.2.2.2.2.2.2.2.2.1]
        have hK5 : mm.1 (K 5) = some (aR 3 264) := hPc.2.2.2.2.2.2.2.2.2.2.1
        refine c_takeSet hst hixc hs64 hK5 (by omega) hc.1.1.2.2.2.1.2.2 (Nat.le_trans (List.length_filter_le _ _) hixc.2.2.2.2.2.2.1) (fun m8 f8 hx8 ha8 => ?_)
        have h8 := hc.1.index f8 hx8
        have hc8 := hc.take5 (fun a ha => List.filter_sublist.subset ha) h8
        have hgm : (Yc.filter (fun a => mm.2.1 a 2 == nI s)).map (tY m14 fgc fp) = gS A.Y s := (hc.gm hs64).trans (by rw [Bs_Y]; exact t1)
        have hym : (Yc.filter (fun a => !(mm.2.1 a 2 == nI s))).map (tY m14 fgc fp) = yF A (s + 1) := (hc.ym hs64).trans (by rw [Bs_Y]; exact t4.symm)
        rw [hym] at hc8
        have hgY : ∀ a ∈ Yc.filter (fun a => mm.2.1 a 2 == nI s), a ∈ Yc ∧ sN (m14.2.2.1 a 0) = s := fun a ha => hc.gy hs64 ha
        have hnY : ∀ a ∈ Yc.filter (fun a => !(mm.2.1 a 2 == nI s)), a ∈ Yc ∧ sN (m14.2.2.1 a 0) ≠ s := fun a ha => hc.ny hs64 ha
        have hP8 := hc8.1.1.1
        generalize hg : Yc.filter (fun a => mm.2.1 a 2 == nI s) = g at *
        generalize hy2 : Yc.filter (fun a => !(mm.2.1 a 2 == nI s)) = Y2 at *
        have hgl : g.length ≤ 264 := by
          rw [← hg]
          exact Nat.le_trans (List.length_filter_le _ _) hixc.2.2.2.2.2.2.1
        have hswp : swp A.Y (A.w - 28) (A.Z, A.c) (s + 1) = stp A.Y (A.w - 28) s (swp A.Y (A.w - 28) (A.Z, A.c) s) := rfl
        refine ⟨fun hn1 => ⟨hP8.1, K 2, hP8.2.2.2.1, 64, hP8.2.2.2.2.1, vp_in_nI hs64 (by omega), ?_⟩, fun h1 => ?_⟩
        · rw [nI_clamp (by omega), show gR m8 (K 2) s = some (pg s) from hP8.2.2.2.2.2.2.2.2.2.2.2.2.2.2.2.2.2.2.2.1 s hs64]
          have hln : (gS A.Y s).length ≠ 1 := fun q => hn1 (by rw [← hgm, List.length_map] at q; rw [q]; rfl)
          have hstp := stp_move (zc := swp A.Y (A.w - 28) (A.Z, A.c) s) t2 hln
          refine c_moveGathered hst hc8.1 hs64 hgl (fun a ha => hc.1.itY a (hgY a ha).1) ha8 (fun m16 h16 => ?_)
          have hc16 := hc8.mv (B := Bs A (s + 1)) hs64 (by rw [mA_Z]; exact hkz s) (fun a ha => (hgY a ha).2) (fun a ha => (hnY a ha).2) h16 (by rw [Bs_Z, hswp, hstp, hgm, mA_Z, Bs_Z]) (by rw [Bs_Y, mA_Y]) (by rw [Bs_w, mA_w, Bs_w]) (by rw [Bs_c, hswp, hstp, hgm, mA_Z, mA_c, Bs_Z, Bs_c])
          show WW _ _ _ _ _ _ _ _ _ _
          rw [nI_1]
          refine ih (s + 1) (by omega) _ _ _ _ _ hc16 (fun a ha => ⟨fun q => (hav a ha).1 (hnY a q).1, fun s' hs' q => ?_⟩)
          unfold up at q
          split at q
          · rcases mvP_sub q with r | r
            · exact (hav a ha).2 s hs64 r
            · exact (hav a ha).1 (hgY a r).1
          · exact (hav a ha).2 s' hs' q
        · have hl1 : g.length = 1 := (nI_eq (b := 1) (by omega) (by omega)).mp h1
          obtain ⟨z, hz⟩ := List.length_eq_one_iff.mp hl1
          subst hz
          have hzm : z ∈ Yc := (hgY z (by simp)).1
          have hzi := hc.1.itY z hzm
          have hgx : gS A.Y s = [tY m14 fgc fp z] := hgm.symm
          have hg0 : (tY m14 fgc fp z).g = 0 := t3 (by rw [hgx]; rfl) _ (by rw [hgx]; simp)
          have hstp := stp_alone (zc := swp A.Y (A.w - 28) (A.Z, A.c) s) t2 hgx hg0
          refine ⟨hP8.1, K 4, hP8.2.2.2.2.2.2.2.1, 11, hP8.2.2.2.2.2.2.2.2.1, vp_in_nI (n := 8) (by omega) (by omega), vp_in_nI (n := 8) (by omega) (by omega), ?_⟩
          intro m24 hm24
          rw [show gI m8 (K 4) (8 : Int32).toNatClampNeg = cc 8 from hc8.1.2.1 8] at hm24
          have h24 : CS K ar m14 pg Zc Y2 A.w (cA cc 8 1) fgc fp m24 := by
            rw [hm24]
            exact hc8.1.count 8 (cc 8 + 1)
          have hc24 := hc8.cnt8 (B := mA (Bs A s).Z (yF A (s + 1)) A.w (cA (Bs A s).c 8 1) A.t) h24 (by rw [mA_Z, mA_Z]) (by rw [mA_Y, mA_Y]) (by rw [mA_w, mA_w, Bs_w]) (by rw [mA_c, mA_c])
          have hz8 : gR m8 (K 5) (0 : Int32).toNatClampNeg = some z := ha8 0 (by simp)
          have hzi8 : Itm m8 z := hc8.1.it hzi
          refine ⟨K 5, hP8.2.2.2.2.2.2.2.2.2.1, 264, hP8.2.2.2.2.2.2.2.2.2.2.1, vp_in_nI (n := 0) (by omega) (by omega), z, hz8, hzi8.1, ?_⟩
          rw [show gL m8 z 0 = m14.2.2.1 z 0 from hc8.1.key hzi.1 0]
          refine c_removeFromSet (k := 2) hst hc24.1 (by omega) (fun m33 h33 => ?_)
          have hc33 := hc24.rm (B := Bs A (s + 1)) h33 (by rw [Bs_Z, hswp, hstp, mA_Z, Bs_Z, tY_k]) (by rw [Bs_Y, mA_Y]) (by rw [Bs_w, mA_w]) (by rw [Bs_c, hswp, hstp, mA_Z, mA_c, Bs_Z, Bs_c, tY_k])
          show WW _ _ _ _ _ _ _ _ _ _
          rw [nI_1]
          refine ih (s + 1) (by omega) _ _ _ _ _ hc33 (fun a ha => ⟨fun q => (hav a ha).1 (hnY a q).1, fun s' hs' q => (hav a ha).2 s' hs' ?_⟩)
          unfold rmZ at q
          split at q
          · exact q
          · unfold up at q
            split at q
            · rename_i r
              rw [r]
              exact era_sub a q
            · exact q
      · have ht : due (yF A 0) (A.w - 28) s = false := (hbit s hs64).mp (lgc0.mp heq)
        obtain ⟨t1, t2⟩ := touch0 (zc := swp A.Y (A.w - 28) (A.Z, A.c) s) ht
        have hBs : Bs A (s + 1) = Bs A s := by
          unfold Bs
          rw [t1, show swp A.Y (A.w - 28) (A.Z, A.c) (s + 1) = swp A.Y (A.w - 28) (A.Z, A.c) s from t2]
        rw [nI_1]
        exact ih (s + 1) (by omega) _ _ _ _ _ (by rw [hBs]; exact hc) hav
  refine loop 64 0 rfl Z Y1 c fg m14 h14 (fun a ha => ?_)
  rcases ha with ha | ⟨ha, hz⟩
  · exact ⟨hanY1 a ha, fun s hs q => h.2.2.2.2.2.1 s hs a q (hanY a ha)⟩
  · exact ⟨fun q => ha (by rw [← hY1] at q; exact List.filter_sublist.subset q), hz⟩
end L2D
