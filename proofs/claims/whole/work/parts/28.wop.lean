/-! a page is written and all that belongs to it -/
section L2G
variable {l : Launch} {G : xG} {K ar : Nat → Nat} {m0 m m' : XM} {Q : XR → XM → Prop} {pg : Nat → Nat} {Z : Nat → List Nat} {Y Y' xs ys g : List Nat} {w j a s e : Nat} {c fg fp : Nat → Int32} {key : Int64} {A : AS}
theorem ent_e0 {x y : Ent} (h : e0 x = e0 y) : ent x A = ent y A := by
  have hk : (e0 x).k = (e0 y).k := by rw [h]
  have hk : x.k = y.k := hk
  have hv : (e0 x).v = (e0 y).v := by rw [h]
  have hv : x.v = y.v := hv
  unfold ent
  rw [h, hk, hv]
theorem ew_e0 {x y : Ent} (h : e0 x = e0 y) : ew x = ew y := by
  have hv : (e0 x).v = (e0 y).v := by rw [h]
  have hv : x.v = y.v := hv
  unfold ew
  rw [hv]
/-- those put anew, one behind the other -/
theorem c_wopLoop {E : List Ent} {an : List Nat} {w0 : Nat} (hst : l.stackTraces = false) (hE4 : w0 % 4 = 0) (hw0 : w0 + 5 < 2 ^ 29) (hso : E.Pairwise (fun a b => a.p ≤ b.p)) (hpE : ∀ x ∈ E, w0 ≤ x.p + 32 ∧ x.p + 32 < w0 + 4) (hlE : ∀ x ∈ E, 1 ≤ x.v.length ∧ x.v.length ≤ 8) (hsE : ∀ n, eS (E.filter (fun y => y.p == n)) ≤ 32)
    (hanE : an.map (tL m0) = E.map e0) (hani : ∀ a ∈ an, Itm m0 a) (hanl : an.length ≤ 32) (ha6 : ∀ i, i < an.length → m0.2.2.2 (K 6) i = an[i]?) (X : Nat → Prop) (hX : ∀ a ∈ an, ¬ X a)
    (hq : ∀ (m' : XM) (pg' : Nat → Nat) (Z' : Nat → List Nat) (Y' : List Nat) (c' fg' fp' : Nat → Int32) (B : AS), B = E.foldl anx A → CR K ar m0 pg' Z' Y' c' fg' fp' (mA B.Z B.Y B.w (cA B.c 10 (nI an.length)) B.t) m' → (∀ a, X a → a ∉ Y' ∧ ∀ s, s < 64 → a ∉ Z' s) → Q (.inl none) m') :
    ∀ (Er Ed : List Ent) (zr zd : List Nat) (pgc : Nat → Nat) (Zc : Nat → List Nat) (Yc : List Nat) (cc fgc fpc : Nat → Int32) (mm : XM), Ed ++ Er = E → zd ++ zr = an → zd.length = Ed.length → CR K ar m0 pgc Zc Yc cc fgc fpc (Ed.foldl anx A) mm → BJ w0 Ed (Ed.foldl anx A) → (∀ a ∈ an, ∀ s, s < 64 → a ∉ Zc s) → (∀ a, X a → a ∉ Yc ∧ ∀ s, s < 64 → a ∉ Zc s) →
      WW l G xC_writeOpenPage 28 [some (vR (some (K 0))), some (vI (nI an.length)), some (vI (nI zd.length))] [] mm 0 0 Q := by
  intro Er
  induction Er with
  | nil =>
    intro Ed zr zd pgc Zc Yc cc fgc fpc mm e1 e2 hlen hc hJ hav hXc
    have hll : an.length = E.length := by
      have := congrArg List.length hanE
      simpa using this
    have hzr : zr = [] := by
      rw [List.append_nil] at e1
      have : (zd ++ zr).length = an.length := by rw [e2]
      rw [List.length_append, hlen, e1, hll] at this
      exact List.length_eq_zero_iff.mp (by omega)
    rw [List.append_nil] at e1
    rw [hzr, List.append_nil] at e2
    subst e1 e2
    have hP := hc.1.1.1
    refine bC_writeOpenPage_28 ⟨fun _ => ⟨hP.1, K 4, hP.2.2.2.2.2.2.2.1, 11, hP.2.2.2.2.2.2.2.2.1, vp_in_nI (n := 10) (by omega) (by omega), vp_in_nI (n := 10) (by omega) (by omega), ?_⟩, fun hh => absurd (nI_le (Nat.le_refl _) (by omega)) hh⟩
    intro m8 hm8
    rw [show gI mm (K 4) (10 : Int32).toNatClampNeg = cc 10 from hc.1.2.1 10] at hm8
    have h8 : CS K ar m0 pgc Zc Yc (Ed.foldl anx A).w (cA cc 10 (nI zd.length)) fgc fpc m8 := by
      rw [hm8]
      exact hc.1.count 10 (cc 10 + nI zd.length)
    exact hq m8 pgc Zc Yc _ fgc fpc _ rfl (hc.cnt8 (B := mA (Ed.foldl anx A).Z (Ed.foldl anx A).Y (Ed.foldl anx A).w (cA (Ed.foldl anx A).c 10 (nI zd.length)) (Ed.foldl anx A).t) h8 mA_Z mA_Y mA_w mA_c) hXc
  | cons x Er ih =>
    intro Ed zr zd pgc Zc Yc cc fgc fpc mm e1 e2 hlen hc hJ hav hXc
    have hll : an.length = E.length := by
      have := congrArg List.length hanE
      simpa using this
    obtain ⟨z, zr, rfl⟩ : ∃ z zs, zr = z :: zs := by
      cases zr with
      | nil =>
        have h1 : (zd ++ []).length = an.length := by rw [e2]
        have h2 : (Ed ++ x :: Er).length = E.length := by rw [e1]
        simp at h1 h2
        omega
      | cons z zs => exact ⟨z, zs, rfl⟩
    have hlt : zd.length < an.length := by rw [← e2]; simp
    have hzm : z ∈ an := by rw [← e2]; simp
    have hxm : x ∈ E := by rw [← e1]; simp
    have hzx : tL m0 z = e0 x := by
      have h1 : (an.map (tL m0))[zd.length]? = some (tL m0 z) := by rw [← e2]; simp
      have h2 : (E.map e0)[zd.length]? = some (e0 x) := by rw [← e1, hlen]; simp
      rw [hanE, h2] at h1
      exact (Option.some.inj h1).symm
    have hzx' : e0 (tL m0 z) = e0 x := by rw [hzx]; rfl
    have hzi := hani z hzm
    have hP := hc.1.1.1
    have hK6 : mm.1 (K 6) = some (aR 3 32) := hP.2.2.2.2.2.2.2.2.2.2.2.2.1
    have h6 : ∀ {m2 : XM}, m2.2.2.2 (K 6) = m0.2.2.2 (K 6) → gR m2 (K 6) (nI zd.length).toNatClampNeg = some z := fun q => by
      rw [nI_clamp (by omega)]
      show _ = _
      rw [show gR _ (K 6) zd.length = m0.2.2.2 (K 6) zd.length from congrFun q _, ha6 _ hlt, ← e2]
      simp
    have hewz : iw m0 z = ew x := by rw [← ew_e0 hzx']; exact ew_iw.symm
    have hE' : (Ed ++ [x]) ++ Er = E := by rw [List.append_assoc]; exact e1
    have hz' : (zd ++ [z]) ++ zr = an := by rw [List.append_assoc]; exact e2
    have hJ' : BJ w0 (Ed ++ [x]) (anx (Ed.foldl anx A) x) := by
      refine anx_J hJ hE4 (fun y hy => ?_) (hpE x hxm) (hlE x hxm) ?_
      · rw [← e1, List.pairwise_append] at hso
        exact hso.2.2 y hy x List.mem_cons_self
      · refine Nat.le_trans (eS_sub (List.Sublist.filter _ ?_)) (hsE x.p)
        rw [← hE']
        exact List.sublist_append_left _ _
    have hfold : (Ed ++ [x]).foldl anx A = anx (Ed.foldl anx A) x := by rw [List.foldl_append]; rfl
    generalize hB : Ed.foldl anx A = B at *
    have hw4 := hJ.2.2.2.1
    -- the append, from a state with room
    have app : ∀ (pg2 : Nat → Nat) (Z2 : Nat → List Nat) (B2 : AS) (m2 : XM), CR K ar m0 pg2 Z2 Yc cc fgc fpc B2 m2 → (∀ a ∈ an, ∀ s, s < 64 → a ∉ Z2 s) → (∀ a, X a → a ∉ Yc ∧ ∀ s, s < 64 → a ∉ Z2 s) → eS (B2.Z 96) + ew x ≤ 32 → ent x B2 = anx B x →
        WW l G xC_writeOpenPage 56 [some (vR (some (K 0))), some (vI (nI an.length)), some (vI (nI zd.length))] [] m2 0 0 Q := by
      intro pg2 Z2 B2 m2 h2 hav2 hX2 hr2 he2
      have hP2 := h2.1.1.1
      refine bC_writeOpenPage_56 ⟨hP2.1, K 6, hP2.2.2.2.2.2.2.2.2.2.2.2.1, 32, hP2.2.2.2.2.2.2.2.2.2.2.2.2.1, vp_in_nI (by omega) (by omega), K 3, hP2.2.2.2.2.2.1, hP2.2.2.2.2.2.2.1, ?_⟩
      rw [h6 h2.1.2.2.2.2.2.2.2.2]
      have hent : ent (tL m0 z) B2 = anx B x := (ent_e0 hzx').trans he2
      refine c_app hst h2 (by rw [hent]; exact hJ'.1) hzi (fun s hs => hav2 z hzm s hs) (by rw [hewz]; exact hr2) (fun m10 h10 => ?_)
      rw [hent] at h10
      have := ih (Ed ++ [x]) zr (zd ++ [z]) pg2 _ _ _ _ _ m10 hE' hz' (by rw [List.length_append, List.length_append, hlen]; rfl) (by rw [hfold]; exact h10) (by rw [hfold]; exact hJ') (fun a ha s hs q => ?_) (fun a ha => ⟨fun q => ?_, fun s hs q => ?_⟩)
      · show WW _ _ _ _ _ _ _ _ _ _
        rw [nI_1]
        rw [List.length_append] at this
        exact this
      · unfold up at q
        rw [if_neg (by omega)] at q
        exact hav2 a ha s hs q
      · rcases List.mem_append.mp q with r | r
        · exact (hX2 a ha).1 (List.filter_sublist.subset r)
        · simp at r
          subst r
          exact hX a hzm ha
      · unfold up at q
        rw [if_neg (by omega)] at q
        exact (hX2 a ha).2 s hs q
    have hpo := hc.1.1.2.1 96 (by omega)
    have hin := hc.1.inZ (j := 96) (by omega)
    have hws : wsum mm (Zc 96) = eS (B.Z 96) := by
      rw [hc.1.ws hin, hc.2.2.2.1 96 (by omega) (by omega), wsum_map (T := tL m0) (fun _ => ew_iw)]
    have hiw : iw mm z = ew x := (hc.1.wd hzi.1).trans hewz
    refine bC_writeOpenPage_28 ⟨fun hh => absurd hh (nI_ge hlt (by omega)), fun _ => ⟨hP.1, K 6, hP.2.2.2.2.2.2.2.2.2.2.2.1, 32, hK6, vp_in_nI (by omega) (by omega), K 3, hP.2.2.2.2.2.1, hP.2.2.2.2.2.2.1, ?_⟩⟩
    rw [h6 hc.1.2.2.2.2.2.2.2.2]
    refine c_GhasRoomFor hst hP.2.2.2.2.2.2.1 hP.2.2.2.2.2.2.2.2.2.2.2.2.2.2.2.2.1 hpo (hc.1.it hzi) (fun hr => ⟨fun _ => ?_, fun q => absurd q (by decide)⟩) (fun hr => ⟨fun q => absurd rfl q, fun _ => ⟨hP.1, K 3, hP.2.2.2.2.2.1, hP.2.2.2.2.2.2.1, ?_⟩⟩)
    · rw [hws, hiw] at hr
      exact app pgc Zc B mm hc hav hXc hr (by unfold anx; rw [if_pos hr])
    · rw [hws, hiw] at hr
      refine c_wro hst hc (by omega) (fun m24 h24 => ?_)
      have hzs : ∀ s, s < 64 → zS Zc B.w s = Zc s := fun s hs => by
        unfold zS up
        rw [if_neg (by omega), if_neg (by omega)]
      show WW _ _ _ _ _ _ _ _ _ _
      have hx8 := hlE x hxm
      exact app _ _ (wro B) m24 h24 (fun a ha s hs => by rw [hzs s hs]; exact hav a ha s hs) (fun a ha => ⟨(hXc a ha).1, fun s hs => by rw [hzs s hs]; exact (hXc a ha).2 s hs⟩) (by
        show eS [] + ew x ≤ 32
        rw [eS_nil]
        unfold ew
        omega) (by unfold anx; rw [if_neg (by omega)])
end L2G
