/-! get and delete -/
def aGA (key : Int64) (A : AS) : Int32 := match aFnd key A with
  | none => 0
  | some e => nI e.v.length
section L2M
variable {l : Launch} {G : xG} {Q : XR → XM → Prop} {K ar : Nat → Nat} {m0 m m' m'' : XM} {N E : Nat → Prop} {pg : Nat → Nat} {Z : Nat → List Nat} {Y xs ys zs : List Nat} {w j a s z : Nat} {c fg fp : Nat → Int32} {A B : AS} {b b' : Nat → Int32} {fo : Option (List Int32)} {op : Int32} {key : Int64} {T : Nat → Ent}
theorem CR.k0 (h : CR K ar m pg Z Y c fg fp A m) (o : Option Nat) (ho : ∀ a, o = some a → Itm m a) : CR K ar (mR m (K 0) 6 o) pg Z Y c fg fp A (mR m (K 0) 6 o) := by
  have hk := h.kd0
  have hf : Fr (fun x => x = K 0) m (mR m (K 0) 6 o) := frR 6 o rfl
  have hq : ∀ a, Itm m a → vlist (mR m (K 0) 6 o) a = vlist m a := fun a ha => (ha.k0 hk hf).2
  have h' : Ch K A (mR m (K 0) 6 o) := Ch.k0 ⟨ar, pg, Z, Y, c, fg, fp, h⟩ hf (fun k hk => by simp [mR, hk]) (fun _ => by
    have e6 : (mR m (K 0) 6 o).2.2.2 (K 0) 6 = o := by simp [mR]
    cases o with
    | none => exact Or.inl e6
    | some a => exact Or.inr ⟨a, e6, ((ho a rfl).k0 hk hf).1⟩)
  obtain ⟨h1, h2, h3, h4, h5, h6, h7⟩ := h
  obtain ⟨⟨a1, a2, a3, a4, a5, a6, a7, a8, a9, a10, a11, a12, a13, a14, a15, a16, a17, a18, a19, a20, a21⟩, g2, g3, g4, g5⟩ := h1.1
  have nk : ∀ {x : Nat} {k : XKd}, m.1 x = some k → k ≠ oB 4 → ¬ x = K 0 := fun hx hk q => hk (by rw [q] at hx; exact Option.some.inj (hx.symm.trans a1))
  have q0 : ∀ k, k ≠ 6 → gR (mR m (K 0) 6 o) (K 0) k = gR m (K 0) k := fun k hk => by simp [mR, gR, hk]
  have q3 := nk a7 (by decide)
  have hca : CaOK (mR m (K 0) 6 o) K ar pg Z Y A.w := by
    refine ⟨⟨(hf.kd _).trans a1, (q0 0 (by decide)).trans a2, (hf.kd _).trans a3, (q0 1 (by decide)).trans a4, (hf.kd _).trans a5, (q0 2 (by decide)).trans a6, (hf.kd _).trans a7, (q0 3 (by decide)).trans a8, (hf.kd _).trans a9, (q0 4 (by decide)).trans a10, (hf.kd _).trans a11, (q0 5 (by decide)).trans a12, (hf.kd _).trans a13, (hf.gR q3 _).trans a14, (hf.kd _).trans a15, (hf.gR q3 _).trans a16, (hf.gR q3 _).trans a17, (hf.gI q3 _).trans a18, a19, fun i hi => (hf.gR (nk a5 (by decide)) _).trans (a20 i hi), fun i hi => (hf.gR (nk a15 (by decide)) _).trans (a21 i hi)⟩, fun j hj => ?_, ?_, g4, ?_⟩
    · have hp := g2 j hj
      exact hp.fr hf (nk hp.1 (by decide)) (nk hp.2.2.1 (by decide)) (fun a ha => nk (hp.2.2.2.2.2.1 a ha).1 (by decide))
    · obtain ⟨i1, i2, i3, i4, i5, i6, i7, i8, i9, i10⟩ := id g3
      exact g3.fr hf (nk i1 (by decide)) (nk i3 (by decide)) (nk i5 (by decide)) (fun a ha => nk (i9 a ha).1 (by decide))
    · have e6 : (mR m (K 0) 6 o).2.2.2 (K 0) 6 = o := by simp [mR]
      cases o with
      | none => exact Or.inl e6
      | some a => exact Or.inr ⟨a, e6, ((ho a rfl).k0 hk hf).1⟩
  refine ⟨⟨hca, h1.2.1, h1.2.2.1, Cl.rf⟩, h2, fun s hs => ?_, fun p hp hp' => ?_, ?_, h6, h7⟩
  · rw [h3 s hs]
    apply List.map_congr_left
    intro a ha
    unfold tS
    rw [hq a (h1.itZ (j := s) (by omega) a ha)]
    rfl
  · rw [h4 p hp hp']
    apply List.map_congr_left
    intro a ha
    unfold tL
    rw [hq a (h1.itZ (j := p) (by omega) a ha)]
    rfl
  · rw [h5]
    apply List.map_congr_left
    intro a ha
    unfold tY
    rw [hq a (h1.itY a ha)]
    rfl
theorem CR.nY (h : CR K ar m0 pg Z Y c fg fp A m) (hA : AI A) : (Y.map (fun a => m0.2.2.1 a 0)).Nodup := by
  have := hA.ky
  rw [h.2.2.2.2.1, List.map_map] at this
  exact this
theorem CR.nZ (h : CR K ar m0 pg Z Y c fg fp A m) (hA : AI A) (hs : s < 64) : ((Z s).map (fun a => m0.2.2.1 a 0)).Nodup ∧ ∀ a ∈ Z s, sN (m0.2.2.1 a 0) = s := by
  have := hA.kz s hs
  rw [h.2.2.1 s hs, List.map_map] at this
  refine ⟨this.1, fun a ha => ?_⟩
  have h2 := this.2 (tS m0 fg a) (List.mem_map_of_mem ha)
  rw [show (tS m0 fg a).k = m0.2.2.1 a 0 from rfl] at h2
  exact h2
theorem CR.mkY (h : CR K ar m0 pg Z Y c fg fp A m) (hA : AI A) (hz : z ∈ Y) (hk : m0.2.2.1 z 0 = key) : CR K ar m0 pg Z Y c (up fg z 1) fp (mA A.Z (mk1 key A.Y) A.w A.c A.t) (mI m z 5 1) := by
  have hn := h.nY hA
  obtain ⟨h1, h2, h3, h4, h5, h6, h7⟩ := h
  refine ⟨h1.got (h1.inY z hz) 1, h2, fun s hs => ?_, h4, ?_, h6, h7⟩
  · rw [mA_Z, h3 s hs]
    apply List.map_congr_left
    intro a ha
    have : a ≠ z := fun q => h6 s hs a ha (q ▸ hz)
    simp [tS, up, this]
  · rw [mA_Y, h5]
    unfold mk1
    rw [List.map_map]
    apply List.map_congr_left
    intro a ha
    show (if (tY m0 fg fp a).k = key then _ else _) = _
    rw [tY_k]
    by_cases q : a = z
    · subst q
      rw [if_pos hk]
      simp only [tY, up, if_pos]
      rfl
    · have : ¬ m0.2.2.1 a 0 = key := fun r => q (nd_inj hn a ha z hz (r.trans hk.symm))
      rw [if_neg this]
      simp [tY, up, q]
theorem CR.mkZ (h : CR K ar m0 pg Z Y c fg fp A m) (hA : AI A) (hz : z ∈ Z (sN key)) (hk : m0.2.2.1 z 0 = key) : CR K ar m0 pg Z Y c (up fg z 1) fp (mA (up A.Z (sN key) (mk1 key (A.Z (sN key)))) A.Y A.w A.c A.t) (mI m z 5 1) := by
  have hs := sN_lt key
  obtain ⟨hn, -⟩ := h.nZ hA hs
  have hsn : ∀ s, s < 64 → ∀ a ∈ Z s, sN (m0.2.2.1 a 0) = s := fun s hs => (h.nZ hA hs).2
  obtain ⟨h1, h2, h3, h4, h5, h6, h7⟩ := h
  refine ⟨h1.got (h1.inZ (j := sN key) (by omega) z hz) 1, h2, fun s hs' => ?_, fun p hp hp' => ?_, ?_, h6, h7⟩
  · rw [mA_Z]
    by_cases e : s = sN key
    · rw [e, up_same, h3 _ hs]
      unfold mk1
      rw [List.map_map]
      apply List.map_congr_left
      intro a ha
      show (if (tS m0 fg a).k = key then _ else _) = _
      rw [show (tS m0 fg a).k = m0.2.2.1 a 0 from rfl]
      by_cases q : a = z
      · subst q
        rw [if_pos hk]
        simp only [tS, up, if_pos]
        rfl
      · have : ¬ m0.2.2.1 a 0 = key := fun r => q (nd_inj hn a ha z hz (r.trans hk.symm))
        rw [if_neg this]
        simp [tS, up, q]
    · rw [up, if_neg e, h3 s hs']
      apply List.map_congr_left
      intro a ha
      have : a ≠ z := fun q => e (by rw [← hsn s hs' a ha, q, hk])
      simp [tS, up, this]
  · rw [mA_Z, up, if_neg (by omega)]
    exact h4 p hp hp'
  · rw [mA_Y, h5]
    apply List.map_congr_left
    intro a ha
    have : a ≠ z := fun q => h6 (sN key) hs z hz (q ▸ ha)
    simp [tY, up, this]
theorem fIn_no (h : ∀ a ∈ xs, m.2.2.1 a 0 ≠ key) (hk : ∀ a, (T a).k = m.2.2.1 a 0) : fIn key (xs.map T) = none := by
  unfold fIn
  rw [List.find?_eq_none]
  intro e he
  obtain ⟨a, ha, rfl⟩ := List.mem_map.mp he
  simpa [hk] using h a ha
theorem fIn_yes (h : ∀ a ∈ ys, m.2.2.1 a 0 ≠ key) (hz : m.2.2.1 z 0 = key) (hk : ∀ a, (T a).k = m.2.2.1 a 0) : fIn key ((ys ++ z :: zs).map T) = some (T z) := by
  unfold fIn
  rw [List.map_append, List.find?_append]
  have := fIn_no (T := T) h hk
  unfold fIn at this
  rw [this, List.map_cons, List.find?_cons_of_pos (by simp [hk, hz])]
  rfl
theorem mk1_no {es : List Ent} (h : ∀ e ∈ es, e.k ≠ key) : mk1 key es = es := by
  unfold mk1
  have : es.map (fun e => if e.k = key then mE e.k e.v 1 e.p else e) = es.map id := List.map_congr_left (fun e he => by rw [if_neg (h e he)]; rfl)
  rw [this, List.map_id]
theorem vlist_len : (vlist m a).length = vlen m a := by unfold vlist; simp
theorem c_get63 {bc bs : Nat} (h : m.1 (K 0) = some (oB 4)) (h0 : m.2.2.2 (K 0) 6 = none → Q (.inl (some (vI 0))) m) (h1 : ∀ z, m.2.2.2 (K 0) 6 = some z → Itm m z ∧ Q (.inl (some (vI (nI (vlist m z).length)))) (mI m z 5 1)) : WW l G xC_get 63 [some (vR (some (K 0))), some (vL key), none] [] m bc bs Q := by
  refine bC_get_63 ⟨h, h0, fun z hz => ?_⟩
  obtain ⟨h2, h3⟩ := h1 z hz
  obtain ⟨u, u1, u2, u3, u4⟩ := h2.vl
  rw [vlist_len] at h3
  refine ⟨h2.1, ?_⟩
  intro m5 hm
  rw [hm]
  exact ⟨u, u1, vlen m z, u2, h3⟩
theorem c_Cget (hst : l.stackTraces = false) (h : CQ K N A b fo op m) (h0 : op = 0 → Q (.inr "java/lang/IllegalStateException") m)
    (h1 : ¬ op = 0 → ∀ m', Ce K m m' → CQ K N (aGet key A) b ((aFnd key A).map Ent.v) op m' → Q (.inl (some (vI (aGA key A)))) m') : CC l G xC_get [vR (some (K 0)), vL key] m Q := by
  obtain ⟨l1, l2, l3, l4, l5, l6, l7⟩ := h.log
  obtain ⟨ar, pg, Z, Y, c, fg, fp, hR⟩ := id h.1
  have a1 := hR.kd0
  have hA := h.2.1
  have hs := sN_lt key
  refine bC_get hst ⟨a1, 0, 0, rfl, rfl, c_Crefuse hst a1 h.2.2.2.2.1 (fun q => ⟨a1, K 3, l1, l2, K 8, l3, l4, c_Ifind hst hR.1.1.2.2.1 (fun hno => ⟨a1, ?_⟩) (fun ys z zs e hno hz => ⟨a1, ?_⟩)⟩) h0⟩
  · -- not in the index
    intro m17 hm
    have e6 : m17.2.2.2 (K 0) 6 = none := by rw [hm]; simp [mR]
    have hQ17 : CQ K N A b none op m17 ∧ Ce K m m17 := by rw [hm]; exact h.fo0 none none rfl
    have hR17 : CR K ar m17 pg Z Y c fg fp A m17 := by rw [hm]; exact hR.k0 none (fun a q => nomatch q)
    have hno17 : ∀ a ∈ Y, m17.2.2.1 a 0 ≠ key := by rw [hm]; exact hno
    have hfy : fIn key A.Y = none := by rw [hR17.2.2.2.2.1]; exact fIn_no (m := m17) hno17 (fun _ => rfl)
    have hbo : bors m17 (Z (sN key)) = aBor (A.Z (sN key)) := by
      rw [hR17.2.2.1 _ hs]
      exact bors_map (fun _ => rfl) (hR17.1.itZ (j := sN key) (by omega))
    have hnone : ∀ m', m'.2.2.2 (K 0) 6 = none → m'.1 (K 0) = some (oB 4) → Ce K m m' → CQ K N (aGet key A) b none op m' → aFnd key A = none → WW l G xC_get 63 [some (vR (some (K 0))), some (vL key), none] [] m' 0 0 Q := by
      intro m' g6 g0 gc gq ge
      have := h1 q m' gc (by rw [ge]; exact gq)
      unfold aGA at this
      rw [ge] at this
      exact c_get63 g0 (fun _ => this) (fun z hz => by rw [g6] at hz; cases hz)
    refine ⟨fun _ => c_readFromSet hst hR17.1 (fun hb => ⟨hR17.kd0, ?_⟩) (fun hb hno2 h20 => ⟨h20.1.1.1, ?_⟩) (fun hb ys z zs e hno2 hz h20 => ⟨h20.1.1.1, ?_⟩), fun a q => by rw [show gR m17 (K 0) 6 = none from e6] at q; cases q⟩
    · intro m23 hm23
      rw [hbo] at hb
      have hg : aGet key A = A := by unfold aGet; rw [hfy]; simp only [if_pos hb]
      have hfd : aFnd key A = none := by unfold aFnd; rw [hfy]; simp only [if_pos hb]
      have hQ : CQ K N A b none op m23 ∧ Ce K m17 m23 := by rw [hm23]; exact hQ17.1.fo0 none none rfl
      exact hnone m23 (by rw [hm23]; simp [mR]) hQ.1.kd0 (hQ17.2.tr hQ.2) (by rw [hg]; exact hQ.1) hfd
    · intro m23 hm23
      rw [hbo] at hb
      have hmk : mk1 key (A.Z (sN key)) = A.Z (sN key) := mk1_no (fun e he => by
        rw [hR17.2.2.1 _ hs] at he
        obtain ⟨a, ha, rfl⟩ := List.mem_map.mp he
        exact hno2 a ha)
      have hg : aGet key A = mA A.Z A.Y A.w (cA A.c 9 1) A.t := by
        unfold aGet
        rw [hfy]
        simp only [if_neg hb, hmk]
        congr 1
        funext i
        by_cases q : i = sN key
        · rw [q, up_same]
        · simp [up, q]
      have hfd : aFnd key A = none := by
        unfold aFnd
        rw [hfy]
        simp only [if_neg hb]
        rw [hR17.2.2.1 _ hs]
        exact fIn_no (m := m17) hno2 (fun _ => rfl)
      have hc := hR17.cnt8 (B := aGet key A) (k := 9) (v := 1) h20 (by rw [hg]; rfl) (by rw [hg]; rfl) (by rw [hg]; rfl) (by rw [hg]; rfl)
      have hcf := hc.1.2.2.2.cf
      have hQ20 := hQ17.1.cf hcf ⟨ar, pg, Z, Y, _, fg, fp, hc.rebase⟩ (aGet_AI hA)
      have hQ : CQ K N (aGet key A) b none op m23 ∧ Ce K (mI m17 (K 4) 9 (c 9 + 1)) m23 := by rw [hm23]; exact hQ20.fo0 none none rfl
      exact hnone m23 (by rw [hm23]; simp [mR]) hQ.1.kd0 ((hQ17.2.tr hcf.ce).tr hQ.2) hQ.1 hfd
    · intro m23 hm23
      rw [hbo] at hb
      have hzZ : z ∈ Z (sN key) := by rw [e]; simp
      generalize hB : mA A.Z A.Y A.w (cA A.c 9 1) A.t = B
      have hc := hR17.cnt8 (B := B) (k := 9) (v := 1) h20 (by rw [← hB]; rfl) (by rw [← hB]; rfl) (by rw [← hB]; rfl) (by rw [← hB]; rfl)
      have hBA : AI B := by rw [← hB]; exact hA
      have hcf := hc.1.2.2.2.cf
      have hRb := hc.rebase
      generalize hm20 : mI m17 (K 4) 9 (c 9 + 1) = m20 at *
      have hz20 : m20.2.2.1 z 0 = key := by rw [← hm20]; exact hz
      have hit := hRb.1.itZ (j := sN key) (by omega) z hzZ
      have hQ20 := hQ17.1.cf hcf ⟨ar, pg, Z, Y, _, fg, fp, hRb⟩ hBA
      have hQ : CQ K N B b (some (vlist m20 z)) op m23 ∧ Ce K m20 m23 := by rw [hm23]; exact hQ20.fo0 (some z) (some _) ⟨z, rfl, hit, rfl⟩
      have hR23 : CR K ar m23 pg Z Y (cA c 9 1) fg fp B m23 := by rw [hm23]; exact hRb.k0 (some z) (fun a q => by cases q; exact hit)
      have hit23 := hR23.1.itZ (j := sN key) (by omega) z hzZ
      have hz23 : m23.2.2.1 z 0 = key := by rw [hm23]; exact hz20
      have hmk := hR23.mkZ hBA hzZ hz23
      have hg : aGet key A = mA (up B.Z (sN key) (mk1 key (B.Z (sN key)))) B.Y B.w B.c B.t := by
        unfold aGet
        rw [hfy, ← hB]
        simp only [if_neg hb]
        rfl
      rw [← hg] at hmk
      have hvl : vlist m23 z = vlist m20 z := by
        rw [hm23]
        exact (hit.k0 hRb.kd0 (frR (F := fun x => x = K 0) 6 (some z) rfl)).2
      have hfd : aFnd key A = some (tS m20 fg z) := by
        unfold aFnd
        rw [hfy]
        simp only [if_neg hb]
        have : A.Z (sN key) = (Z (sN key)).map (tS m20 fg) := by
          rw [← hRb.2.2.1 _ hs, ← hB]
          rfl
        rw [this, e]
        refine fIn_yes (m := m20) (fun a ha => ?_) hz20 (fun _ => rfl)
        rw [← hm20]
        exact hno2 a ha
      have hcf2 := hmk.1.2.2.2.cf
      have hQf := hQ.1.cf hcf2 ⟨ar, pg, Z, Y, _, _, fp, hmk.rebase⟩ (aGet_AI hA)
      refine c_get63 hR23.kd0 (fun g => ?_) (fun z' hz' => ?_)
      · rw [hm23] at g
        simp [mR] at g
      · have : z' = z := by
          rw [hm23] at hz'
          simp [mR] at hz'
          exact hz'.symm
        subst this
        refine ⟨hit23, ?_⟩
        have := h1 q _ (((hQ17.2.tr hcf.ce).tr hQ.2).tr hcf2.ce) (by rw [hfd]; exact hQf)
        unfold aGA at this
        rw [hfd] at this
        rw [hvl]
        exact this
  · -- in the index
    intro m17 hm
    have hzY : z ∈ Y := by rw [e]; simp
    have hit := hR.1.itY z hzY
    have e6 : m17.2.2.2 (K 0) 6 = some z := by rw [hm]; simp [mR]
    have hQ17 : CQ K N A b (some (vlist m z)) op m17 ∧ Ce K m m17 := by rw [hm]; exact h.fo0 (some z) (some _) ⟨z, rfl, hit, rfl⟩
    have hR17 : CR K ar m17 pg Z Y c fg fp A m17 := by rw [hm]; exact hR.k0 (some z) (fun a q => by cases q; exact hit)
    have hit17 := hR17.1.itY z hzY
    have hz17 : m17.2.2.1 z 0 = key := by rw [hm]; exact hz
    have hno17 : ∀ a ∈ ys, m17.2.2.1 a 0 ≠ key := by rw [hm]; exact hno
    have hfy : fIn key A.Y = some (tY m17 fg fp z) := by
      rw [hR17.2.2.2.2.1, e]
      exact fIn_yes (m := m17) hno17 hz17 (fun _ => rfl)
    have hfd : aFnd key A = some (tY m17 fg fp z) := by unfold aFnd; rw [hfy]
    have hvl : vlist m17 z = vlist m z := by
      rw [hm]
      exact (hit.k0 hR.kd0 (frR (F := fun x => x = K 0) 6 (some z) rfl)).2
    obtain ⟨k1, k2, k3, k4, k5, k6, k7⟩ := hQ17.1.log
    have hpz := hR17.2.2.2.2.2.2 z hzY
    have hat : m17.2.1 z 4 = nI (fp z).toNatClampNeg := (hR17.at hzY).2.1
    have hple : (fp z).toNatClampNeg ≤ A.w := by
      have : tY m17 fg fp z ∈ A.Y := by rw [hR17.2.2.2.2.1]; exact List.mem_map_of_mem hzY
      exact (hA.iy _ this).2.1
    have heq : (gI m17 z 4 = gI m17 (K 3) 3) ↔ (tY m17 fg fp z).p = A.w := by
      rw [k6, show gI m17 z 4 = _ from hat, tY_p]
      exact nI_eq (by omega) (by omega)
    have fin : ∀ (m' : XM) (c' : Nat → Int32) (B : AS), m'.2.2.2 (K 0) 6 = some z → CR K ar m17 pg Z Y c' fg fp B m' → AI B → aGet key A = mA B.Z (mk1 key B.Y) B.w B.c B.t → WW l G xC_get 63 [some (vR (some (K 0))), some (vL key), none] [] m' 0 0 Q := by
      intro m' c' B g6 gR gA ge
      have hmk := gR.mkY gA hzY hz17
      rw [← ge] at hmk
      have hcf2 := hmk.1.2.2.2.cf
      have hQf := hQ17.1.cf hcf2 ⟨ar, pg, Z, Y, _, _, fp, hmk.rebase⟩ (aGet_AI hA)
      have hit' : Itm m' z := gR.1.2.2.2.cf.it hit17
      have hv' : vlist m' z = vlist m17 z := (gR.1.2.2.2.cf.vl hit17).1
      refine c_get63 gR.kd0 (fun g => by rw [g6] at g; cases g) (fun z' hz' => ?_)
      have : z' = z := by
        rw [g6] at hz'
        exact (Option.some.inj hz').symm
      subst this
      refine ⟨hit', ?_⟩
      have := h1 q _ (hQ17.2.tr hcf2.ce) (by
        rw [hfd]
        show CQ _ _ _ _ (some (vlist m17 z')) _ _
        rw [hvl]
        exact hQf)
      unfold aGA at this
      rw [hfd] at this
      rw [hv']
      exact this
    obtain ⟨a1', a2', a3', a4', a5', a6', a7', a8', a9', -⟩ := id hR17.1.1.1
    refine ⟨fun g => (by rw [show gR m17 (K 0) 6 = some z from e6] at g; cases g), fun a18 g => ⟨K 3, k1, l2, ?_⟩⟩
    rw [show gR m17 (K 0) 6 = some z from e6]
    refine c_hasInOpenPage hst k2 hit17.1 (fun g => ⟨fun _ => fin m17 c A e6 hR17 hA ?_, fun r => absurd r (by decide)⟩) (fun g => ⟨fun r => absurd rfl r, fun _ => ⟨a1', K 4, a8', 11, a9', vp_in_nI (n := 9) (by omega) (by omega), vp_in_nI (n := 9) (by omega) (by omega), ?_⟩⟩)
    · unfold aGet
      rw [hfy]
      simp only [if_pos (heq.mp g)]
    · intro m36 hm36
      rw [show gI m17 (K 4) (9 : Int32).toNatClampNeg = c 9 from hR17.1.2.1 9] at hm36
      have h36 : CS K ar m17 pg Z Y A.w (cA c 9 1) fg fp m36 := by
        rw [hm36]
        exact hR17.1.count 9 (c 9 + 1)
      generalize hB : mA A.Z A.Y A.w (cA A.c 9 1) A.t = B
      have hc := hR17.cnt8 (B := B) (k := 9) (v := 1) h36 (by rw [← hB]; rfl) (by rw [← hB]; rfl) (by rw [← hB]; rfl) (by rw [← hB]; rfl)
      refine fin m36 _ B ?_ hc (by rw [← hB]; exact hA) ?_
      · rw [hm36]
        exact e6
      · unfold aGet
        rw [hfy, ← hB]
        simp only [if_neg (fun r => g (heq.mpr r))]
        rfl
theorem rmA_map (h : CR K ar m0 pg Z Y c fg fp A m) : rmA m0 key Z = aRmA key A.Z := by
  have hs := sN_lt key
  have hbo : bors m0 (Z (sN key)) = aBor (A.Z (sN key)) := by
    rw [h.2.2.1 _ hs]
    exact bors_map (fun _ => rfl) (h.1.itZ (j := sN key) (by omega))
  have hha : has m0 key (Z (sN key)) = aHas key (A.Z (sN key)) := by
    rw [h.2.2.1 _ hs]
    exact has_map (fun _ => rfl)
  unfold rmA aRmA
  rw [hbo, hha]
theorem c_Cdelete (hst : l.stackTraces = false) (h : CQ K N A b fo op m) (h0 : op = 0 → Q (.inr "java/lang/IllegalStateException") m)
    (h1 : ¬ op = 0 → ∀ m', Ce K m m' → CQ K N (aDel key A) b fo op m' → Q (.inl (some (vI (aDA key A)))) m') : CC l G xC_delete [vR (some (K 0)), vL key] m Q := by
  obtain ⟨l1, l2, l3, l4, l5, l6, l7⟩ := h.log
  obtain ⟨ar, pg, Z, Y, c, fg, fp, hR⟩ := id h.1
  have a1 := hR.kd0
  have hA := h.2.1
  refine bC_delete hst ⟨a1, 0, 0, rfl, rfl, c_Crefuse hst a1 h.2.2.2.2.1 (fun q => ⟨a1, K 3, l1, l2, K 8, l3, l4, c_Iremove hst hR.1.1.2.2.1 (fun m14 f14 x14 => ?_)⟩) h0⟩
  have hS14 := hR.1.index (f14.mono (fun x hx => Or.inl hx)) x14
  generalize hY' : Y.filter (fun a => gL m a 0 != key) = Y' at *
  have hsub : ∀ a ∈ Y', a ∈ Y := fun a ha => by
    rw [← hY'] at ha
    exact (List.mem_filter.mp ha).1
  have hR14 := hR.take5 hsub hS14
  refine ⟨hR14.kd0, c_removeFromSet (k := 3) hst hS14 (by omega) (fun m17 h17 => ?_)⟩
  have hYm : (aDel key A).Y = Y'.map (tY m fg fp) := by
    rw [← hY', show (aDel key A).Y = A.Y.filter (fun y => y.k != key) from rfl, hR.2.2.2.2.1, List.filter_map]
    rfl
  have hR17 := hR14.rm (B := aDel key A) h17 rfl (by rw [hYm, mA_Y]) rfl rfl
  have hcf := hR17.1.2.2.2.cf
  have hQ17 := h.cf hcf ⟨ar, pg, _, Y', _, fg, fp, hR17.rebase⟩ (aDel_AI hA)
  have hq := h1 q m17 hcf.ce hQ17
  have hra : rmA m key Z = aRmA key A.Z := rmA_map hR
  have hlen : (Y'.length < Y.length) ↔ aHas key A.Y = true := by
    rw [hR.2.2.2.2.1, ← has_map (m := m) (fun _ => rfl), ← hY']
    unfold has
    rw [List.any_eq_true]
    constructor
    · intro hl
      refine Classical.byContradiction fun hn => ?_
      have : Y.filter (fun a => gL m a 0 != key) = Y := List.filter_eq_self.mpr (fun a ha => by
        simp only [bne_iff_ne, ne_eq]
        exact fun r => hn ⟨a, ha, by simpa using r⟩)
      rw [this] at hl
      omega
    · rintro ⟨a, ha, hk⟩
      refine Nat.lt_of_le_of_ne (List.length_filter_le _ _) (fun r => ?_)
      have := List.length_filter_eq_length_iff.mp r a ha
      simp at this hk
      exact this hk
  unfold aDA at hq
  rw [hra]
  by_cases g : Y'.length < Y.length
  · rw [if_pos (hlen.mp g)] at hq
    rw [if_pos g]
    exact ⟨fun _ => hq, fun r => absurd r (by decide)⟩
  · rw [if_neg (fun r => g (hlen.mpr r))] at hq
    rw [if_neg g]
    refine ⟨fun r => absurd rfl r, fun _ => ⟨fun r => ?_, fun r => ?_⟩⟩
    · rw [r] at hq
      exact hq
    · have : aRmA key A.Z = 1 := by
        unfold aRmA at r ⊢
        split
        · next e => rw [if_pos e] at r; exact absurd rfl r
        · next e =>
          rw [if_neg e] at r
          split
          · rfl
          · next e2 => rw [if_neg e2] at r; exact absurd rfl r
      rw [this] at hq
      exact hq
end L2M
