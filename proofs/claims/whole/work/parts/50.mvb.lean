/-! the reference moves those of a set: the whole -/
section L3C
variable {l : Launch} {G : xG} {Q : XR → XM → Prop} {R : Nat → Nat} {m0 m m' : XM} {S S' S1 S2 : RS} {X X' : RX} {A B : AS} {ix g xs ys zs : List Nat} {pn : Nat → Nat} {n p s i x : Nat} {key : Int64} {c : Nat → Int32}
theorem eY_k : (eY S pn n).k = S.k n := rfl
theorem eZ_k : (eZ S n).k = S.k n := rfl
theorem gS_ix (h : A.Y = ix.map (eY S pn)) : gS A.Y s = (ix.filter (fun n => sN (S.k n) == s)).map (eY S pn) := by
  unfold gS
  rw [h, List.filter_map, Function.comp_def]
  simp only [eY_k]
theorem nY_ix (h : A.Y = ix.map (eY S pn)) : A.Y.filter (fun x => !(sN x.k == s)) = (ix.filter (fun n => !(sN (S.k n) == s))).map (eY S pn) := by
  rw [h, List.filter_map, Function.comp_def]
  simp only [eY_k]
theorem era_fold : ∀ (g xs : List Nat), (g.foldl (fun xs x => eraK S (S.k x) xs) xs).map (eZ S) = aM1 (xs.map (eZ S)) (g.map (eY S pn)) ∧ (g.foldl (fun xs x => eraK S (S.k x) xs) xs).Sublist xs
  | [], xs => ⟨rfl, List.Sublist.refl _⟩
  | x :: g, xs => by
    obtain ⟨h1, h2⟩ := era_fold g (eraK S (S.k x) xs)
    refine ⟨?_, h2.trans eraK_sub⟩
    rw [List.foldl_cons, h1, eraK_map]
    rfl
theorem RA.sgS {x : List Nat} (h : RA S A ix pn) : RA (S.sg x) A ix pn := h.same RS.P_sg (fun _ _ _ _ => ⟨rfl, rfl, rfl, rfl, rfl, rfl, rfl⟩) rfl rfl rfl
theorem RA.cnt2 {Z0 : Nat → List Ent} {Y0 : List Ent} {w0 t0 : Nat} {c0 : Nat → Int32} (h : RA S (mA Z0 Y0 w0 c0 t0) ix pn) {k : Nat} (v : Int32) (h1 : 1 ≤ k) (h2 : k < 11) : RA (S.sc (up S.c k (S.c k + v))) (mA Z0 Y0 w0 (cA c0 k v) t0) ix pn := h.cnt v h1 h2
theorem RA.sub2 {Z0 : Nat → List Ent} {Y0 z1 : List Ent} {w0 t0 : Nat} {c0 : Nat → Int32} (h : RA S (mA (up Z0 s z1) Y0 w0 c0 t0) ix pn) (hs : s < 64) (hx : xs.Sublist (S.P s)) {k : Nat} (v : Int32) (h1 : 1 ≤ k) (h2 : k < 11) : RA ((S.sP (up S.P s xs)).sc (up S.c k (S.c k + v))) (mA (up Z0 s (xs.map (eZ S))) Y0 w0 (cA c0 k v) t0) ix pn := by
  have := h.sub hs hx
  rw [mA_Z, mA_Y, mA_w, mA_c, up_up] at this
  exact this.cnt v h1 h2
theorem RA.clm2 {Z0 : Nat → List Ent} {Y0 z1 : List Ent} {w0 t0 : Nat} {c0 : Nat → Int32} (h : RA S (mA (up Z0 s z1) Y0 w0 c0 t0) ix pn) (hs : s < 64) : RA (S.smk (clF S.mk (S.P s))) (mA (up Z0 s (z1.map e0)) Y0 w0 c0 t0) ix pn := by
  have := h.clm hs
  rw [mA_Z, mA_Y, mA_w, mA_c, up_up, up_same] at this
  exact this
theorem RA.mv2 {Z0 : Nat → List Ent} {Y0 : List Ent} {w0 t0 : Nat} {c0 : Nat → Int32} (h : RA S (mA Z0 Y0 w0 c0 t0) ix pn) (hs : s < 64) (hx : xs.Sublist (S.P s)) (hg : ∀ n ∈ g, n ∈ ix) : RA ((S.snw (clF S.nw g)).sP (up S.P s xs)) (mA (up Z0 s (xs.map (eZ S))) ((ix.filter (fun n => !g.contains n)).map (eY S pn)) w0 c0 t0) (ix.filter (fun n => !g.contains n)) pn := h.mv hs hx hg
theorem c_MmoveAll (hst : l.stackTraces = false) (h : MR R m0 S X m) (hA : RA S A ix pn) (hs : s < 64) (hPZ : PZ s (A.Z s)) (hg : S.g = ix.filter (fun n => sN (S.k n) == s)) (hl : ∀ e ∈ A.Y, 1 ≤ e.v.length ∧ e.v.length ≤ 8)
    (hq : ∀ S' m', MR R m0 S' X m' → RA S' (mA (up A.Z s (aMP (A.Z s) (gS A.Y s))) (A.Y.filter (fun x => !(sN x.k == s))) A.w (aMC (A.Z s) (gS A.Y s) A.c) A.t) (ix.filter (fun n => !(sN (S.k n) == s))) pn → Hk S S' → Lk S S' → Hp S S' → Q (.inl none) m') : CC l G xM_moveAll [vR (some (R 0)), vI (nI s)] m Q := by
  have hY := hA.2.2.2.1
  have hE : gS A.Y s = S.g.map (eY S pn) := by rw [gS_ix hY, ← hg]
  have hgi : ∀ n ∈ S.g, n ∈ ix := fun n hn => by rw [hg] at hn; exact (List.mem_filter.mp hn).1
  have hgs : ∀ n ∈ S.g, sN (S.k n) = s := fun n hn => by
    rw [hg] at hn
    have := (List.mem_filter.mp hn).2
    simpa using this
  have hZs := hA.2.1 s hs
  have hkn : ((S.P s).map S.k).Nodup := by
    have := hPZ.1
    rw [hZs, List.map_map] at this
    exact this
  have hixf : ix.filter (fun n => !S.g.contains n) = ix.filter (fun n => !(sN (S.k n) == s)) := by
    apply List.filter_congr
    intro n hn
    congr 1
    rw [Bool.eq_iff_iff]
    constructor
    · intro r
      have : n ∈ S.g := by simpa using r
      rw [hgs n this]
      simp
    · intro r
      have : n ∈ S.g := by rw [hg, List.mem_filter]; exact ⟨hn, r⟩
      simpa using this
  refine bM_moveAll hst ⟨h.w.k0, R 23, h.w.r23, 13, h.w.k23, vp_in_nI (n := 9) (by omega) (by omega), vp_in_nI (n := 9) (by omega) (by omega), fun m8 hm8 => ⟨vp_in_nI (n := 4) (by omega) (by omega), vp_in_nI (n := 4) (by omega) (by omega), fun m11 hm11 => ?_⟩⟩
  rw [show (9 : Int32).toNatClampNeg = 9 from rfl, h.cn (by omega)] at hm8
  have h8 := h.sCnt (n := 9) (by omega) (S.c 9 + 1)
  rw [← hm8] at h8
  have e18 : gI m8 (R 0) 18 = nI S.g.length := h8.gg.1
  rw [show (4 : Int32).toNatClampNeg = 4 from rfl, h8.cn (by omega), e18] at hm11
  have h11 := h8.sCnt (n := 4) (by omega) ((S.sc (up S.c 9 (S.c 9 + 1))).c 4 + nI S.g.length)
  rw [← hm11] at h11
  have hA0 := (hA.cnt (k := 9) 1 (by omega) (by omega)).cnt2 (k := 4) (nI S.g.length) (by omega) (by omega)
  generalize hS0 : (S.sc (up S.c 9 (S.c 9 + 1))).sc (up (S.sc (up S.c 9 (S.c 9 + 1))).c 4 ((S.sc (up S.c 9 (S.c 9 + 1))).c 4 + nI S.g.length)) = S0 at h11 hA0
  have K0 : Dk S S0 := by rw [← hS0]; exact Dk.sc.tr Dk.sc
  have eP0 : S0.P = S.P := by rw [← hS0, RS.P_sc, RS.P_sc]
  have eg0 : S0.g = S.g := by rw [← hS0, RS.g_sc, RS.g_sc]
  have em0 : S0.mk = S.mk := by rw [← hS0, RS.mk_sc, RS.mk_sc]
  have ek0 : S0.k = S.k := K0.1
  have eZ0 : eZ S0 = eZ S := K0.eZ em0
  have eY0 : eY S0 pn = eY S pn := K0.eY
  refine c_mv26 (S := S0) hst hs (by rw [eP0, ek0]; exact hkn) (by rw [eg0, ek0]; exact hgs) (fun m' h' => ?_) S0.g [] m11 rfl (by
    show MR R m0 ((S0.snw S0.nw).sP (up S0.P s (S0.P s))) X m11
    rw [up_self, RS.snw_self, RS.sP_self]
    exact h11)
  obtain ⟨hf1, hf2⟩ := era_fold (S := S0) (pn := pn) S0.g (S0.P s)
  generalize hx1 : S0.g.foldl (fun xs x => eraK S0 (S0.k x) xs) (S0.P s) = x1 at h' hf1 hf2
  have hA1 := hA0.mv2 (g := S0.g) (xs := x1) hs hf2 (by rw [eg0]; exact hgi)
  rw [eZ0, eY0, eP0, eg0] at hf1
  rw [eZ0, eY0, eg0, hixf] at hA1
  rw [eg0] at h'
  generalize hS1 : (S0.snw (clF S0.nw S.g)).sP (up S0.P s x1) = S1 at h' hA1
  have K1 : Dk S S1 := K0.tr (by rw [← hS1]; exact Dk.snw.tr Dk.sP)
  have eP1 : S1.P s = x1 := by rw [← hS1, RS.P_sP, up_same]
  have eQ1 : ∀ q, 64 ≤ q → q < 97 → S1.P q = S.P q := fun q hq hq' => by rw [← hS1, RS.P_sP, up, if_neg (by omega), eP0]
  have eR1 : ∀ q n, q < 97 → n ∈ S1.P q → n ∈ S.P q := fun q n hq hn => by
    rw [← hS1, RS.P_sP] at hn
    by_cases e5 : q = s
    · rw [e5, up_same] at hn
      rw [e5, ← eP0]
      exact hf2.subset hn
    · simp only [up, if_neg e5] at hn
      rw [← eP0]
      exact hn
  have eg1 : S1.g = S.g := by rw [← hS1, RS.g_sP, RS.g_snw, eg0]
  have em1 : S1.mk = S.mk := by rw [← hS1, RS.mk_sP, RS.mk_snw, em0]
  have eZ1 : eZ S1 = eZ S := K1.eZ em1
  have evl1 : vlS S1 = vlS S := K1.vl
  -- the words of those gathered
  have wg : ∀ T : RS, vlS T = vlS S → wS T S.g = eS (S.g.map (eY S pn)) := fun T hT => wS_eS (fun n => by rw [hT]; rfl)
  refine c_MdropFirst (p := s) (mv := 0) (k := 5) hst h' (by omega) (by omega) (fun m2 h2 => ?_)
  rw [eg1, wg S1 evl1, eP1] at h2
  generalize hD2 : drS S1 (eS (S.g.map (eY S pn))) 0 [] x1 = D2 at h2
  have hD2s : D2.Sublist x1 := by rw [← hD2]; exact drS_sub x1 []
  have hD2m : D2.map (eZ S) = aM2 (A.Z s) (S.g.map (eY S pn)) := by
    rw [← hD2, ← eZ1, drS_map, eZ1, hf1, ← hZs]
    rfl
  have hA2' := hA1.sub2 (xs := D2) hs (by rw [eP1]; exact hD2s) (k := 5) (nI (x1.length - D2.length)) (by omega) (by omega)
  rw [eZ1] at hA2'
  generalize hS2 : (S1.sP (up S1.P s D2)).sc (up S1.c 5 (S1.c 5 + nI (x1.length - D2.length))) = S2 at h2
  rw [hS2] at hA2'
  have K2 : Dk S S2 := K1.tr (by rw [← hS2]; exact Dk.sP.tr Dk.sc)
  have eP2 : S2.P s = D2 := by rw [← hS2, RS.P_sc, RS.P_sP, up_same]
  have eQ2 : ∀ q, 64 ≤ q → q < 97 → S2.P q = S.P q := fun q hq hq' => by rw [← hS2, RS.P_sc, RS.P_sP, up, if_neg (by omega), eQ1 q hq hq']
  have eR2 : ∀ q n, q < 97 → n ∈ S2.P q → n ∈ S.P q := fun q n hq hn => by
    rw [← hS2, RS.P_sc, RS.P_sP] at hn
    by_cases e5 : q = s
    · rw [e5, up_same] at hn
      exact eR1 q n hq (by rw [e5, eP1]; exact hD2s.subset hn)
    · simp only [up, if_neg e5] at hn
      exact eR1 q n hq hn
  have eg2 : S2.g = S.g := by rw [← hS2, RS.g_sc, RS.g_sP, eg1]
  have em2 : S2.mk = S.mk := by rw [← hS2, RS.mk_sc, RS.mk_sP, em1]
  have eZ2 : eZ S2 = eZ S := K2.eZ em2
  have evl2 : vlS S2 = vlS S := K2.vl
  refine ⟨h2.w.k0, c_MdropFirst (p := s) (mv := 1) (k := 6) hst h2 (by omega) (by omega) (fun m4 h4 => ?_)⟩
  rw [eg2, wg S2 evl2, eP2] at h4
  generalize hD3 : drS S2 (eS (S.g.map (eY S pn))) 1 [] D2 = D3 at h4
  have hD3s : D3.Sublist D2 := by rw [← hD3]; exact drS_sub D2 []
  have hD3m : D3.map (eZ S) = aM3 (A.Z s) (S.g.map (eY S pn)) := by
    rw [← hD3, ← eZ2, drS_map, eZ2, hD2m]
    rfl
  have hA3' := hA2'.sub2 (xs := D3) hs (by rw [eP2]; exact hD3s) (k := 6) (nI (D2.length - D3.length)) (by omega) (by omega)
  rw [eZ2] at hA3'
  generalize hS3 : (S2.sP (up S2.P s D3)).sc (up S2.c 6 (S2.c 6 + nI (D2.length - D3.length))) = S3 at h4
  rw [hS3] at hA3'
  have K3 : Dk S S3 := K2.tr (by rw [← hS3]; exact Dk.sP.tr Dk.sc)
  have eP3 : S3.P s = D3 := by rw [← hS3, RS.P_sc, RS.P_sP, up_same]
  have eQ3 : ∀ q, 64 ≤ q → q < 97 → S3.P q = S.P q := fun q hq hq' => by rw [← hS3, RS.P_sc, RS.P_sP, up, if_neg (by omega), eQ2 q hq hq']
  have eR3 : ∀ q n, q < 97 → n ∈ S3.P q → n ∈ S.P q := fun q n hq hn => by
    rw [← hS3, RS.P_sc, RS.P_sP] at hn
    by_cases e5 : q = s
    · rw [e5, up_same] at hn
      exact eR2 q n hq (by rw [e5, eP2]; exact hD3s.subset hn)
    · simp only [up, if_neg e5] at hn
      exact eR2 q n hq hn
  have eg3 : S3.g = S.g := by rw [← hS3, RS.g_sc, RS.g_sP, eg2]
  have evl3 : vlS S3 = vlS S := K3.vl
  have hw3 : wS S3 (S3.P s) = eS (aM3 (A.Z s) (S.g.map (eY S pn))) := by
    rw [eP3, ← hD3m]
    exact wS_eS (fun n => by rw [evl3]; rfl)
  have hsub3 : (aM3 (A.Z s) (S.g.map (eY S pn))).Sublist (A.Z s) := aM3_sub.trans (aM1_sub _ _)
  have hb3 : wS S3 (S3.P s) ≤ 32 := by
    rw [hw3]
    exact Nat.le_trans (eS_sub hsub3) hPZ.2.2.1
  show WW _ _ _ _ _ _ _ _ _ _
  refine c_mv93 (S := S3) hst (by omega) hb3 (fun m5 h5 => ?_) S3.g m4 0 _ (by simp) (by
    have e7 : up S3.c 7 (S3.c 7 + nI 0) = S3.c := by
      have : S3.c 7 + nI 0 = S3.c 7 := Int32.add_zero _
      rw [this, up_self]
    rw [e7, RS.sg_self, RS.sc_self]
    exact h4) rfl
  rw [hw3, eg3] at h5
  generalize hg4 : dgF S3 (eS (aM3 (A.Z s) (S.g.map (eY S pn)))) S.g = g4 at h5
  have hdgs : ∀ (g : List Nat) (bb : Nat), (dgF S3 bb g).Sublist g := by
    intro g
    induction g with
    | nil => intro bb; exact List.Sublist.refl _
    | cons y g ih =>
      intro bb
      unfold dgF
      split
      · exact List.Sublist.refl _
      · exact (ih bb).trans (List.sublist_cons_self _ _)
  have hg4s : g4.Sublist S.g := by rw [← hg4]; exact hdgs _ _
  generalize hS4 : (S3.sg g4).sc (up S3.c 7 (S3.c 7 + nI (S.g.length - g4.length))) = S4 at h5
  have hA4' := (hA3'.sgS (x := g4)).cnt2 (k := 7) (nI (S.g.length - g4.length)) (by omega) (by omega)
  rw [RS.c_sg, hS4] at hA4'
  have K4 : Dk S S4 := K3.tr (by rw [← hS4]; exact Dk.sg.tr Dk.sc)
  have eP4 : S4.P s = D3 := by rw [← hS4, RS.P_sc, RS.P_sg, eP3]
  have eQ4 : ∀ q, 64 ≤ q → q < 97 → S4.P q = S.P q := fun q hq hq' => by rw [← hS4, RS.P_sc, RS.P_sg, eQ3 q hq hq']
  have eg4 : S4.g = g4 := by rw [← hS4, RS.g_sc, RS.g_sg]
  refine c_mv159 (S := S4) (by omega) (fun m6 h6 => ?_) (S4.P s) [] m5 rfl (by
    show MR R m0 (S4.smk S4.mk) X m5
    rw [RS.smk_self]
    exact h5)
  have hA5 := hA4'.clm2 hs
  generalize hS5 : S4.smk (clF S4.mk (S4.P s)) = S5 at h6 hA5
  have K5 : Dk S S5 := K4.tr (by rw [← hS5]; exact Dk.smk)
  have eQ5 : ∀ q, 64 ≤ q → q < 97 → S5.P q = S.P q := fun q hq hq' => by rw [← hS5, RS.P_smk, eQ4 q hq hq']
  have eg5 : S5.g = g4 := by rw [← hS5, RS.g_smk, eg4]
  have eL5 : eL S5 = eL S := K5.eL
  have H5 : Hk S S5 := K5.hk
  have hp5 : Hp S S5 := Hp.sub (fun q n hq hn => eR3 q n hq (by rw [← hS5, RS.P_smk, ← hS4, RS.P_sc, RS.P_sg] at hn; exact hn))
  have L5 : Lk S S5 := K5.lk eQ5
  -- the closed forms
  obtain ⟨ad1, ad2⟩ := aAd_dg (S := S3) S.g ((aM3 (A.Z s) (S.g.map (eY S pn))).map e0) (eL S) (fun n => by rw [evl3]; rfl)
  rw [eS_e0, hg4] at ad1 ad2
  have hEe : (S.g.map (eY S pn)).map e0 = S.g.map (eL S) := by
    rw [List.map_map]
    rfl
  have hMP : aMP (A.Z s) (gS A.Y s) = (aM3 (A.Z s) (S.g.map (eY S pn))).map e0 ++ g4.map (eL S) := by
    rw [hE]
    unfold aMP
    rw [hEe, ad1]
  have hle1 : D2.length ≤ x1.length := hD2s.length_le
  have hle2 : D3.length ≤ D2.length := hD3s.length_le
  have hl1 : (aM1 (A.Z s) (S.g.map (eY S pn))).length = x1.length := by rw [hZs, ← hf1, List.length_map]
  have hl2 : (aM2 (A.Z s) (S.g.map (eY S pn))).length = D2.length := by rw [← hD2m, List.length_map]
  have hl3 : (aM3 (A.Z s) (S.g.map (eY S pn))).length = D3.length := by rw [← hD3m, List.length_map]
  have hMC : aMC (A.Z s) (gS A.Y s) A.c = cA (cA (cA (cA (cA (cA A.c 9 1) 4 (nI S.g.length)) 5 (nI (x1.length - D2.length))) 6 (nI (D2.length - D3.length))) 7 (nI (S.g.length - g4.length))) 1 1 := by
    rw [hE]
    unfold aMC
    rw [hEe, ad2, hl1, hl2, hl3, pk_sub hle1, pk_sub hle2, List.length_map]
  have hA5' : RA S5 (mA (up A.Z s ((aM3 (A.Z s) (S.g.map (eY S pn))).map e0)) (A.Y.filter (fun x => !(sN x.k == s))) A.w (cA (cA (cA (cA (cA A.c 9 1) 4 (nI S.g.length)) 5 (nI (x1.length - D2.length))) 6 (nI (D2.length - D3.length))) 7 (nI (S.g.length - g4.length))) A.t) (ix.filter (fun n => !(sN (S.k n) == s))) pn := by
    rw [nY_ix hY, ← hD3m]
    exact hA5
  refine c_mv194 (ix := ix.filter (fun n => !(sN (S.k n) == s))) (pn := pn) (S := S5) (A := mA (up A.Z s ((aM3 (A.Z s) (S.g.map (eY S pn))).map e0)) (A.Y.filter (fun x => !(sN x.k == s))) A.w (cA (cA (cA (cA (cA A.c 9 1) 4 (nI S.g.length)) 5 (nI (x1.length - D2.length))) 6 (nI (D2.length - D3.length))) 7 (nI (S.g.length - g4.length))) A.t) hst hs (fun n hn => ?_) ?_ (fun S' m' h' hA' hH hL hHp => ?_) S5.g [] S5 m6 rfl h6 ?_ rfl Hk.rf Lk.rf Hp.rf
  · rw [eg5] at hn
    rw [L5.1]
    exact ((hA.2.2.2.2.1 n).mp (hgi n (hg4s.subset hn))).1
  · rw [eg5, mA_Z, up_same, List.length_map, hl3]
    -- at most eight fit
    have hb : eS (aM3 (A.Z s) (S.g.map (eY S pn))) + eS (g4.map (eL S)) ≤ 32 := by
      have := (aAd_is ((S.g.map (eL S))) ((aM3 (A.Z s) (S.g.map (eY S pn))).map e0) (by rw [eS_e0]; exact Nat.le_trans (eS_sub hsub3) hPZ.2.2.1))
      obtain ⟨g', -, -, r3⟩ := this
      rw [ad1, eS_app, eS_e0] at r3
      exact r3
    have b1 := eS_len (xs := aM3 (A.Z s) (S.g.map (eY S pn))) (fun e he => (hPZ.2.2.2 e (hsub3.subset he)).1)
    have b2 := eS_len (xs := g4.map (eL S)) (fun e he => by
      obtain ⟨n, hn, rfl⟩ := List.mem_map.mp he
      have : eY S pn n ∈ A.Y := by rw [hY]; exact List.mem_map_of_mem (hgi n (hg4s.subset hn))
      exact (hl _ this).1)
    rw [hl3] at b1
    rw [List.length_map] at b2
    omega
  · refine hq S' m' h' ?_ (H5.tr hH) (L5.tr hL) (Hp.tr H5 hp5 hHp)
    rw [hMP, hMC]
    rw [eg5, eL5, mA_Z, mA_Y, mA_w, mA_c, up_up, up_same] at hA'
    exact hA'
  · rw [List.map_nil, List.append_nil, up_self]
    exact hA5'
end L3C
