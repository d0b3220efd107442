/-! the reference's put -/
def bl (b : Nat → Int32) (n : Nat) : List Int32 := (List.range n).map b
section L3M
variable {l : Launch} {G : xG} {Q : XR → XM → Prop} {R : Nat → Nat} {m0 m m' : XM} {S S' S1 S2 : RS} {X X' : RX} {A B : AS} {ix g xs ys zs rest hs0 : List Nat} {pn : Nat → Nat} {n p s i x v w0 k : Nat} {key : Int64} {c c0 : Nat → Int32} {E : List Ent}
theorem c_Mworks (hst : l.stackTraces = false) (h : MR R m0 S X m) (hop : X.op = 0 ∨ X.op = 1) (h0 : X.op = 0 → ∀ m', MR R m0 S (mX 1 X.op X.b X.fo X.du) m' → Q (.inl (some (vI 0))) m') (h1 : X.op = 1 → ∀ m', MR R m0 S (mX 0 X.op X.b X.fo X.du) m' → Q (.inl (some (vI 1))) m') : CC l G xM_works [vR (some (R 0))] m Q := by
  have e1 : gI m (R 0) 1 = X.op := h.xx.2.1
  refine bM_works hst ⟨h.w.k0, fun q => ?_, fun q => ?_⟩
  · intro m2 hm2
    have h2 := h.sTh 1
    rw [← hm2] at h2
    have e2 : gI m2 (R 0) 1 = X.op := h2.xx.2.1
    rw [e1] at q
    rw [e2]
    refine ⟨hop, ?_⟩
    have := h0 q m2 h2
    rw [q]
    exact this
  · intro m2 hm2
    have h2 := h.sTh 0
    rw [← hm2] at h2
    have e2 : gI m2 (R 0) 1 = X.op := h2.xx.2.1
    rw [e1] at q
    rw [e2]
    refine ⟨hop, ?_⟩
    have o1 := hop.resolve_left q
    have := h1 o1 m2 h2
    rw [o1]
    exact this
theorem c_Mwithin {x0 x1 x2 : Int32} (hst : l.stackTraces = false) (h0 : (x0 < x1 ∨ x2 < x0) → Q (.inl (some (vI 0))) m) (h1 : ¬ x0 < x1 → ¬ x2 < x0 → Q (.inl (some (vI 1))) m) : CC l G xM_within [vI x0, vI x1, vI x2] m Q :=
  bM_within hst ⟨fun q => h0 (Or.inl q), fun q => ⟨fun q2 => h0 (Or.inr q2), fun q2 => h1 q q2⟩⟩
/-- a number that is in no page gets new words -/
theorem RA.fresh (hA : RA S A ix pn) (hv : ∀ p, p < 97 → v ∉ S.P p) (hP : S'.P = S.P) (hw : S'.w = S.w) (ht : S'.t = S.t) (hc : S'.c = S.c) (hd : ∀ y, y ≠ v → S'.k y = S.k y ∧ S'.l y = S.l y ∧ S'.v y = S.v y ∧ S'.mk y = S.mk y ∧ S'.gt y = S.gt y ∧ S'.cm y = S.cm y ∧ S'.nw y = S.nw y) : RA S' A ix pn :=
  hA.same hP (fun p hp y hy => hd y (fun r => hv p hp (r ▸ hy))) hw ht hc
theorem c_mp81 (hst : l.stackTraces = false) (hk : k ≤ 8) (hv4 : v < 4096)
    (hq : ∀ m', MR R m0 (((S.sv (up S.v v (fun t => if t < k then X.b t else 0))).snw (up S.nw v 0)).smk (up S.mk v 0)) X m' → CC l G xM_enter [vR (some (R 0)), vI (nI v)] m' (kV (fun m14 => Q (.inl none) m14) Q)) :
    ∀ d j mm, j + d = 8 → MR R m0 (S.sv (up S.v v (fun t => if t < j then (if t < k then X.b t else 0) else S.v v t))) X mm → WW l G xM_put 81 [some (vR (some (R 0))), some (vL key), none, some (vI (nI k)), some (vI (nI v)), some (vI (nI j))] [] mm 0 0 Q := by
  have hcv : (nI v).toNatClampNeg = v := nI_clamp (by omega)
  intro d
  induction d with
  | zero =>
    intro j mm e hR
    have e' : j = 8 := by omega
    subst e'
    have hR' := hR.sv_eq (f := up S.v v (fun t => if t < k then X.b t else 0)) (fun y hy i hi => by
      rw [RS.v_sv]
      by_cases r : y = v
      · simp [up, r, hi]
      · simp [up, r])
    have e1 : (S.sv (up S.v v (fun t => if t < 8 then (if t < k then X.b t else 0) else S.v v t))).sv (up S.v v (fun t => if t < k then X.b t else 0)) = S.sv (up S.v v (fun t => if t < k then X.b t else 0)) := by
      simp only [RS.sv, RS.P, RS.k, RS.l, RS.v, RS.nw, RS.gt, RS.cm, RS.mk, RS.w, RS.t, RS.c, RS.g, RS.h, mS]
      rfl
    rw [e1] at hR'
    refine bM_put_81 ⟨fun _ => ⟨hR.w.k0, R 9, hR.w.r9, 4096, hR.w.k9, vp_in_nI hv4 (by omega), fun m7 hm7 => ⟨R 12, hR.w.r12, 4096, hR.w.k12, vp_in_nI hv4 (by omega), fun m13 hm13 => ?_⟩⟩, fun q => absurd Int32.le_rfl q⟩
    rw [hcv] at hm7 hm13
    have h7 := hR'.sNw hv4 0
    rw [← hm7, RS.nw_sv] at h7
    have h13 := h7.sMk hv4 0
    rw [← hm13, RS.mk_snw, RS.mk_sv] at h13
    exact hq m13 h13
  | succ d ih =>
    intro j mm e hR
    have hb : ∀ t, t < 8 → gI mm (R 2) t = X.b t := hR.xx.2.2.1
    have step : ∀ m2 y, (y = if j < k then X.b j else 0) → m2 = mI mm (R 8) (8 * v + j) y → WW l G xM_put 81 [some (vR (some (R 0))), some (vL key), none, some (vI (nI k)), some (vI (nI v)), some (vI (nI j + 1))] [] m2 0 0 Q := by
      intro m2 y hy hm2
      have h2 := hR.sVal hv4 (i := j) (by omega) y
      rw [← hm2] at h2
      rw [nI_1]
      refine ih (j + 1) m2 (by omega) ?_
      have h3 := h2.sv_eq (f := up S.v v (fun t => if t < j + 1 then (if t < k then X.b t else 0) else S.v v t)) (fun z hz i hi => by
        rw [RS.v_sv, RS.v_sv]
        by_cases r : z = v
        · subst r
          by_cases s : i = j
          · rw [s, up_same, up_same, up_same, hy, if_pos (by omega)]
          · rw [up_same, up_same, upN s, up_same]
            by_cases s2 : i < j
            · rw [if_pos (by omega), if_pos s2]
            · rw [if_neg (by omega), if_neg s2]
        · rw [upN r, upN r, upN r])
      have e1 : ∀ a b f : Nat → Nat → Int32, ((S.sv a).sv b).sv f = S.sv f := by
        intro a b f
        simp only [RS.sv, RS.P, RS.k, RS.l, RS.v, RS.nw, RS.gt, RS.cm, RS.mk, RS.w, RS.t, RS.c, RS.g, RS.h, mS]
        rfl
      rw [e1] at h3
      exact h3
    refine bM_put_81 ⟨fun q => ?_, fun _ => ⟨hR.w.k0, fun q => ⟨R 8, hR.w.r8, 32768, hR.w.k8, ?_, fun m21 hm21 => ?_⟩, fun q => ⟨R 2, hR.w.r2, 8, hR.w.k2, vp_in_nI (by omega) (by omega), R 8, hR.w.r8, 32768, hR.w.k8, ?_, fun m32 hm32 => ?_⟩⟩⟩
    · rw [show (8 : Int32) = nI 8 from rfl, nI_leI (by omega) (by omega)] at q
      omega
    · rw [n8]
      exact vp_in_nI (by omega) (by omega)
    · rw [n8, nI_clamp (by omega)] at hm21
      rw [nI_leI (by omega) (by omega)] at q
      exact step m21 0 (by rw [if_neg (by omega)]) hm21
    · rw [n8]
      exact vp_in_nI (by omega) (by omega)
    · rw [n8, nI_clamp (by omega), nI_clamp (by omega), hb j (by omega)] at hm32
      rw [nI_leI (by omega) (by omega)] at q
      exact step m32 _ (by rw [if_pos (by omega)]) hm32
theorem c_mp34 (hst : l.stackTraces = false) (hk1 : 1 ≤ k) (hk : k ≤ 8)
    (hq : ∀ S' du' ix' pn' m', MR R m0 S' (mX X.th X.op X.b X.fo du') m' → RA S' (ent (mE key (bl X.b k) 0 0) B) ix' pn' → Q (.inl none) m') :
    ∀ f S du A mm ix pn, MR R m0 S (mX X.th X.op X.b X.fo du) mm → RA S A ix pn → AI A → roo (3 + k) f A = B → eS (B.Z 96) + (3 + k) ≤ 32 → A.w + 4 * f + 5 < 2 ^ 29 → A.t + 32 * f + 100 < 2 ^ 29 → WW l G xM_put 34 [some (vR (some (R 0))), some (vL key), none, some (vI (nI k)), none, none] [] mm 0 0 Q := by
  -- there is room
  have fin : ∀ S du A mm ix pn, MR R m0 S (mX X.th X.op X.b X.fo du) mm → RA S A ix pn → AI A → A = B → eS (A.Z 96) + (3 + k) ≤ 32 → A.t + 100 < 2 ^ 29 → kd mm (R 0) = some (oB 5) ∧ CC l G xM_freeNumber [vR (some (R 0))] mm (kI (fun v6 m5 => kd m5 (R 0) = some (oB 5) ∧ ∃ a8, gR m5 (R 0) 6 = some a8 ∧ ∃ n11, kd m5 a8 = some (aR 2 n11) ∧ vp_in v6 n11 ∧ ∀ m13, m13 = mL m5 a8 v6.toNatClampNeg key → ∃ a14, gR m5 (R 0) 7 = some a14 ∧ ∃ n17, kd m5 a14 = some (aR 0 n17) ∧ vp_in v6 n17 ∧ ∀ m19, m19 = mI m13 a14 v6.toNatClampNeg (nI k) → WW l G xM_put 81 [some (vR (some (R 0))), some (vL key), none, some (vI (nI k)), some (vI v6), some (vI (0 : Int32))] [] m19 0 0 Q) Q) := by
    intro S du A mm ix pn hR hA hAI hAB hroom ht
    refine ⟨hR.w.k0, c_MfreeNumber hst hR (fun v m5 hv4 f1 f2 f3 h5 => ⟨h5.w.k0, R 6, h5.w.r6, 4096, h5.w.k6, vp_in_nI hv4 (by omega), fun m13 hm13 => ⟨R 7, h5.w.r7, 4096, h5.w.k7, vp_in_nI hv4 (by omega), fun m19 hm19 => ?_⟩⟩)⟩
    have hcv : (nI v).toNatClampNeg = v := nI_clamp (by omega)
    rw [hcv] at hm13 hm19
    have h13 := h5.sKey hv4 key
    rw [← hm13] at h13
    have h19 := h13.sLen hv4 hk
    rw [← hm19, RS.l_sk] at h19
    generalize hS1 : (S.sk (up S.k v key)).sl (up S.l v k) = S1 at h19
    refine c_mp81 (m0 := m0) (S := S1) (X := mX X.th X.op X.b X.fo du) hst hk hv4 (fun m' h' => ?_) 8 0 m19 rfl ?_
    · generalize hS2 : ((S1.sv (up S1.v v (fun t => if t < k then (mX X.th X.op X.b X.fo du).b t else 0))).snw (up S1.nw v 0)).smk (up S1.mk v 0) = S2 at h'
      have ek : S2.k = up S.k v key := by rw [← hS2, RS.k_smk, RS.k_snw, RS.k_sv, ← hS1, RS.k_sl, RS.k_sk]
      have el : S2.l = up S.l v k := by rw [← hS2, RS.l_smk, RS.l_snw, RS.l_sv, ← hS1, RS.l_sl]
      have ev : S2.v = up S.v v (fun t => if t < k then X.b t else 0) := by
        rw [← hS2, RS.v_smk, RS.v_snw, RS.v_sv, ← hS1, RS.v_sl, RS.v_sk]
        rfl
      have enw : S2.nw = up S.nw v 0 := by rw [← hS2, RS.nw_smk, RS.nw_snw, ← hS1, RS.nw_sl, RS.nw_sk]
      have emk : S2.mk = up S.mk v 0 := by rw [← hS2, RS.mk_smk, ← hS1, RS.mk_sl, RS.mk_sk]
      have egt : S2.gt = S.gt := by rw [← hS2, RS.gt_smk, RS.gt_snw, RS.gt_sv, ← hS1, RS.gt_sl, RS.gt_sk]
      have ecm : S2.cm = S.cm := by rw [← hS2, RS.cm_smk, RS.cm_snw, RS.cm_sv, ← hS1, RS.cm_sl, RS.cm_sk]
      have eP : S2.P = S.P := by rw [← hS2, RS.P_smk, RS.P_snw, RS.P_sv, ← hS1, RS.P_sl, RS.P_sk]
      have ew : S2.w = S.w := by rw [← hS2, RS.w_smk, RS.w_snw, RS.w_sv, ← hS1, RS.w_sl, RS.w_sk]
      have et : S2.t = S.t := by rw [← hS2, RS.t_smk, RS.t_snw, RS.t_sv, ← hS1, RS.t_sl, RS.t_sk]
      have ec : S2.c = S.c := by rw [← hS2, RS.c_smk, RS.c_snw, RS.c_sv, ← hS1, RS.c_sl, RS.c_sk]
      have hA2 : RA S2 A ix pn := hA.fresh (v := v) f1 eP ew et ec (fun y hy => by
        rw [ek, el, ev, emk, egt, ecm, enw, upN hy, upN hy, upN hy, upN hy, upN hy]
        exact ⟨rfl, rfl, rfl, rfl, rfl, rfl, rfl⟩)
      have htt : A.t = S.t := hA.2.2.2.2.2.2.2.2.1
      have hlen : (S2.P 96).length < 8 := by
        have e := congrArg List.length (hA2.2.2.1 96 (by omega) (by omega))
        rw [List.length_map] at e
        have := eS_len (xs := A.Z 96) (fun e he => ((hAI.wz 96 (by omega)).2 e he).1)
        omega
      have heL : eL S2 v = mE key (bl X.b k) 0 0 := by
        unfold eL vlS bl
        rw [ek, el, ev, up_same, up_same, up_same]
        congr 1
        apply List.map_congr_left
        intro t ht
        have := List.mem_range.mp ht
        simp only [if_pos this]
      refine c_MenterR hst h' hA2 hAI.ky hv4 (fun p hp => by rw [eP]; exact f1 p hp) hlen (by rw [et, ← htt]; omega) (fun S' ix' pn' m' h3 hA3 _ _ _ _ => hq S' du ix' pn' m' h3 ?_)
      rw [heL, hAB] at hA3
      exact hA3
    · have := h19.sv_eq (f := up S1.v v (fun t => if t < 0 then (if t < k then (mX X.th X.op X.b X.fo du).b t else 0) else S1.v v t)) (fun y hy i hi => by
        by_cases r : y = v
        · subst r
          rw [up_same, if_neg (by omega)]
        · rw [upN r])
      exact this
  intro f
  induction f with
  | zero =>
    intro S du A mm ix pn hR hA hAI hB hroom hw ht
    have hB' : A = B := hB
    subst hB'
    have hZ96 : wS S (S.P 96) = eS (A.Z 96) := by
      rw [hA.2.2.1 96 (by omega) (by omega)]
      exact wS_eS (fun _ => rfl)
    obtain ⟨f1, f2⟩ := fin S du A mm ix pn hR hA hAI rfl hroom (by omega)
    refine bM_put_34 ⟨hR.w.k0, c_MwordsOf (p := 96) hst hR (by omega) ⟨fun _ => ⟨f1, f2⟩, fun q => ?_⟩⟩
    rw [hZ96, nI_add, show (3 : Int32) = nI 3 from rfl, nI_add, show (32 : Int32) = nI 32 from rfl, nI_leI (by omega) (by omega)] at q
    omega
  | succ f ih =>
    intro S du A mm ix pn hR hA hAI hB hroom hw ht
    have hZ96 : wS S (S.P 96) = eS (A.Z 96) := by
      rw [hA.2.2.1 96 (by omega) (by omega)]
      exact wS_eS (fun _ => rfl)
    have hb96 := (hAI.wz 96 (by omega)).1
    refine bM_put_34 ⟨hR.w.k0, c_MwordsOf (p := 96) hst hR (by omega) ?_⟩
    show ((nI (wS S (S.P 96)) + nI k) + 3 ≤ 32 → _) ∧ (¬ (nI (wS S (S.P 96)) + nI k) + 3 ≤ 32 → _)
    rw [hZ96, nI_add, show (3 : Int32) = nI 3 from rfl, nI_add, show (32 : Int32) = nI 32 from rfl, nI_leI (by omega) (by omega)]
    refine ⟨fun q => ?_, fun q => ⟨hR.w.k0, ?_⟩⟩
    · rw [roo_has (by omega)] at hB
      exact fin S du A mm ix pn hR hA hAI hB (by omega) (by omega)
    · refine c_MmakeRoom hst hR hA hAI (by omega) (by omega) (fun S' du' ix' pn' m' h' hA' => ?_)
      show WW _ _ _ _ _ _ _ _ _ _
      obtain ⟨w1, w2, w3⟩ := wop_AI hAI
      have w4 := wop_t hAI
      rw [roo, if_neg (by omega)] at hB
      exact ih S' du' (wop A) m' ix' pn' h' hA' w1 hB hroom (by omega) (by omega)
theorem c_Mput {y : Int32} (hst : l.stackTraces = false) (h : MR R m0 S X m) (hA : RA S A ix pn) (hAI : AI A) (hop : X.op = 0 ∨ X.op = 1) (hw : A.w + 200 < 2 ^ 29) (ht : A.t + 2000 < 2 ^ 29)
    (h0 : X.op = 0 → ∀ m', MR R m0 S (mX 1 X.op X.b X.fo X.du) m' → Q (.inl none) m')
    (h2 : X.op = 1 → (y < 1 ∨ ¬ y ≤ 8) → ∀ m', MR R m0 S (mX 2 X.op X.b X.fo X.du) m' → Q (.inl none) m')
    (h1 : X.op = 1 → ¬ y < 1 → y ≤ 8 → ∀ S' du' ix' pn' m', MR R m0 S' (mX 0 X.op X.b X.fo du') m' → RA S' (aPut key (bl X.b y.toNatClampNeg) A) ix' pn' → Q (.inl none) m') : CC l G xM_put [vR (some (R 0)), vL key, vI y] m Q := by
  refine bM_put hst ⟨h.w.k0, c_Mworks hst h hop (fun o m2 hm2 => ⟨fun q => absurd rfl q, fun _ => h0 o m2 hm2⟩) (fun o m2 hm2 => ⟨fun _ => c_Mwithin hst (fun q => ⟨fun r => absurd rfl r, fun _ => ⟨hm2.w.k0, fun m10 hm10 => ?_⟩⟩) (fun q1 q2 => ⟨fun _ => ⟨hm2.w.k0, fun m7 hm7 m8 hm8 => ?_⟩, fun r => absurd r (by decide)⟩), fun q => absurd q (by decide)⟩)⟩
  · refine h2 o ?_ m10 ?_
    · rcases q with r | r
      · exact Or.inl r
      · exact Or.inr (fun t => absurd r (Int32.not_lt.mpr t))
    · rw [hm10]
      exact hm2.sTh 2
  · have q2' : y ≤ 8 := Int32.not_lt.mp q2
    obtain ⟨k, hk, e⟩ := nI_of (x := y) (fun r => q1 (Int32.lt_trans r (by decide)))
    have hcl : y.toNatClampNeg = k := by rw [e]; exact nI_clamp hk
    have k1 : 1 ≤ k := by
      rw [e, show (1 : Int32) = nI 1 from rfl, nI_ltI hk (by omega)] at q1
      omega
    have k8 : k ≤ 8 := by
      rw [e, show (8 : Int32) = nI 8 from rfl, nI_leI hk (by omega)] at q2'
      exact q2'
    have hq := h1 o q1 q2'
    rw [hcl] at hq
    have hbl : (bl X.b k).length = k := by unfold bl; simp
    have h7 := hm2.g0
    rw [← hm7] at h7
    have h8 := h7.h0
    rw [← hm8] at h8
    rw [e]
    have hroom := roo_room (n := 3 + k) hAI (by omega)
    refine c_mp34 (X := mX 0 X.op X.b X.fo X.du) (B := roo (3 + k) 32 A) hst k1 k8 (fun S' du' ix' pn' m' h' hA' => hq S' du' ix' pn' m' h' ?_) 32 _ X.du A m8 ix pn h8 hA.sgS.shS hAI rfl hroom (by omega) (by omega)
    have : aPut key (bl X.b k) A = ent (mE key (bl X.b k) 0 0) (roo (3 + k) 32 A) := by
      unfold aPut
      rw [hbl]
    rw [this]
    exact hA'
end L3M
