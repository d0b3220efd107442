/-! the reference's flash and crash -/
section L3Q
variable {l : Launch} {G : xG} {Q : XR → XM → Prop} {R : Nat → Nat} {m0 m m' : XM} {S S' S1 S2 : RS} {X X' : RX} {A B : AS} {ix g xs ys zs rest hs0 : List Nat} {pn : Nat → Nat} {n p s i v w0 k z : Nat} {key : Int64} {c c0 : Nat → Int32} {x y : Int32}
theorem sh32 (k : Int64) : (jshr k (32 : Int32)).toInt32 = (jushr k (32 : Int32)).toInt32 := by
  have a1 : (Int32.toInt64 32 &&& 63) = (32 : Int64) := by decide
  have a2 : ((Int32.toInt64 32).toUInt64 &&& Int64.toUInt64 63) = (32 : UInt64) := by decide
  apply Int32.toBitVec_inj.mp
  unfold jshr jushr
  rw [a1, a2, Int64.toBitVec_toInt32, Int64.toBitVec_toInt32, Int64.toBitVec_shiftRight]
  have b1 : (32 : Int64).toBitVec.smod 64 = 32#64 := by decide
  rw [b1]
  have b2 : (k.toUInt64 >>> (32 : UInt64)).toInt64.toBitVec = k.toBitVec >>> (32#64) := by
    show (k.toUInt64 >>> (32 : UInt64)).toBitVec = _
    rw [UInt64.toBitVec_shiftRight]
    rfl
  rw [b2]
  apply BitVec.eq_of_getLsbD_eq
  intro i hi
  rw [BitVec.getLsbD_signExtend, BitVec.getLsbD_signExtend]
  have h0 : i < 64 := by omega
  have c1 : (k.toBitVec.sshiftRight' 32#64).getLsbD i = (k.toBitVec.sshiftRight 32).getLsbD i := rfl
  have c2 : (k.toBitVec >>> 32#64).getLsbD i = (k.toBitVec >>> 32).getLsbD i := rfl
  rw [c1, c2, BitVec.getLsbD_sshiftRight, BitVec.getLsbD_ushiftRight]
  have h1 : ¬ 64 ≤ i := by omega
  have h2 : 32 + i < 64 := by omega
  simp [h0, h1, h2]
theorem c_Mflash (hst : l.stackTraces = false) (h : MR R m0 S X m) (hA : RA S A ix pn) (h0 : (x < 0 ∨ 96 ≤ x ∨ y < 0 ∨ ¬ y < 32) → ∀ m', MR R m0 S (mX 1 X.op X.b X.fo X.du) m' → Q (.inl (some (vI 0))) m')
    (h1 : ¬ x < 0 → ¬ 96 ≤ x → ¬ y < 0 → y < 32 → ∀ m', MR R m0 S (mX 0 X.op X.b X.fo X.du) m' → Q (.inl (some (vI (apw (A.Z x.toNatClampNeg) y.toNatClampNeg)))) m') : CC l G xM_flash [vR (some (R 0)), vI x, vI y] m Q := by
  have e95 : (95 : Int32) < x ↔ 96 ≤ x := by
    rw [Int32.lt_iff_toInt_lt, Int32.le_iff_toInt_le]
    show (95 : Int) < x.toInt ↔ (96 : Int) ≤ x.toInt
    omega
  have e31 : (31 : Int32) < y ↔ ¬ y < 32 := by
    rw [Int32.lt_iff_toInt_lt, Int32.lt_iff_toInt_lt]
    show (31 : Int) < y.toInt ↔ ¬ y.toInt < 32
    omega
  refine bM_flash hst ⟨h.w.k0, fun m2 hm2 => ?_⟩
  have h2 := h.sTh 0
  rw [← hm2] at h2
  refine c_Mwithin hst (fun q => ⟨fun _ => ⟨h2.w.k0, c_Mfail hst h2 (fun m3 h3 => h0 ?_ m3 h3)⟩, fun r => absurd rfl r⟩) (fun q1 q2 => ⟨fun r => absurd r (by decide), fun _ => c_Mwithin hst (fun q => ⟨fun r => absurd rfl r, fun _ => ⟨h2.w.k0, c_Mfail hst h2 (fun m3 h3 => h0 ?_ m3 h3)⟩⟩) (fun q3 q4 => ⟨fun _ => ?_, fun r => absurd r (by decide)⟩)⟩)
  · rcases q with r | r
    · exact Or.inl r
    · exact Or.inr (Or.inl (e95.mp r))
  · rcases q with r | r
    · exact Or.inr (Or.inr (Or.inl r))
    · exact Or.inr (Or.inr (Or.inr (e31.mp r)))
  have q2' : ¬ 96 ≤ x := fun r => q2 (e95.mpr r)
  have q4' : y < 32 := Classical.byContradiction fun r => q4 (e31.mpr r)
  have hq := h1 q1 q2' q3 q4' m2 h2
  obtain ⟨p, hp, e⟩ := nI_of q1
  obtain ⟨t, ht, e'⟩ := nI_of q3
  have hcl : x.toNatClampNeg = p := by rw [e]; exact nI_clamp hp
  have hcl' : y.toNatClampNeg = t := by rw [e']; exact nI_clamp ht
  have p96 : p < 96 := by
    rw [e, show (96 : Int32) = nI 96 from rfl, nI_leI (by omega) hp] at q2'
    omega
  have t32 : t < 32 := by
    rw [e', show (32 : Int32) = nI 32 from rfl, nI_ltI ht (by omega)] at q4'
    exact q4'
  rw [hcl, hcl'] at hq
  rw [e, e']
  obtain ⟨hs1, hs2⟩ := h2.sz (p := p) (by omega)
  -- entries by words alone
  have hap : ∀ (T : Nat → Ent), (∀ n, (T n).k = S.k n ∧ (T n).v = vlS S n) → Q (.inl (some (vI (apw ((S.P p).map T) t)))) m2 → WW l G xM_flash 36 [some (vR (some (R 0))), some (vI (nI p)), some (vI (nI t)), some (vI (0 : Int32)), some (vI (0 : Int32)), none] [] m2 0 0 Q := by
    intro T hT hq
    have loop : ∀ zs ys o, ys ++ zs = S.P p → o ≤ t → Q (.inl (some (vI (apw (zs.map T) (t - o))))) m2 → WW l G xM_flash 36 [some (vR (some (R 0))), some (vI (nI p)), some (vI (nI t)), some (vI (nI o)), some (vI (nI ys.length)), none] [] m2 0 0 Q := by
      intro zs
      induction zs with
      | nil =>
        intro ys o e1 ho hq
        rw [List.append_nil] at e1
        refine bM_flash_36 ⟨h2.w.k0, R 14, h2.w.r14, 97, h2.w.k14, vp_in_nI (by omega) (by omega), fun _ => hq, fun q => ?_⟩
        rw [nI_clamp (by omega), hs1, e1] at q
        exact absurd Int32.le_rfl q
      | cons z zs ih =>
        intro ys o e1 ho hq
        have hlt : ys.length < (S.P p).length := by rw [← e1]; simp
        obtain ⟨hat, hz⟩ := h2.at (p := p) (by omega) (at_mid e1)
        have hl8 := h2.l8 z hz
        have hew : ew (T z) = S.l z + 3 := by
          show 3 + (T z).v.length = _
          rw [(hT z).2, vlS_len]
          omega
        rw [List.map_cons, apw, hew] at hq
        have nx := fun o => ih (ys ++ [z]) o (by rw [List.append_assoc]; exact e1)
        rw [List.length_append] at nx
        refine bM_flash_36 ⟨h2.w.k0, R 14, h2.w.r14, 97, h2.w.k14, vp_in_nI (by omega) (by omega), fun q => ?_, fun _ => ⟨R 15, h2.w.r15, 776, h2.w.k15, ?_, ?_⟩⟩
        · rw [nI_clamp (by omega), hs1, nI_leI (by omega) (by omega)] at q
          omega
        · rw [n8]
          exact vp_in_nI (by omega) (by omega)
        · rw [n8, nI_clamp (by omega), hat]
          refine c_Mneed hst h2 hz ⟨fun q => ⟨h2.w.k0, c_Mneed hst h2 hz ?_⟩, fun q => ?_⟩
          · show WW _ _ _ _ _ _ _ _ _ _
            rw [nI_add, nI_leI (by omega) (by omega)] at q
            rw [if_neg (by omega), show t - o - (S.l z + 3) = t - (o + (S.l z + 3)) by omega] at hq
            rw [nI_add, nI_1]
            exact nx (o + (S.l z + 3)) q hq
          · rw [nI_add, nI_leI (by omega) (by omega)] at q
            rw [if_pos (by omega)] at hq
            unfold eword at hq
            have eo : ∀ d, (nI t = nI o + nI d ↔ t = o + d) ∨ 2 ^ 20 < d := fun d => by
              by_cases hd : 2 ^ 20 < d
              · exact Or.inr hd
              · left
                rw [nI_add]
                exact nI_eq (by omega) (by omega)
            have c0 : (nI t = nI o) ↔ t = o := nI_eq (by omega) (by omega)
            have c1 : (nI t = nI o + 1) ↔ t = o + 1 := (eo 1).resolve_right (by omega)
            have c2 : (nI t = nI o + 2) ↔ t = o + 2 := (eo 2).resolve_right (by omega)
            rw [c0, c1, c2]
            refine ⟨fun r0 => ⟨fun r1 => ⟨fun r2 => ⟨h2.w.k0, R 8, h2.w.r8, 32768, h2.w.k8, ?_⟩, fun r2 => ⟨h2.w.k0, R 6, h2.w.r6, 4096, h2.w.k6, vp_in_nI hz (by omega), ?_⟩⟩, fun r1 => ⟨h2.w.k0, R 6, h2.w.r6, 4096, h2.w.k6, vp_in_nI hz (by omega), ?_⟩⟩, fun r0 => ⟨h2.w.k0, R 7, h2.w.r7, 4096, h2.w.k7, vp_in_nI hz (by omega), ?_⟩⟩
            · rw [if_neg (by omega), if_neg (by omega), if_neg (by omega), (hT z).2] at hq
              have ei : (((8 : Int32) * nI z) + nI t) - nI o - (3 : Int32) = nI (8 * z + (t - o - 3)) := by
                rw [n8, pk_sub (by omega), show (3 : Int32) = nI 3 from rfl, pk_sub (by omega)]
                congr 1
                omega
              rw [ei, nI_clamp (by omega), h2.val hz (by omega)]
              refine ⟨vp_in_nI (by omega) (by omega), ?_⟩
              have : (vlS S z).getD (t - o - 3) 0 = S.v z (t - o - 3) := by
                rw [List.getD_eq_getElem?_getD]
                unfold vlS
                rw [List.getElem?_map, List.getElem?_range (by omega)]
                rfl
              rw [this] at hq
              exact hq
            · rw [if_neg (by omega), if_neg (by omega), if_pos (by omega), (hT z).1] at hq
              rw [nI_clamp (by omega), h2.key hz]
              exact hq
            · rw [if_neg (by omega), if_pos (by omega), (hT z).1] at hq
              rw [nI_clamp (by omega), h2.key hz, sh32]
              exact hq
            · rw [if_pos (by omega), (hT z).2, vlS_len] at hq
              rw [nI_clamp (by omega), (h2.len hz).1]
              exact hq
    exact loop (S.P p) [] 0 rfl (Nat.zero_le _) hq
  by_cases r : p < 64
  · rw [hA.2.1 p r] at hq
    exact hap (eZ S) (fun n => ⟨rfl, rfl⟩) hq
  · rw [hA.2.2.1 p (by omega) (by omega)] at hq
    exact hap (eL S) (fun n => ⟨rfl, rfl⟩) hq
/-- crash -/
def crP (S : RS) (i : Nat) : Nat → List Nat := fun p => if p < i then [] else S.P p
def crC (S : RS) (i : Nat) : Nat → Int32 := fun k => if k < i then 0 else S.c k
theorem c_Mcrash (hst : l.stackTraces = false) (h : MR R m0 S X m) (h0 : X.op = 0 → ∀ m', MR R m0 S (mX 1 X.op X.b X.fo X.du) m' → Q (.inl none) m')
    (h1 : ¬ X.op = 0 → ∀ S' m', MR R m0 S' (mX 0 0 X.b [] X.du) m' → RA S' (aCra 0) [] pn → Q (.inl none) m') : CC l G xM_crash [vR (some (R 0))] m Q := by
  have e1 : gI m (R 0) 1 = X.op := h.xx.2.1
  refine bM_crash hst ⟨h.w.k0, fun q m2 hm2 => ?_, fun q m5 hm5 => ?_⟩
  · rw [e1] at q
    have h2 := h.sTh 1
    rw [← hm2] at h2
    have e2 : gI m2 (R 0) 1 = X.op := h2.xx.2.1
    exact ⟨fun r => absurd (e2.trans q) r, fun _ => h0 q m2 h2⟩
  · rw [e1] at q
    have h5 := h.sTh 0
    rw [← hm5] at h5
    have e2 : gI m5 (R 0) 1 = X.op := h5.xx.2.1
    refine ⟨fun _ m6 hm6 => ?_, fun r => absurd (e2.symm.trans r) q⟩
    have h6 := h5.sOp 0
    rw [← hm6] at h6
    have e6 : MR R m0 S (mX 0 0 X.b X.fo X.du) m6 := h6
    have l52 : ∀ k i S1 mm, i + k = 13 → S1.P = crP S 97 → S1.c = crC S i → MR R m0 S1 (mX 0 0 X.b X.fo X.du) mm → WW l G xM_crash 52 [some (vR (some (R 0))), some (vI (nI i))] [] mm 0 0 Q := by
      intro k
      induction k with
      | zero =>
        intro i S1 mm e eP eC hR
        have e' : i = 13 := by omega
        subst e'
        refine bM_crash_52 ⟨fun _ => ⟨hR.w.k0, fun m2 hm2 m3 hm3 m4 hm4 => ?_⟩, fun q => absurd Int32.le_rfl q⟩
        have a2 := hR.sW (v := 0) (by omega)
        rw [show nI 0 = (0 : Int32) from rfl, ← hm2] at a2
        have a3 := a2.sT (v := 0) (by omega)
        rw [show nI 0 = (0 : Int32) from rfl, ← hm3] at a3
        have a4 := a3.sFl (k := 0) (by omega)
        rw [show nI 0 = (0 : Int32) from rfl, ← hm4] at a4
        have eP' : ((S1.sw 0).st 0).P = crP S 97 := by rw [RS.P_st, RS.P_sw, eP]
        have hP0 : ∀ p, p < 97 → ((S1.sw 0).st 0).P p = [] := fun p hp => by rw [eP']; unfold crP; rw [if_pos hp]
        have eC' : ((S1.sw 0).st 0).c = crC S 13 := by rw [RS.c_st, RS.c_sw, eC]
        refine h1 q _ m4 a4 ⟨⟨fun r hr => ?_, fun r t hr ht hne y hy => ?_⟩, fun s hs => ?_, fun p hp hp' => ?_, rfl, fun n => ?_, List.Pairwise.nil, (fun n hn => nomatch hn), ?_, ?_, ?_, fun k hk hk' => ?_⟩
        · rw [hP0 r hr]
          exact List.nodup_nil
        · rw [hP0 r hr] at hy
          cases hy
        · rw [hP0 s (by omega)]
          rfl
        · rw [hP0 p hp']
          rfl
        · constructor
          · intro r
            cases r
          · rintro ⟨r, -⟩
            obtain ⟨u, u1, u2, u3⟩ := lgs_mem.mp r
            rw [hP0 u u2] at u3
            cases u3
        · rw [RS.w_st, RS.w_sw]
          rfl
        · rw [RS.t_st]
          rfl
        · rw [eC']
          rfl
        · rw [eC']
          unfold crC
          rw [if_pos (by omega)]
          rfl
      | succ k ih =>
        intro i S1 mm e eP eC hR
        refine bM_crash_52 ⟨fun q => ?_, fun _ => ⟨hR.w.k0, R 23, hR.w.r23, 13, hR.w.k23, vp_in_nI (by omega) (by omega), fun m11 hm11 => ?_⟩⟩
        · rw [show (13 : Int32) = nI 13 from rfl, nI_leI (by omega) (by omega)] at q
          omega
        · rw [nI_clamp (by omega)] at hm11
          have a11 := hR.sCnt (n := i) (by omega) 0
          rw [← hm11] at a11
          rw [nI_1]
          refine ih (i + 1) _ m11 (by omega) (by rw [RS.P_sc, eP]) ?_ a11
          rw [RS.c_sc, eC]
          funext j
          by_cases r : j = i
          · rw [r, up_same]
            unfold crC
            rw [if_pos (by omega)]
          · rw [upN r]
            unfold crC
            by_cases r2 : j < i
            · rw [if_pos r2, if_pos (by omega)]
            · rw [if_neg r2, if_neg (by omega)]
    have l31 : ∀ k i S1 mm, i + k = 97 → S1.P = crP S i → S1.c = S.c → MR R m0 S1 (mX 0 0 X.b X.fo X.du) mm → WW l G xM_crash 31 [some (vR (some (R 0))), some (vI (nI i))] [] mm 0 0 Q := by
      intro k
      induction k with
      | zero =>
        intro i S1 mm e eP eC hR
        have e' : i = 97 := by omega
        subst e'
        refine bM_crash_31 ⟨fun _ => l52 13 0 S1 mm rfl eP ?_ hR, fun q => absurd Int32.le_rfl q⟩
        rw [eC]
        funext j
        unfold crC
        rw [if_neg (by omega)]
      | succ k ih =>
        intro i S1 mm e eP eC hR
        refine bM_crash_31 ⟨fun q => ?_, fun _ => ⟨hR.w.k0, R 14, hR.w.r14, 97, hR.w.k14, vp_in_nI (by omega) (by omega), fun m7 hm7 => ?_⟩⟩
        · rw [show (97 : Int32) = nI 97 from rfl, nI_leI (by omega) (by omega)] at q
          omega
        · rw [nI_clamp (by omega)] at hm7
          have a7 := hR.sSz (p := i) (n := 0) (by omega) (Nat.zero_le _)
          rw [show nI 0 = (0 : Int32) from rfl, ← hm7, List.take_zero] at a7
          rw [nI_1]
          refine ih (i + 1) _ m7 (by omega) ?_ (by rw [RS.c_sP, eC]) a7
          rw [RS.P_sP, eP]
          funext j
          by_cases r : j = i
          · rw [r, up_same]
            unfold crP
            rw [if_pos (by omega)]
          · rw [upN r]
            unfold crP
            by_cases r2 : j < i
            · rw [if_pos r2, if_pos (by omega)]
            · rw [if_neg r2, if_neg (by omega)]
    refine l31 97 0 S m6 rfl ?_ rfl e6
    funext j
    unfold crP
    rw [if_neg (by omega)]
end L3Q
