/-! the reference makes room -/
section L3L
variable {l : Launch} {G : xG} {Q : XR → XM → Prop} {R : Nat → Nat} {m0 m m' : XM} {S S' S1 S2 : RS} {X X' : RX} {A B : AS} {ix g xs ys zs rest hs0 : List Nat} {pn : Nat → Nat} {n p s i x v w0 : Nat} {key : Int64} {c c0 : Nat → Int32} {E : List Ent}
theorem cA00 : cA c0 10 (nI 0) = c0 := by
  unfold cA
  rw [show nI 0 = (0 : Int32) from rfl, Int32.add_zero, up_self]
theorem anx_c {x : Ent} : (anx B x).c = B.c := by
  unfold anx
  split <;> rfl
theorem fold_c : ∀ (an : List Ent) (B : AS), (an.foldl anx B).c = B.c
  | [], B => rfl
  | a :: an, B => by rw [List.foldl_cons, fold_c an, anx_c]
theorem wo_d : (woS S).k = S.k ∧ (woS S).l = S.l ∧ (woS S).v = S.v ∧ (woS S).cm = S.cm ∧ (woS S).h = S.h ∧ (woS S).t = S.t := by
  unfold woS
  refine ⟨?_, ?_, ?_, ?_, ?_, ?_⟩
  · rw [RS.k_sc, RS.k_sw, RS.k_sP]
  · rw [RS.l_sc, RS.l_sw, RS.l_sP]
  · rw [RS.v_sc, RS.v_sw, RS.v_sP]
  · rw [RS.cm_sc, RS.cm_sw, RS.cm_sP]
  · rw [RS.h_sc, RS.h_sw, RS.h_sP]
  · rw [RS.t_sc, RS.t_sw, RS.t_sP]
theorem wo_sub {y : Nat} (hp : p < 97) (hy : y ∈ (woS S).P p) : ∃ r, r < 97 ∧ y ∈ S.P r := by
  have eP : (woS S).P = woP S := by unfold woS; rw [RS.P_sc, RS.P_sw, RS.P_sP]
  rw [eP] at hy
  unfold woP at hy
  by_cases e1 : p = 96
  · rw [e1, up_same] at hy
    cases hy
  · rw [upN e1] at hy
    by_cases e2 : p = 64 + S.w % 32
    · rw [e2, up_same] at hy
      exact ⟨96, by omega, hy⟩
    · rw [upN e2] at hy
      exact ⟨p, hp, hy⟩
/-- nothing was kept -/
theorem c_mr39n {x1 : Int32} (hst : l.stackTraces = false) (h : MR R m0 S X m) (hA : RA S A ix pn) (hh : S.h = []) (hAI : AI A) (hE : ¬ isE A) (hw : A.w + 5 < 2 ^ 29) (hq : ∀ S' ix' pn' m', MR R m0 S' X m' → RA S' (wop A) ix' pn' → Q (.inl none) m') : WW l G xM_makeRoom 39 [some (vR (some (R 0))), some (vI x1), none, none] [] m 0 0 Q := by
  have hww : A.w = S.w := hA.2.2.2.2.2.2.2.1
  refine bM_makeRoom_39 ⟨h.w.k0, c_MwriteOpen hst h (by omega) (fun m2 h2 => ⟨h2.w.k0, ?_⟩)⟩
  obtain ⟨dk, dl, dv, dc, dh, dt⟩ := wo_d (S := S)
  have hA2 := hA.wo (fun e he => by
    have a1 := (hAI.iy e he).2.2
    have a2 := (hAI.iy e he).2.1
    refine ⟨?_, a2⟩
    by_cases q : A.w % 4 = 0
    · have : ¬ 32 ≤ A.w := fun r => hE ⟨r, q⟩
      omega
    · omega)
  have e20 : gI m2 (R 0) 20 = nI 0 := by rw [h2.hh.1, dh, hh]; rfl
  refine c_Msort hst h2 (by rw [dh, hh]; exact List.nodup_nil) (fun hs m4 hso hpe h4 => ?_)
  show WW _ _ _ _ _ _ _ _ _ _
  rw [e20]
  refine bM_makeRoom_54 ⟨fun _ => ⟨h4.w.k0, fun m5 hm5 => ?_⟩, fun q => absurd (by decide) q⟩
  have h5 := h4.h0
  rw [← hm5] at h5
  have hl0 : (anl A).length = 0 := by
    unfold anl
    rw [if_neg hE]
    rfl
  have e5 : wop A = mA (wro A).Z (wro A).Y (wro A).w (wro A).c (wro A).t := by
    unfold wop
    rw [wo1_nE hE, hl0, cA00]
  refine hq _ ix pn m5 h5 ?_
  rw [e5]
  exact hA2.shS.shS
theorem c_mr39e {x1 : Int32} {S0 : RS} {ix1 : List Nat} (hst : l.stackTraces = false) (h0 : RA S0 A ix pn) (hAI : AI A) (hE : isE A) (h : MR R m0 S X m) (hA : RA S (emp A) ix1 pn) (hH : HI S0 S A ix pn 64) (hw : A.w + 5 < 2 ^ 29) (ht : A.t + 100 < 2 ^ 29) (hq : ∀ S' ix' pn' m', MR R m0 S' X m' → RA S' (wop A) ix' pn' → Q (.inl none) m') : WW l G xM_makeRoom 39 [some (vR (some (R 0))), some (vI x1), none, none] [] m 0 0 Q := by
  obtain ⟨E1, E2, E3⟩ := emp_AI hAI hE
  have hew : (emp A).w = A.w := rfl
  have hww : A.w = S.w := hew.symm.trans hA.2.2.2.2.2.2.2.1
  obtain ⟨H1, H2, H3, H4, H5⟩ := hH
  refine bM_makeRoom_39 ⟨h.w.k0, c_MwriteOpen hst h (by omega) (fun m2 h2 => ⟨h2.w.k0, ?_⟩)⟩
  obtain ⟨dk, dl, dv, dc, dh, dt⟩ := wo_d (S := S)
  have hA2 := hA.wo (fun e he => by
    have a1 := E2 e he
    have a2 := (E1.iy e he).2.1
    rw [hew] at a2 ⊢
    exact ⟨by omega, a2⟩)
  have e20 : gI m2 (R 0) 20 = nI S.h.length := by rw [h2.hh.1, dh]
  have htri : ∀ n, tri (woS S) n = tri S n := fun n => tri_of (by rw [dk]) (by rw [dl]) (by rw [dv]) (by rw [dc])
  refine c_Msort hst h2 (by
    rw [dh, dc]
    rw [List.map_map] at H5
    exact H5) (fun hs m4 hso hpe h4 => ?_)
  rw [dh] at hpe
  rw [dc] at hso
  show WW _ _ _ _ _ _ _ _ _ _
  have hlen : hs.length = S.h.length := hpe.length_eq
  rw [e20, ← hlen]
  have hY0 := h0.2.2.2.1
  generalize hK : ix.filter (fun n => isK A.Y (A.w - 28) (eY S0 pn n)) = kx
  have hanw : anw A = kx.map (eY S0 pn) := by
    unfold anw
    rw [← hK]
    conv => lhs; arg 2; rw [hY0]
    rw [List.filter_map]
    rfl
  have hL : hs.map (tri S) = kx.map (tri S0) := by
    refine srt_eq (fun t => t.1) _ _ ?_ ?_ (fun tr => ?_)
    · rw [List.pairwise_map]
      exact hso
    · rw [List.pairwise_map, ← hK]
      exact h0.2.2.2.2.2.1.sublist List.filter_sublist
    · have : tr ∈ hs.map (tri S) ↔ tr ∈ S.h.map (tri S) := (hpe.map (tri S)).mem_iff
      rw [this, H4 tr, ← hK]
      constructor
      · rintro ⟨n, a1, a2, -, a4⟩
        rw [a4]
        exact List.mem_map_of_mem (List.mem_filter.mpr ⟨a1, a2⟩)
      · intro r
        obtain ⟨n, hn, rfl⟩ := List.mem_map.mp r
        obtain ⟨a1, a2⟩ := List.mem_filter.mp hn
        exact ⟨n, a1, a2, sN_lt _, rfl⟩
  have hmap : hs.map (eL ((woS S).sh hs)) = (anw A).map e0 := by
    have e1 : hs.map (eL ((woS S).sh hs)) = (hs.map (tri S)).map (fun t => mE t.2.1 t.2.2 0 0) := by
      rw [List.map_map]
      apply List.map_congr_left
      intro n _
      have : eL ((woS S).sh hs) = eL S := eL_of (by rw [RS.l_sh, dl]) (by rw [RS.v_sh, dv]) (by rw [RS.k_sh, dk])
      rw [this]
      rfl
    have e2 : (anw A).map e0 = (kx.map (tri S0)).map (fun t => mE t.2.1 t.2.2 0 0) := by
      rw [hanw, List.map_map, List.map_map]
      rfl
    rw [e1, e2, hL]
  have hal : hs.length = (anw A).length := by
    have := congrArg List.length hmap
    simpa using this
  have hhg := h4.hh
  rw [RS.h_sh] at hhg
  have hwop : wop A = mA ((anw A).foldl anx (wro (emp A))).Z ((anw A).foldl anx (wro (emp A))).Y ((anw A).foldl anx (wro (emp A))).w (cA (wro (emp A)).c 10 (nI hs.length)) ((anw A).foldl anx (wro (emp A))).t := by
    have e1 : wo1 A = (anw A).foldl anx (wro (emp A)) := by
      unfold wo1 anl
      rw [if_pos hE, if_pos hE]
    have e2 : (anl A).length = hs.length := by
      unfold anl
      rw [if_pos hE]
      exact hal.symm
    unfold wop
    rw [e2, e1, fold_c]
  have hst' : ((woS S).sh hs).t = A.t := by
    rw [RS.t_sh, dt]
    exact hA.2.2.2.2.2.2.2.2.1.symm
  refine c_mr54 (E := anw A) (hs := hs) (B0 := wro (emp A)) (c0 := (wro (emp A)).c) (w0 := A.w) hst hE.2 hw (hAI.so.sublist List.filter_sublist) (anw_pos hAI hE) (fun x hx => hAI.ly x (anw_mem hx).1) (fun n => anw_page hAI) (by omega) (hpe.nodup_iff.mpr H2) hhg.2.2.2 (fun S' ix' pn' m' h' hA' => hq S' ix' pn' m' h' (by rw [hwop]; exact hA')) hs [] (anw A) [] ((woS S).sh hs) m4 ix1 pn (wro (emp A)) rfl rfl hmap h4 RS.h_sh ?_ (wro_BJ hAI hE) rfl (fun n hn p hp r => ?_) (by rw [hst']; omega)
  · show RA _ (mA _ _ _ (cA (wro (emp A)).c 10 (nI 0)) _) _ _
    rw [cA00]
    exact hA2.shS
  · rw [RS.P_sh] at r
    obtain ⟨t, t1, t2⟩ := wo_sub hp r
    exact H3 n (hpe.mem_iff.mp hn) t t1 t2
theorem c_MmakeRoom (hst : l.stackTraces = false) (h : MR R m0 S X m) (hA : RA S A ix pn) (hAI : AI A) (hw : A.w + 5 < 2 ^ 29) (ht : A.t + 100 < 2 ^ 29) (hq : ∀ S' du' ix' pn' m', MR R m0 S' (mX X.th X.op X.b X.fo du') m' → RA S' (wop A) ix' pn' → Q (.inl none) m') : CC l G xM_makeRoom [vR (some (R 0))] m Q := by
  have hww : A.w = S.w := hA.2.2.2.2.2.2.2.1
  refine bM_makeRoom hst ⟨h.w.k0, fun m2 hm2 => ?_⟩
  have h2 := h.h0
  rw [← hm2] at h2
  have hA2 := hA.shS (z := [])
  have ew2 : gI m2 (R 0) 16 = nI A.w := by rw [h2.wr.1, RS.w_sh, hww]
  have ew : gI m (R 0) 16 = nI A.w := by rw [h.wr.1, hww]
  have em : (gI m2 (R 0) 16) - (gI m2 (R 0) 16) / (4 : Int32) * (4 : Int32) = nI (A.w % 4) := by
    rw [ew2, show (4 : Int32) = nI 4 from rfl, pk_rem (by omega) (by omega) (by omega)]
  have ex : (64 : Int32) + ((gI m (R 0) 16) - (gI m (R 0) 16) / (32 : Int32) * (32 : Int32)) = nI (64 + A.w % 32) := by
    rw [ew, show (32 : Int32) = nI 32 from rfl, pk_rem (by omega) (by omega) (by omega), show (64 : Int32) = nI 64 from rfl, nI_add]
  have hm4 := Nat.mod_lt A.w (show 0 < 4 by omega)
  have hqx : ∀ S' ix' pn' m', MR R m0 S' X m' → RA S' (wop A) ix' pn' → Q (.inl none) m' := fun S' ix' pn' m' h' hA' => hq S' X.du ix' pn' m' h' hA'
  rw [em, ex, ew2]
  have e4 : (nI (A.w % 4) = 0) ↔ A.w % 4 = 0 := by
    rw [show (0 : Int32) = nI 0 from rfl]
    exact nI_eq (by omega) (by omega)
  have e32 : (nI A.w < (32 : Int32)) ↔ A.w < 32 := by
    rw [show (32 : Int32) = nI 32 from rfl]
    exact nI_ltI (by omega) (by omega)
  rw [e4, e32]
  refine ⟨fun q => ?_, fun q => ⟨fun q2 => ?_, fun q2 => ?_⟩⟩
  · exact c_mr39n hst h2 hA2 RS.h_sh hAI (fun r => q r.2) hw hqx
  · exact c_mr39n hst h2 hA2 RS.h_sh hAI (fun r => by have := r.1; omega) hw hqx
  · have hE : isE A := ⟨by omega, q⟩
    refine c_Mempty hst h2 hA2 hAI hE RS.h_sh (fun S' du' m' h' hA' hL' hH' hg' => ?_)
    show WW _ _ _ _ _ _ _ _ _ _
    exact c_mr39e hst hA2 hAI hE h' hA' hH' hw ht (fun S3 ix3 pn3 m3 h3 hA3 => hq S3 du' ix3 pn3 m3 h3 hA3)
end L3L
