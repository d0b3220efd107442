/-! the reference's get -/
section L3P
variable {l : Launch} {G : xG} {Q : XR → XM → Prop} {R : Nat → Nat} {m0 m m' : XM} {S S' S1 S2 : RS} {X X' : RX} {A B : AS} {ix g xs ys zs rest hs0 : List Nat} {pn : Nat → Nat} {n p s i v w0 k x z : Nat} {key : Int64} {c c0 : Nat → Int32}
theorem fIn_u {es : List Ent} {e : Ent} (hn : (es.map Ent.k).Nodup) (he : e ∈ es) (hk : e.k = key) : fIn key es = some e := by
  unfold fIn
  cases r : es.find? (fun e => e.k == key) with
  | none =>
    rw [List.find?_eq_none] at r
    exact absurd (by simpa using hk) (r e he)
  | some e' =>
    have h1 := List.find?_some r
    have h2 := List.mem_of_find?_eq_some r
    rw [nd_inj hn e' h2 e he ((by simpa using h1 : e'.k = key).trans hk.symm)]
def foL (o : Option Ent) : List Int32 := match o with
  | none => []
  | some e => e.v
theorem c_Mget (hst : l.stackTraces = false) (h : MR R m0 S X m) (hA : RA S A ix pn) (hAI : AI A) (hop : X.op = 0 ∨ X.op = 1) (h0 : X.op = 0 → ∀ m', MR R m0 S (mX 1 X.op X.b X.fo X.du) m' → Q (.inl (some (vI 0))) m')
    (h1 : X.op = 1 → ∀ S' m', MR R m0 S' (mX 0 X.op X.b (foL (aFnd key A)) X.du) m' → RA S' (aGet key A) ix pn → Q (.inl (some (vI (aGA key A)))) m') : CC l G xM_get [vR (some (R 0)), vL key] m Q := by
  have hs := sN_lt key
  have hn := (hAI.kz (sN key) hs).1
  have hZ := hA.2.1 _ hs
  refine bM_get hst ⟨h.w.k0, c_Mworks hst h hop (fun o m2 h2 => ⟨fun q => absurd rfl q, fun _ => h0 o m2 h2⟩) (fun o m2 h2 => ⟨fun _ => ⟨h2.w.k0, c_Mnewest hst h2 ?_⟩, fun q => absurd q (by decide)⟩)⟩
  have hq := h1 o
  have hr := rd_iff (key := key) hA
  -- nothing is told
  have none' : ∀ S' mm, MR R m0 S' (mX 0 X.op X.b X.fo X.du) mm → RA S' (aGet key A) ix pn → aFnd key A = none → CC l G xM_tell [vR (some (R 0)), vI (-1 : Int32)] mm (kV (fun m32 => kd m32 (R 0) = some (oB 5) ∧ Q (.inl (some (vI (gI m32 (R 0) 3)))) m32) Q) := by
    intro S' mm hR hA' hf
    refine c_Mtell0 hst hR (fun m3 h3 => ⟨h3.w.k0, ?_⟩)
    have e3 : gI m3 (R 0) 3 = 0 := h3.xx.2.2.2.1
    have := hq S' m3 (by rw [hf]; exact h3) hA'
    unfold aGA at this
    rw [hf] at this
    rw [e3]
    exact this
  have some' : ∀ S' mm n (e : Ent), n < 4096 → MR R m0 S' (mX 0 X.op X.b X.fo X.du) mm → RA S' (aGet key A) ix pn → aFnd key A = some e → e.v = vlS S' n → CC l G xM_tell [vR (some (R 0)), vI (nI n)] mm (kV (fun m32 => kd m32 (R 0) = some (oB 5) ∧ Q (.inl (some (vI (gI m32 (R 0) 3)))) m32) Q) := by
    intro S' mm n e hn4 hR hA' hf hv
    refine c_Mtell hst hR hn4 (fun m3 h3 => ⟨h3.w.k0, ?_⟩)
    have e3 : gI m3 (R 0) 3 = nI (vlS S' n).length := h3.xx.2.2.2.1
    have hfo : foL (aFnd key A) = vlS S' n := by rw [hf]; exact hv
    have := hq S' m3 (by rw [hfo]; exact h3) hA'
    unfold aGA at this
    rw [hf] at this
    rw [e3, ← hv]
    exact this
  rcases hA.newest (key := key) with ⟨e1, e2, e3⟩ | ⟨x, hx, e1, e2, e3⟩
  · rw [e1]
    refine ⟨fun _ => ⟨h2.w.k0, c_Mreads hst h2 (fun r => ?_) (fun r m8 h8 => ?_)⟩, fun q => absurd (by decide) q⟩
    · have b0 : (aBor (A.Z (sN key)) &&& bitF key) = 0 := Classical.byContradiction fun t => by
        have := hr.mpr t
        rw [r] at this
        cases this
      have hg : aGet key A = A := by unfold aGet; rw [e2]; simp only [if_pos b0]
      have hf : aFnd key A = none := by unfold aFnd; rw [e2]; simp only [if_pos b0]
      exact ⟨fun _ => ⟨fun q => absurd q (by decide), fun _ => ⟨fun _ => ⟨h2.w.k0, none' S m2 h2 (by rw [hg]; exact hA) hf⟩, fun q => absurd (by decide) q⟩⟩, fun q => absurd rfl q⟩
    · have b0 := hr.mp r
      have hA8 := hA.cnt (k := 9) 1 (by omega) (by omega)
      have hg : aGet key A = mA (up A.Z (sN key) (mk1 key (A.Z (sN key)))) A.Y A.w (cA A.c 9 1) A.t := by unfold aGet; rw [e2]; simp only [if_neg b0]
      have hf : aFnd key A = fIn key (A.Z (sN key)) := by unfold aFnd; rw [e2]; simp only [if_neg b0]
      refine ⟨fun q => absurd q (by decide), fun _ => ⟨h8.w.k0, c_MinSet hst h8 ?_⟩⟩
      rw [RS.k_sc, RS.P_sc]
      rcases lsI_spec (f := fun n => S.k n == key) (S.P (sN key)) 0 (-1) with ⟨a1, a2⟩ | ⟨j, z, a1, a2, a3⟩
      · rw [a2]
        have hno : ∀ e ∈ A.Z (sN key), e.k ≠ key := fun e he => by
          rw [hZ] at he
          obtain ⟨n, hn', rfl⟩ := List.mem_map.mp he
          rw [eZ_k]
          have := a1 n hn'
          simpa using this
        have hf' : aFnd key A = none := by
          rw [hf]
          unfold fIn
          rw [List.find?_eq_none]
          intro e he
          simpa using hno e he
        have hg' : aGet key A = mA A.Z A.Y A.w (cA A.c 9 1) A.t := by rw [hg, mk1_no hno, up_self]
        exact ⟨fun q => absurd q (by decide), fun _ => ⟨fun _ => ⟨h8.w.k0, none' _ m8 h8 (by rw [hg']; exact hA8) hf'⟩, fun q => absurd (by decide) q⟩⟩
      · rw [a3, Nat.zero_add]
        have hjl := (List.getElem?_eq_some_iff.mp a1).1
        have hj8 := (h.sz (p := sN key) (by omega)).2
        have hzP := List.mem_of_getElem? a1
        have hkz : S.k z = key := by simpa using a2
        obtain ⟨hat, hz4⟩ := h8.at (p := sN key) (i := j) (n := z) (by omega) (by rw [RS.P_sc]; exact a1)
        refine ⟨fun _ => ⟨h8.w.k0, c_MsetOfKey hst ⟨R 15, h8.w.r15, 776, h8.w.k15, ?_, ?_, ?_⟩⟩, fun q => absurd (nI_n0 (by omega)) q⟩
        · rw [setF_n, n8]
          exact vp_in_nI (by omega) (by omega)
        · intro q
          rw [setF_n, n8, nI_clamp (by omega), hat] at q
          exact absurd q (nI_nn (by omega))
        · intro _
          refine ⟨h8.w.k0, R 12, h8.w.r12, 4096, h8.w.k12, ?_, fun m65 hm65 => ?_⟩
          · rw [setF_n, n8, nI_clamp (by omega), hat]
            exact vp_in_nI hz4 (by omega)
          · rw [setF_n, n8, nI_clamp (by omega), hat, nI_clamp (by omega)] at hm65
            rw [setF_n, n8, nI_clamp (by omega), hat]
            have h65 := h8.sMk hz4 1
            rw [← hm65] at h65
            have hA65 := hA8.mkz (key := key) (z := z) hn (by rw [RS.P_sc]; exact hzP) (by rw [RS.k_sc]; exact hkz)
            refine some' _ m65 z (eZ S z) hz4 h65 ?_ ?_ ?_
            · rw [hg]
              exact hA65
            · rw [hf]
              exact fIn_u hn (by rw [hZ]; exact List.mem_map_of_mem hzP) hkz
            · rw [vlS_of (S := S) (by rw [RS.l_smk, RS.l_sc]) (by rw [RS.v_smk, RS.v_sc])]
              rfl
  · rw [e2]
    have hx4 := h.lt ((hA.2.2.2.2.1 x).mp hx).1
    have hym : eY S pn x ∈ A.Y := by rw [hA.2.2.2.1]; exact List.mem_map_of_mem hx
    have hfy : fIn key A.Y = some (eY S pn x) := fIn_u hAI.ky hym e1
    have hf : aFnd key A = some (eY S pn x) := by unfold aFnd; rw [hfy]
    have hple := (hAI.iy _ hym).2.1
    have hple' : pn x ≤ A.w := hple
    refine ⟨fun q => absurd q (nI_nn (by omega)), fun _ => ⟨h2.w.k0, R 10, h2.w.r10, 4096, h2.w.k10, vp_in_nI hx4 (by omega), fun m90 hm90 => ?_⟩⟩
    rw [nI_clamp (by omega)] at hm90
    have h90 := h2.sGt hx4 1
    rw [← hm90] at h90
    have hA90 := hA.mky hAI.ky hx e1
    have hpl := pl_lt (w := A.w) (p := pn x)
    have hpg := hA90.pgo hx
    rw [mA_w] at hpg
    refine c_MpageOf hst h90 hx4 ?_
    rw [hpg]
    show ((96 : Int32) ≤ nI (pl A.w (pn x)) → _) ∧ (¬ (96 : Int32) ≤ nI (pl A.w (pn x)) → _)
    rw [show (96 : Int32) = nI 96 from rfl, nI_leI (by omega) (by omega)]
    have hpw : 96 ≤ pl A.w (pn x) ↔ pn x = A.w := by
      unfold pl
      constructor
      · intro r
        refine Classical.byContradiction fun t => ?_
        rw [if_neg t] at r
        have := Nat.mod_lt (pn x) (show 0 < 32 by omega)
        omega
      · intro r
        rw [if_pos r]
        exact Nat.le_refl _
    have hvl : (eY S pn x).v = vlS (S.sgt (up S.gt x 1)) x := by
      rw [vlS_of (S := S) RS.l_sgt RS.v_sgt]
      rfl
    refine ⟨fun q => ⟨h90.w.k0, some' _ m90 x (eY S pn x) hx4 h90 ?_ hf hvl⟩, fun q => ⟨h90.w.k0, R 23, h90.w.r23, 13, h90.w.k23, vp_in_nI (n := 9) (by omega) (by omega), vp_in_nI (n := 9) (by omega) (by omega), fun m103 hm103 => ?_⟩⟩
    · have hpe : (eY S pn x).p = A.w := hpw.mp q
      have hg : aGet key A = mA A.Z (mk1 key A.Y) A.w A.c A.t := by
        unfold aGet
        rw [hfy]
        simp only [if_pos hpe]
      rw [hg]
      exact hA90
    · have hpe : ¬ (eY S pn x).p = A.w := fun r => q (hpw.mpr r)
      have hg : aGet key A = mA A.Z (mk1 key A.Y) A.w (cA A.c 9 1) A.t := by
        unfold aGet
        rw [hfy]
        simp only [if_neg hpe]
      rw [show (9 : Int32).toNatClampNeg = 9 from rfl, h90.cn (by omega)] at hm103
      have h103 := h90.sCnt (n := 9) (by omega) ((S.sgt (up S.gt x 1)).c 9 + 1)
      rw [← hm103] at h103
      have hA103 := hA90.cnt (k := 9) 1 (by omega) (by omega)
      refine some' _ m103 x (eY S pn x) hx4 h103 ?_ hf ?_
      · rw [hg]
        exact hA103
      · rw [vlS_of (S := S) (by rw [RS.l_sc, RS.l_sgt]) (by rw [RS.v_sc, RS.v_sgt])]
        rfl
end L3P
