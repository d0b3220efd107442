/-! the reference empties a segment: the whole -/
section L3G
variable {l : Launch} {G : xG} {Q : XR → XM → Prop} {R : Nat → Nat} {m0 m m' : XM} {S S' S1 S2 : RS} {X X' : RX} {A B : AS} {ix g xs ys zs : List Nat} {pn : Nat → Nat} {n p s i x v : Nat} {key : Int64} {c : Nat → Int32}
theorem RA.pls (hA : RA S A ix pn) (hAI : AI A) (hE : isE A) (hn : n ∈ ix) : (∃ q, 64 + A.w % 32 ≤ q ∧ q < 64 + A.w % 32 + 4 ∧ n ∈ S.P q) ↔ pn n < A.w - 28 := by
  have hm : eY S pn n ∈ A.Y := by rw [hA.2.2.2.1]; exact List.mem_map_of_mem hn
  obtain ⟨-, h2, h3⟩ := hAI.iy _ hm
  have h2' : pn n ≤ A.w := h2
  have h3' : 4 * ((A.w + 3) / 4) ≤ pn n + 32 := h3
  have hp := (hA.2.2.2.2.2.2.1 n hn).1
  have hE1 := hE.1
  have hE2 := hE.2
  constructor
  · rintro ⟨q, a1, a2, a3⟩
    have hpl := pl_lt (w := A.w) (p := pn n)
    have e : pl A.w (pn n) = q := Classical.byContradiction fun r => hA.1.2 _ _ (by omega) (by omega) r n hp a3
    unfold pl at e
    split at e
    · omega
    · omega
  · intro h
    refine ⟨pl A.w (pn n), ?_, ?_, hp⟩
    · unfold pl
      rw [if_neg (by omega)]
      omega
    · unfold pl
      rw [if_neg (by omega)]
      omega
theorem RA.due (hA : RA S A ix pn) (hAI : AI A) (hE : isE A) {t : Nat} : (∃ n ∈ pgs S.P (64 + A.w % 32) 4, S.nw n ≠ 0 ∧ sN (S.k n) = t) ↔ due A.Y (A.w - 28) t = true := by
  rw [due_iff, hA.2.2.2.1]
  constructor
  · rintro ⟨n, a1, a2, a3⟩
    obtain ⟨q, b1, b2, b3⟩ := (pgs_mem 4 _).mp a1
    have hix : n ∈ ix := (hA.2.2.2.2.1 n).mpr ⟨lgs_mem.mpr ⟨q, by omega, by have := hE.2; omega, b3⟩, a2⟩
    exact ⟨eY S pn n, List.mem_map_of_mem hix, (hA.pls hAI hE hix).mp ⟨q, b1, b2, b3⟩, a3⟩
  · rintro ⟨y, hy, a2, a3⟩
    obtain ⟨n, hn, rfl⟩ := List.mem_map.mp hy
    obtain ⟨q, b1, b2, b3⟩ := (hA.pls hAI hE hn).mpr a2
    exact ⟨n, (pgs_mem 4 _).mpr ⟨q, b1, b2, b3⟩, ((hA.2.2.2.2.1 n).mp hn).2, a3⟩
theorem c_Mempty (hst : l.stackTraces = false) (h : MR R m0 S X m) (hA : RA S A ix pn) (hAI : AI A) (hE : isE A) (hh : S.h = [])
    (hq : ∀ S' du' m', MR R m0 S' (mX X.th X.op X.b X.fo du') m' → RA S' (emp A) (fl (fun n => sN (S.k n)) (due A.Y (A.w - 28)) 64 ix) pn → Lk S S' → HI S S' A ix pn 64 → S'.g = [] → Q (.inl none) m') : CC l G xM_empty [vR (some (R 0)), vI (nI (64 + A.w % 32))] m Q := by
  have hE2 := hE.2
  refine bM_empty hst ?_
  -- what comes behind the pages
  have out : ∀ k p mm du dn, p + k = 64 + A.w % 32 + 4 → MR R m0 S (mX X.th X.op X.b X.fo du) mm → (∀ t, t < 64 → (du t ≠ 0 ↔ ∃ n ∈ dn, S.nw n ≠ 0 ∧ sN (S.k n) = t)) → dn ++ pgs S.P p k = pgs S.P (64 + A.w % 32) 4 → WW l G xM_empty 23 [some (vR (some (R 0))), some (vI (nI (64 + A.w % 32))), some (vI (nI p)), none] [] mm 0 0 Q := by
    intro k
    induction k with
    | zero =>
      intro p mm du dn e hR hdu hd
      rw [pgs, List.append_nil] at hd
      subst hd
      refine bM_empty_23 ⟨fun _ => ?_, fun q => ?_⟩
      · refine c_mt100 (S := S) (A := A) (ix := ix) (pn := pn) hst hA hAI (fun t ht => ?_) (fun S' m' h' hA' hL' hH' hg' => hq S' du m' h' hA' hL' hH' hg') 64 0 S mm rfl hR ?_ Lk.rf ?_
        · show du t ≠ 0 ↔ _
          rw [hdu t ht]
          exact hA.due hAI hE
        · rw [Cs_0, fl_0]
          exact hA
        · refine ⟨by rw [hh]; exact Nat.zero_le _, by rw [hh]; exact List.nodup_nil, fun n hn => ?_, fun tr => ?_, by rw [hh]; exact List.nodup_nil⟩
          · rw [hh] at hn
            cases hn
          · rw [hh]
            constructor
            · intro r
              cases r
            · rintro ⟨n, -, -, a3, -⟩
              omega
      · rw [show (4 : Int32) = nI 4 from rfl, nI_add, nI_leI (by omega) (by omega)] at q
        omega
    | succ k ih =>
      intro p mm du dn e hR hdu hd
      have hp : p < 97 := by omega
      refine bM_empty_23 ⟨fun q => ?_, fun _ => ?_⟩
      · rw [show (4 : Int32) = nI 4 from rfl, nI_add, nI_leI (by omega) (by omega)] at q
        omega
      have inn : ∀ zs ys mm du dn, ys ++ zs = S.P p → MR R m0 S (mX X.th X.op X.b X.fo du) mm → (∀ t, t < 64 → (du t ≠ 0 ↔ ∃ n ∈ dn, S.nw n ≠ 0 ∧ sN (S.k n) = t)) → dn ++ (zs ++ pgs S.P (p + 1) k) = pgs S.P (64 + A.w % 32) 4 → WW l G xM_empty 32 [some (vR (some (R 0))), some (vI (nI (64 + A.w % 32))), some (vI (nI p)), some (vI (nI ys.length))] [] mm 0 0 Q := by
        intro zs
        induction zs with
        | nil =>
          intro ys mm du dn e hR hdu hd
          obtain ⟨hs1, hs2⟩ := hR.sz hp
          rw [List.append_nil] at e
          refine bM_empty_32 ⟨hR.w.k0, R 14, hR.w.r14, 97, hR.w.k14, vp_in_nI hp (by omega), fun _ => ?_, fun q => ?_⟩
          · rw [nI_1]
            exact ih (p + 1) mm du dn (by omega) hR hdu hd
          · rw [nI_clamp (by omega), hs1, e] at q
            exact absurd Int32.le_rfl q
        | cons z zs ih2 =>
          intro ys mm du dn e hR hdu hd
          obtain ⟨hs1, hs2⟩ := hR.sz hp
          have hlt : ys.length < (S.P p).length := by rw [← e]; simp
          obtain ⟨ha, hz⟩ := hR.at hp (at_mid e)
          have hd' : (dn ++ [z]) ++ (zs ++ pgs S.P (p + 1) k) = pgs S.P (64 + A.w % 32) 4 := by rw [List.append_assoc]; exact hd
          have nx := fun mm du => ih2 (ys ++ [z]) mm du (dn ++ [z]) (by rw [List.append_assoc]; exact e)
          rw [List.length_append] at nx
          refine bM_empty_32 ⟨hR.w.k0, R 14, hR.w.r14, 97, hR.w.k14, vp_in_nI hp (by omega), fun q => ?_, fun _ => ⟨R 15, hR.w.r15, 776, hR.w.k15, ?_, R 9, hR.w.r9, 4096, hR.w.k9, ?_, fun q => ?_, fun q => ⟨?_, R 6, hR.w.r6, 4096, hR.w.k6, ?_, ?_⟩⟩⟩
          · rw [nI_clamp (by omega), hs1, nI_leI (by omega) (by omega)] at q
            omega
          · rw [n8]
            exact vp_in_nI (by omega) (by omega)
          · rw [n8, nI_clamp (by omega), ha]
            exact vp_in_nI hz (by omega)
          · rw [n8, nI_clamp (by omega), ha, nI_clamp (by omega), hR.nw hz] at q
            rw [nI_1]
            refine nx mm du hR (fun t ht => ?_) hd'
            rw [hdu t ht]
            constructor
            · rintro ⟨n, a1, a2⟩
              exact ⟨n, List.mem_append_left _ a1, a2⟩
            · rintro ⟨n, a1, a2⟩
              rcases List.mem_append.mp a1 with r | r
              · exact ⟨n, r, a2⟩
              · simp at r
                rw [r] at a2
                exact absurd q a2.1
          · rw [n8]
            exact vp_in_nI (by omega) (by omega)
          · rw [n8, nI_clamp (by omega), ha]
            exact vp_in_nI hz (by omega)
          · rw [n8, nI_clamp (by omega), ha, nI_clamp (by omega), hR.nw hz] at q
            rw [n8, nI_clamp (by omega), ha, nI_clamp (by omega), hR.key hz]
            have hsz := sN_lt (S.k z)
            refine c_MsetOfKey hst ⟨R 22, hR.w.r22, 64, hR.w.k22, ?_, fun m30 hm30 => ?_⟩
            · rw [setF_n]
              exact vp_in_nI hsz (by omega)
            · rw [setF_n, nI_clamp (by omega)] at hm30
              have h30 := hR.s22 (n := sN (S.k z)) 1
              rw [← hm30] at h30
              rw [nI_1]
              refine nx m30 (up du (sN (S.k z)) 1) h30 (fun t ht => ?_) hd'
              by_cases r : t = sN (S.k z)
              · rw [r, up_same]
                exact ⟨fun _ => ⟨z, by simp, q, rfl⟩, fun _ => by decide⟩
              · rw [up, if_neg r, hdu t ht]
                constructor
                · rintro ⟨n, a1, a2⟩
                  exact ⟨n, List.mem_append_left _ a1, a2⟩
                · rintro ⟨n, a1, a2⟩
                  rcases List.mem_append.mp a1 with r2 | r2
                  · exact ⟨n, r2, a2⟩
                  · simp at r2
                    rw [r2] at a2
                    exact absurd a2.2.symm r
      exact inn (S.P p) [] mm du dn rfl hR hdu hd
  have l2 : ∀ k i mm du, i + k = 64 → MR R m0 S (mX X.th X.op X.b X.fo du) mm → (∀ t, t < i → du t = 0) → WW l G xM_empty 2 [some (vR (some (R 0))), some (vI (nI (64 + A.w % 32))), some (vI (nI i)), none] [] mm 0 0 Q := by
    intro k
    induction k with
    | zero =>
      intro i mm du e hR hdu
      have e' : i = 64 := by omega
      subst e'
      exact bM_empty_2 ⟨fun _ => out 4 (64 + A.w % 32) mm du [] rfl hR (fun t ht => ⟨fun r => absurd (hdu t ht) r, fun ⟨n, hn, _⟩ => nomatch hn⟩) rfl, fun q => absurd Int32.le_rfl q⟩
    | succ k ih =>
      intro i mm du e hR hdu
      refine bM_empty_2 ⟨fun q => ?_, fun _ => ⟨hR.w.k0, R 22, hR.w.r22, 64, hR.w.k22, vp_in_nI (by omega) (by omega), fun m7 hm7 => ?_⟩⟩
      · rw [show (64 : Int32) = nI 64 from rfl, nI_leI (by omega) (by omega)] at q
        omega
      · rw [nI_clamp (by omega)] at hm7
        have h7 := hR.s22 (n := i) 0
        rw [← hm7] at h7
        rw [nI_1]
        refine ih (i + 1) m7 (up du i 0) (by omega) h7 (fun t ht => ?_)
        by_cases r : t = i
        · rw [r, up_same]
        · rw [up, if_neg r]
          exact hdu t (by omega)
  exact l2 64 0 m X.du rfl h (fun t ht => absurd ht (by omega))
end L3G
