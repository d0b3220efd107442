def tk (m : XM) (e : Int32) (xs : List Nat) (a : Nat) : Bool := (m.2.1 a 5 != 0) && (decide (m.2.1 a 4 < e) && (xs.countP (fun b => m.2.1 b 2 == m.2.1 a 2) == 1))
def sbs (m : XM) (e : Int32) (ys : List Nat) : Int64 := ys.foldl (fun t a => if m.2.1 a 4 < e then t ||| jshl (1 : Int64) (m.2.1 a 2) else t) 0
section L2n
variable {l : Launch} {G : xG} {m : XM} {Q : XR → XM → Prop} {a ix ia ps tt : Nat} {xs ys zs : List Nat} {key : Int64}
theorem c_setsBefore {e : Int32} (hst : l.stackTraces = false) (hp : IxOK m ix ia ps xs) (hq : Q (.inl (some (vL (sbs m e xs)))) m) : CC l G xI_setsBefore [vR (some ix), vI e] m Q := by
  have hl := hp.2.2.2.2.2.2.1
  have hsz : gI m ix 2 = nI xs.length := hp.2.2.2.2.2.1
  refine bI_setsBefore hst ?_
  have loop : ∀ zs ys, ys ++ zs = xs → WW l G xI_setsBefore 5 [some (vR (some ix)), some (vI e), some (vL (sbs m e ys)), none, some (vI (nI ys.length))] [] m 0 0 Q := by
    intro zs
    induction zs with
    | nil =>
      intro ys h
      rw [List.append_nil] at h
      subst h
      refine bI_setsBefore_5 ⟨hp.1, fun _ => hq, fun h => ?_⟩
      rw [hsz] at h
      exact absurd (nI_le (Nat.le_refl _) (by omega)) h
    | cons z zs ih =>
      intro ys h
      have hlen : ys.length < xs.length := by rw [← h]; simp
      have hz : m.2.2.2 ia ys.length = some z := by
        rw [← h] at hp
        exact hp.at
      have hcl : (nI ys.length).toNatClampNeg = ys.length := nI_clamp (by omega)
      have := ih (ys ++ [z]) (by rw [List.append_assoc]; exact h)
      rw [show sbs m e (ys ++ [z]) = if m.2.1 z 4 < e then sbs m e ys ||| jshl (1 : Int64) (m.2.1 z 2) else sbs m e ys by simp [sbs], List.length_append] at this
      refine bI_setsBefore_5 ⟨hp.1, fun h => ?_, fun _ => ⟨ia, hp.2.1, 264, hp.2.2.1, vp_in_nI (by omega) (by omega), z, by rw [hcl]; exact hz, (hp.2.2.2.2.2.2.2.2.1 z (by rw [← h]; simp)).1, fun hc => ?_, fun hc => ⟨vp_in_nI (by omega) (by omega), ?_⟩⟩⟩
      · rw [hsz] at h
        exact absurd h (nI_ge hlen (by omega))
      · rw [if_neg (Int32.not_lt.mpr hc)] at this
        rw [nI_1]
        exact this
      · rw [if_pos (Int32.not_le.mp hc)] at this
        rw [nI_1]
        exact this
  exact loop xs [] rfl
theorem c_takeGotAlone {e : Int32} {n0 : Nat} (hst : l.stackTraces = false) (hp : IxOK m ix ia ps xs) (ht : kd m tt = some (aR 3 n0)) (hn0 : n0 < 2 ^ 30) (hta : tt ≠ ia) (hfit : (xs.filter (tk m e xs)).length ≤ n0)
    (hq : ∀ m', Fr (fun b => XF ix ia ps b ∨ b = tt) m m' → IxOK m' ix ia ps (xs.filter (fun a => !tk m e xs a)) → (∀ i, i < (xs.filter (tk m e xs)).length → gR m' tt i = (xs.filter (tk m e xs))[i]?) → Q (.inl (some (vI (nI (xs.filter (tk m e xs)).length)))) m') : CC l G xI_takeGotAlone [vR (some ix), vI e, vR (some tt)] m Q := by
  obtain ⟨n1, n2, n3⟩ := hp.nes
  have hl := hp.2.2.2.2.2.2.1
  have hsz : gI m ix 2 = nI xs.length := hp.2.2.2.2.2.1
  have htx : tt ≠ ix := fun h => by
    have := ht.symm.trans (h ▸ hp.1)
    cases this
  have htp : tt ≠ ps := fun h => by
    have := ht.symm.trans (h ▸ hp.2.2.2.2.1)
    cases this
  generalize hf : tk m e xs = f at *
  have hfd : ∀ a, f a = ((m.2.1 a 5 != 0) && (decide (m.2.1 a 4 < e) && (xs.countP (fun b => m.2.1 b 2 == m.2.1 a 2) == 1))) := fun a => by rw [← hf]; rfl
  refine bI_takeGotAlone hst ?_
  have loop : ∀ (zs ys : List Nat) (mm : XM), ys ++ zs = xs → Fr (fun b => XF ix ia ps b ∨ b = tt) m mm → (∀ k, gR mm ix k = gR m ix k) → gI mm ix 2 = nI xs.length → (∀ i, i < (ys.filter (fun a => !f a)).length → gR mm ia i = (ys.filter (fun a => !f a))[i]?) → (∀ i, ys.length ≤ i → i < xs.length → gR mm ia i = xs[i]?) → (∀ t, t < 64 → gI mm ps t = nI (cnt m t (ys.filter (fun a => !f a) ++ zs))) → (∀ i, i < (ys.filter f).length → gR mm tt i = (ys.filter f)[i]?) →
      WW l G xI_takeGotAlone 8 [some (vR (some ix)), some (vI e), some (vR (some tt)), some (vI (nI (ys.filter (fun a => !f a)).length)), some (vI (nI (ys.filter f).length)), some (vI (nI ys.length)), none] [] mm 0 0 Q := by
    intro zs
    induction zs with
    | nil =>
      intro ys mm h ff g1 g2 g3 g4 g5 g6
      rw [List.append_nil] at h
      subst h
      have hK : (ys.filter (fun a => !f a)).length ≤ ys.length := List.length_filter_le _ _
      refine bI_takeGotAlone_8 ⟨(ff.kd ix).trans hp.1, fun _ => ?_, fun h => ?_⟩
      · refine c_shrinkTo (len := ys.length) hst ((ff.kd ix).trans hp.1) ((g1 0).trans hp.2.1) ((ff.kd ia).trans hp.2.2.1) g2 hK hl (fun m' f' k1 k2 k3 => ?_)
        have fm : Fr (fun b => XF ix ia ps b ∨ b = tt) m m' := ff.tr (f'.mono (fun b hb => Or.inl (hb.imp id (fun q => Or.inl q))))
        have hit : ∀ a ∈ ys.filter (fun a => !f a), Itm m a := fun a ha => hp.2.2.2.2.2.2.2.2.1 a (List.mem_filter.mp ha).1
        have hnf : ∀ a ∈ ys.filter (fun a => !f a), ¬ (XF ix ia ps a ∨ a = tt) := fun a ha => by
          rintro (h | h)
          · exact (hit a ha).nXF hp h
          · subst h
            have := ht.symm.trans (hit a ha).1
            cases this
        have hps : ¬ (ps = ix ∨ ps = ia) := by
          rintro (h | h)
          · exact n2 h.symm
          · exact n3 h.symm
        have htt : ¬ (tt = ix ∨ tt = ia) := by
          rintro (h | h)
          · exact htx h
          · exact hta h
        refine hq m' fm ⟨(fm.kd ix).trans hp.1, ((k1 0).trans (g1 0)).trans hp.2.1, (fm.kd ia).trans hp.2.2.1, ((k1 1).trans (g1 1)).trans hp.2.2.2.1, (fm.kd ps).trans hp.2.2.2.2.1, k2, by omega, fun i hi => (k3 i hi).trans (g3 i hi), fun a ha => (hit a ha).fr fm (hnf a ha), fun t ht' => ?_⟩ (fun i hi => (f'.gR htt i).trans (g6 i hi))
        rw [cnt_fr fm hnf]
        have := g5 t ht'
        rw [List.append_nil] at this
        exact (f'.gI hps t).trans this
      · rw [g2] at h
        exact absurd (nI_le (Nat.le_refl _) (by omega)) h
    | cons z zs ih =>
      intro ys mm h ff g1 g2 g3 g4 g5 g6
      have hlt : ys.length < xs.length := by rw [← h]; simp
      have hzx : z ∈ xs := by rw [← h]; simp
      have hz : Itm m z := hp.2.2.2.2.2.2.2.2.1 z hzx
      have hzf : ¬ (XF ix ia ps z ∨ z = tt) := by
        rintro (h | h)
        · exact hz.nXF hp h
        · subst h
          have := ht.symm.trans hz.1
          cases this
      obtain ⟨s0, hs0, hzs⟩ := hz.set
      have hK : (ys.filter (fun a => !f a)).length ≤ ys.length := List.length_filter_le _ _
      have hT : (ys.filter f).length ≤ ys.length := List.length_filter_le _ _
      have hcl : (nI ys.length).toNatClampNeg = ys.length := nI_clamp (by omega)
      have hat : gR mm ia ys.length = some z := by
        rw [g4 ys.length (Nat.le_refl _) hlt, ← h]
        simp
      have hi5 : gI mm z 5 = m.2.1 z 5 := ff.gI hzf 5
      have hi4 : gI mm z 4 = m.2.1 z 4 := ff.gI hzf 4
      have hi2 : gI mm z 2 = nI s0 := (ff.gI hzf 2).trans hzs
      -- the count of z's set, in all and in what is left
      have hcx : xs.countP (fun b => m.2.1 b 2 == m.2.1 z 2) = cnt m s0 (ys.filter (fun a => !f a) ++ z :: zs) := by
        have e1 : xs.countP (fun b => m.2.1 b 2 == m.2.1 z 2) = cnt m s0 xs := by unfold cnt; rw [hzs]
        have e2 : cnt m s0 ys = cnt m s0 (ys.filter f) + cnt m s0 (ys.filter (fun a => !f a)) := List.countP_eq_countP_filter_add _ _ _
        have e3 : cnt m s0 (ys.filter f) = 0 := by
          unfold cnt
          rw [List.countP_eq_zero]
          intro t htm hts
          obtain ⟨ht1, ht2⟩ := List.mem_filter.mp htm
          have hts' : m.2.1 t 2 = nI s0 := by simpa using hts
          rw [hfd, hts', ← hzs] at ht2
          simp at ht2
          have ht3 := ht2.2.2
          have : 1 ≤ cnt m s0 ys := by
            unfold cnt
            exact List.countP_pos_iff.mpr ⟨t, ht1, hts⟩
          have h5 : cnt m s0 xs = cnt m s0 ys + cnt m s0 (z :: zs) := by rw [← h, cnt_app]
          have h6 : 1 ≤ cnt m s0 (z :: zs) := by
            unfold cnt
            exact List.countP_pos_iff.mpr ⟨z, List.mem_cons_self, by simp [hzs]⟩
          rw [e1] at ht3
          omega
        rw [e1, ← h, cnt_app, e2, e3, cnt_app]
        omega
      have hps0 := g5 s0 hs0
      have hbig : cnt m s0 (ys.filter (fun a => !f a) ++ z :: zs) < 2 ^ 31 := by
        have : cnt m s0 (ys.filter (fun a => !f a) ++ z :: zs) ≤ (ys.filter (fun a => !f a) ++ z :: zs).length := cnt_le
        have hx : (ys ++ z :: zs).length = xs.length := by rw [h]
        simp at this hx
        omega
      -- kept
      have keep : f z = false → WW l G xI_takeGotAlone 8 [some (vR (some ix)), some (vI e), some (vR (some tt)), some (vI (nI ((ys.filter (fun a => !f a)).length + 1))), some (vI (nI (ys.filter f).length)), some (vI (nI (ys.length + 1))), none] [] (mR mm ia (ys.filter (fun a => !f a)).length (some z)) 0 0 Q := by
        intro hfz
        have e1 : (ys ++ [z]).filter (fun a => !f a) = ys.filter (fun a => !f a) ++ [z] := by simp [List.filter_append, hfz]
        have e2 : (ys ++ [z]).filter f = ys.filter f := by simp [List.filter_append, hfz]
        have := ih (ys ++ [z]) (mR mm ia (ys.filter (fun a => !f a)).length (some z)) (by rw [List.append_assoc]; exact h) (ff.tr (frR _ _ (Or.inl (Or.inr (Or.inl rfl))))) (fun k => by
            rw [← g1 k]
            simp [gI, gL, gR, mR, n1]) g2 (fun i hi => by
            rw [e1] at hi ⊢
            simp at hi
            by_cases he : i = (ys.filter (fun a => !f a)).length
            · subst he
              simp [gI, gL, gR, mR]
            · rw [List.getElem?_append_left (by omega), ← g3 i (by omega)]
              simp [gI, gL, gR, mR, he]) (fun i h1 h2 => by
            simp at h1
            rw [← g4 i (by omega) h2]
            have : i ≠ (ys.filter (fun a => !f a)).length := by omega
            simp [gI, gL, gR, mR, this]) (fun t ht' => by
            rw [e1, List.append_assoc]
            exact g5 t ht') (fun i hi => by
            rw [e2] at hi ⊢
            rw [← g6 i hi]
            simp [gI, gL, gR, mR, hta])
        rw [e1, e2] at this
        simpa using this
      refine bI_takeGotAlone_8 ⟨(ff.kd ix).trans hp.1, fun h => ?_, fun _ => ⟨ia, (g1 0).trans hp.2.1, 264, (ff.kd ia).trans hp.2.2.1, vp_in_nI (by omega) (by omega), z, by rw [hcl]; exact hat, (ff.kd z).trans hz.1, fun hc => ?_, fun hc => ⟨fun hc2 => ?_, fun hc2 => ⟨ps, (g1 1).trans hp.2.2.2.1, 64, (ff.kd ps).trans hp.2.2.2.2.1, by rw [hi2]; exact vp_in_nI (by omega) (by omega), fun hc3 => ?_, fun hc3 => ?_⟩⟩⟩⟩
      · rw [g2] at h
        exact absurd h (nI_ge hlt (by omega))
      · refine ⟨vp_in_nI (by omega) (by omega), ?_⟩
        rintro m12 rfl
        rw [nI_1, nI_1, nI_clamp (by omega)]
        refine keep ?_
        rw [hfd]
        rw [hi5] at hc
        simp [hc]
      · refine ⟨vp_in_nI (by omega) (by omega), ?_⟩
        rintro m12 rfl
        rw [nI_1, nI_1, nI_clamp (by omega)]
        refine keep ?_
        rw [hfd]
        rw [hi4] at hc2
        have : ¬ m.2.1 z 4 < e := Int32.not_lt.mpr hc2
        simp [this]
      · refine ⟨vp_in_nI (by omega) (by omega), ?_⟩
        rintro m12 rfl
        rw [nI_1, nI_1, nI_clamp (by omega)]
        refine keep ?_
        rw [hfd, hcx]
        rw [hi2, nI_clamp (by omega), hps0] at hc3
        have : ¬ cnt m s0 (ys.filter (fun a => !f a) ++ z :: zs) = 1 := fun q => hc3 (by rw [q]; rfl)
        simp [this]
      · rw [hi2, nI_clamp (by omega), hps0] at hc3
        have hone : cnt m s0 (ys.filter (fun a => !f a) ++ z :: zs) = 1 := by
          rw [show (1 : Int32) = nI 1 from rfl, nI_eq hbig (by omega)] at hc3
          exact hc3
        have hfz : f z = true := by
          rw [hfd, hcx, hone]
          rw [hi5] at hc
          rw [hi4] at hc2
          have : m.2.1 z 4 < e := Int32.not_le.mp hc2
          simp [hc, this]
        have e1 : (ys ++ [z]).filter (fun a => !f a) = ys.filter (fun a => !f a) := by simp [List.filter_append, hfz]
        have e2 : (ys ++ [z]).filter f = ys.filter f ++ [z] := by simp [List.filter_append, hfz]
        have hTl : (ys.filter f).length < n0 := by
          have : (xs.filter f).length = (ys.filter f).length + (1 + (zs.filter f).length) := by
            rw [← h, List.filter_append, List.filter_cons, if_pos hfz]
            simp
            omega
          omega
        refine ⟨tt, rfl, n0, (ff.kd tt).trans ht, vp_in_nI hTl (by omega), ?_⟩
        rintro m27 rfl
        refine ⟨ps, ?_, 64, (ff.kd ps).trans hp.2.2.2.2.1, by rw [hi2]; exact vp_in_nI (by omega) (by omega), ?_⟩
        · rw [← show gR m ix 1 = _ from hp.2.2.2.1, ← g1 1]
          simp [gI, gL, gR, mR, htx.symm]
        rintro m33 rfl
        rw [nI_1, nI_1, nI_clamp (by omega), hi2, nI_clamp (by omega)]
        have := ih (ys ++ [z]) (mI (mR mm tt (ys.filter f).length (some z)) ps s0 0) (by rw [List.append_assoc]; exact h) ((ff.tr (frR _ _ (Or.inr rfl))).tr (frI _ _ (Or.inl (Or.inr (Or.inr rfl))))) (fun k => by
            rw [← g1 k]
            simp [gI, gL, gR, mR, mI, htx.symm]) (by
            rw [← g2]
            simp [gI, gL, gR, mR, mI, n2]) (fun i hi => by
            rw [e1] at hi ⊢
            rw [← g3 i hi]
            simp [gI, gL, gR, mR, mI, hta.symm]) (fun i h1 h2 => by
            simp at h1
            rw [← g4 i (by omega) h2]
            simp [gI, gL, gR, mR, mI, hta.symm]) (fun t ht' => by
            rw [e1]
            have hc : ∀ t, cnt m t (ys.filter (fun a => !f a) ++ z :: zs) = cnt m t (ys.filter (fun a => !f a) ++ zs) + cnt m t [z] := fun t => by
              rw [show z :: zs = [z] ++ zs from rfl, cnt_app, cnt_app, cnt_app]; omega
            by_cases he : t = s0
            · subst he
              have h1 := hc t
              rw [hone, cnt_one hzs] at h1
              rw [show cnt m t (ys.filter (fun a => !f a) ++ zs) = 0 by omega]
              simp [gI, gL, gR, mR, mI, nI_0]
            · have h1 := hc t
              rw [cnt_zero ht' hs0 he hzs] at h1
              rw [← show cnt m t (ys.filter (fun a => !f a) ++ z :: zs) = cnt m t (ys.filter (fun a => !f a) ++ zs) from h1, ← g5 t ht']
              simp [gI, gL, gR, mR, mI, he]) (fun i hi => by
            rw [e2] at hi ⊢
            simp at hi
            by_cases he : i = (ys.filter f).length
            · subst he
              simp [gI, gL, gR, mR, mI]
            · rw [List.getElem?_append_left (by omega), ← g6 i (by omega)]
              simp [gI, gL, gR, mR, mI, he])
        rw [e1, e2] at this
        simpa using this
  exact loop xs [] m rfl Fr.rf (fun _ => rfl) hsz (fun i hi => absurd hi (Nat.not_lt_zero _)) (fun i _ hi => hp.2.2.2.2.2.2.2.1 i hi) hp.2.2.2.2.2.2.2.2.2 (fun i hi => absurd hi (Nat.not_lt_zero _))
end L2n
