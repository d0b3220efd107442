section L2m
variable {l : Launch} {G : xG} {m : XM} {Q : XR → XM → Prop} {a ix ia ps tt : Nat} {xs ys zs : List Nat} {key : Int64}
theorem c_fill {b n : Nat} {v : Int32} (hst : l.stackTraces = false) (hb : kd m b = some (aR 0 n)) (hn : n < 2 ^ 30) (hq : ∀ m', Fr (fun c => c = b) m m' → (∀ i, i < n → gI m' b i = v) → Q (.inl none) m') : CC l G xJ_fill [vR (some b), vI v] m Q := by
  refine bJ_fill hst ⟨b, rfl, n, hb, ?_⟩
  have loop : ∀ (k i : Nat) (mm : XM), i + k = n → Fr (fun c => c = b) m mm → (∀ j, j < i → gI mm b j = v) → WW l G xJ_fill 5 [some (vR (some b)), some (vI v), some (vI (nI i)), some (vI (nI n))] [] mm 0 0 Q := by
    intro k
    induction k with
    | zero =>
      intro i mm e f g
      refine bJ_fill_5 ⟨fun _ => hq mm f (fun j hj => g j (by omega)), fun h => absurd (nI_le (by omega) (by omega)) h⟩
    | succ k ih =>
      intro i mm e f g
      refine bJ_fill_5 ⟨fun h => absurd h (nI_ge (by omega) (by omega)), fun _ => ⟨b, rfl, n, (f.kd b).trans hb, vp_in_nI (by omega) (by omega), ?_⟩⟩
      rintro m6 rfl
      rw [nI_1, nI_clamp (by omega)]
      refine ih (i + 1) _ (by omega) (f.tr (frI _ _ rfl)) (fun j hj => ?_)
      by_cases h : j = i
      · simp [gI, gL, gR, mI, h]
      · rw [← g j (by omega)]
        simp [gI, gL, gR, mI, h]
  exact loop n 0 m (by omega) Fr.rf (fun j hj => absurd hj (Nat.not_lt_zero _))
theorem c_Iwipe (hst : l.stackTraces = false) (hp : IxOK m ix ia ps xs) (hq : ∀ m', Fr (XF ix ia ps) m m' → IxOK m' ix ia ps [] → Q (.inl none) m') : CC l G xI_wipe [vR (some ix)] m Q := by
  obtain ⟨n1, n2, n3⟩ := hp.nes
  have hl := hp.2.2.2.2.2.2.1
  refine bI_wipe hst ⟨hp.1, ?_⟩
  refine c_shrinkTo (n := 0) (len := xs.length) hst hp.1 hp.2.1 hp.2.2.1 hp.2.2.2.2.2.1 (Nat.zero_le _) hl (fun m2 f k1 k2 k3 => ⟨(f.kd ix).trans hp.1, ?_⟩)
  rw [show gR m2 ix 1 = some ps from (k1 1).trans hp.2.2.2.1]
  refine c_fill hst ((f.kd ps).trans hp.2.2.2.2.1) (by omega) (fun m4 f4 g4 => ?_)
  have ff : Fr (XF ix ia ps) m m4 := (f.mono (fun b hb => hb.imp id (fun q => Or.inl q))).tr (f4.mono (fun b hb => Or.inr (Or.inr hb)))
  have hix : ¬ ix = ps := n2
  refine hq m4 ff ⟨(ff.kd ix).trans hp.1, ?_, (ff.kd ia).trans hp.2.2.1, ?_, (ff.kd ps).trans hp.2.2.2.2.1, ?_, by simp, fun i hi => absurd hi (Nat.not_lt_zero _), (fun a ha => nomatch ha), fun s hs => g4 s hs⟩
  · exact ((f4.gR hix 0).trans (k1 0)).trans hp.2.1
  · exact ((f4.gR hix 1).trans (k1 1)).trans hp.2.2.2.1
  · exact (f4.gI hix 2).trans k2
theorem c_Iadd (hst : l.stackTraces = false) (hp : IxOK m ix ia ps xs) (hi : Itm m a) (hroom : (xs.filter (fun b => gL m b 0 != gL m a 0)).length < 264)
    (hq : ∀ m', Fr (XF ix ia ps) m m' → IxOK m' ix ia ps (xs.filter (fun b => gL m b 0 != gL m a 0) ++ [a]) → Q (.inl none) m') : CC l G xI_add [vR (some ix), vR (some a)] m Q := by
  obtain ⟨n1, n2, n3⟩ := hp.nes
  have hna := hi.nXF hp
  obtain ⟨s0, hs0, hsa⟩ := hi.set
  refine bI_add hst ⟨a, rfl, hi.1, hp.1, ?_⟩
  refine c_Iremove hst hp (fun m5 f5 hp5 => ?_)
  generalize hK : xs.filter (fun b => gL m b 0 != gL m a 0) = K at *
  have hia5 : Itm m5 a := hi.fr f5 hna
  have hset5 : gI m5 a 2 = nI s0 := (f5.gI hna 2).trans hsa
  have hnia : a ≠ ix := fun e => hna (Or.inl e)
  have hnps : a ≠ ps := fun e => hna (Or.inr (Or.inr e))
  have hsz : gI m5 ix 2 = nI K.length := hp5.2.2.2.2.2.1
  refine ⟨hp5.1, ia, hp5.2.1, 264, hp5.2.2.1, by rw [hsz]; exact vp_in_nI (by omega) (by omega), hia5.1, ?_⟩
  rintro m14 rfl m15 rfl
  rw [hsz, nI_clamp (by omega), nI_1]
  have e1 : ∀ v w, gI (mI (mR m5 ia v w) ix 2 (nI (K.length + 1))) a 2 = nI s0 := fun v w => by
    rw [← hset5]
    simp [gI, gL, gR, mI, mR, hnia]
  rw [e1]
  refine ⟨ps, ?_, 64, hp5.2.2.2.2.1, vp_in_nI (by omega) (by omega), vp_in_nI (by omega) (by omega), ?_⟩
  · rw [← show gR m5 ix 1 = _ from hp5.2.2.2.1]
    simp [gI, gL, gR, mR, n1]
  rintro m22 rfl
  rw [nI_clamp (by omega)]
  have e2 : gI (mI (mR m5 ia K.length (some a)) ix 2 (nI (K.length + 1))) ps s0 = nI (cnt m5 s0 K) := by
    rw [← hp5.2.2.2.2.2.2.2.2.2 s0 hs0]
    simp [gI, gL, gR, mI, mR, n2.symm]
  rw [e2, nI_1]
  have ff : Fr (XF ix ia ps) m5 (mI (mI (mR m5 ia K.length (some a)) ix 2 (nI (K.length + 1))) ps s0 (nI (cnt m5 s0 K + 1))) := ((frR _ _ (Or.inr (Or.inl rfl))).tr (frI _ _ (Or.inl rfl))).tr (frI _ _ (Or.inr (Or.inr rfl)))
  have hit : ∀ b ∈ K ++ [a], Itm m5 b := by
    intro b hb
    rcases List.mem_append.mp hb with h | h
    · exact hp5.2.2.2.2.2.2.2.2.1 b h
    · rw [List.mem_singleton.mp h]; exact hia5
  have hnf : ∀ b ∈ K ++ [a], ¬ XF ix ia ps b := fun b hb => (hit b hb).nXF hp5
  refine hq _ (f5.tr ff) ⟨(ff.kd ix).trans hp5.1, ?_, (ff.kd ia).trans hp5.2.2.1, ?_, (ff.kd ps).trans hp5.2.2.2.2.1, ?_, by simp; omega, fun i hi' => ?_, fun b hb => (hit b hb).fr ff (hnf b hb), fun s hs => ?_⟩
  · rw [← show gR m5 ix 0 = _ from hp5.2.1]
    simp [gI, gL, gR, mI, mR, n1]
  · rw [← show gR m5 ix 1 = _ from hp5.2.2.2.1]
    simp [gI, gL, gR, mI, mR, n1]
  · simp [gI, gL, gR, mI, n2]
  · simp at hi'
    by_cases h : i = K.length
    · subst h
      simp [gI, gL, gR, mI, mR]
    · rw [List.getElem?_append_left (by omega), ← hp5.2.2.2.2.2.2.2.1 i (by omega)]
      simp [gI, gL, gR, mI, mR, h]
  · rw [cnt_fr ff hnf, cnt_app]
    by_cases h : s = s0
    · subst h
      rw [cnt_one hset5]
      simp [gI, gL, gR, mI]
    · rw [cnt_zero hs hs0 h hset5]
      show _ = nI (cnt m5 s K)
      rw [← hp5.2.2.2.2.2.2.2.2.2 s hs]
      simp [gI, gL, gR, mI, mR, h, n2.symm]
/-- into an array of items, behind those that are there -/
theorem c_takeSet {s n0 : Nat} (hst : l.stackTraces = false) (hp : IxOK m ix ia ps xs) (hs : s < 64) (ht : kd m tt = some (aR 3 n0)) (hn0 : n0 < 2 ^ 30) (hta : tt ≠ ia) (hfit : (xs.filter (fun a => m.2.1 a 2 == nI s)).length ≤ n0)
    (hq : ∀ m', Fr (fun b => XF ix ia ps b ∨ b = tt) m m' → IxOK m' ix ia ps (xs.filter (fun a => !(m.2.1 a 2 == nI s))) → (∀ i, i < (xs.filter (fun a => m.2.1 a 2 == nI s)).length → gR m' tt i = (xs.filter (fun a => m.2.1 a 2 == nI s))[i]?) → Q (.inl (some (vI (nI (xs.filter (fun a => m.2.1 a 2 == nI s)).length)))) m') : CC l G xI_takeSet [vR (some ix), vI (nI s), vR (some tt)] m Q := by
  obtain ⟨n1, n2, n3⟩ := hp.nes
  have hl := hp.2.2.2.2.2.2.1
  have hsz : gI m ix 2 = nI xs.length := hp.2.2.2.2.2.1
  have htx : tt ≠ ix := fun e => by
    have := ht.symm.trans (e ▸ hp.1)
    cases this
  have htp : tt ≠ ps := fun e => by
    have := ht.symm.trans (e ▸ hp.2.2.2.2.1)
    cases this
  generalize hf : (fun a : Nat => m.2.1 a 2 == nI s) = f at *
  have hfd : ∀ a, f a = (m.2.1 a 2 == nI s) := fun a => by rw [← hf]
  have hg : (fun a : Nat => !(m.2.1 a 2 == nI s)) = fun a => !f a := by funext a; rw [hfd]
  rw [hg] at hq
  refine bI_takeSet hst ?_
  have loop : ∀ (zs ys : List Nat) (mm : XM), ys ++ zs = xs → Fr (fun b => XF ix ia ps b ∨ b = tt) m mm → (∀ k, gR mm ix k = gR m ix k) → gI mm ix 2 = nI xs.length → (∀ i, i < (ys.filter (fun a => !f a)).length → gR mm ia i = (ys.filter (fun a => !f a))[i]?) → (∀ i, ys.length ≤ i → i < xs.length → gR mm ia i = xs[i]?) → (∀ t, gI mm ps t = gI m ps t) → (∀ i, i < (ys.filter f).length → gR mm tt i = (ys.filter f)[i]?) →
      WW l G xI_takeSet 8 [some (vR (some ix)), some (vI (nI s)), some (vR (some tt)), some (vI (nI (ys.filter (fun a => !f a)).length)), some (vI (nI (ys.filter f).length)), some (vI (nI ys.length)), none] [] mm 0 0 Q := by
    intro zs
    induction zs with
    | nil =>
      intro ys mm e ff g1 g2 g3 g4 g5 g6
      rw [List.append_nil] at e
      subst e
      have hK : (ys.filter (fun a => !f a)).length ≤ ys.length := List.length_filter_le _ _
      refine bI_takeSet_8 ⟨(ff.kd ix).trans hp.1, fun _ => ⟨ps, (g1 1).trans hp.2.2.2.1, 64, (ff.kd ps).trans hp.2.2.2.2.1, vp_in_nI (by omega) (by omega), ?_⟩, fun h => ?_⟩
      · rintro m7 rfl
        rw [nI_clamp (by omega)]
        refine c_shrinkTo (len := ys.length) hst ((ff.kd ix).trans hp.1) ((g1 0).trans hp.2.1) ((ff.kd ia).trans hp.2.2.1) ?_ hK hl (fun m' f' k1 k2 k3 => ?_)
        · rw [← g2]
          simp [gI, gL, gR, mI, n2]
        · have fm : Fr (fun b => XF ix ia ps b ∨ b = tt) m m' := (ff.tr (frI _ _ (Or.inl (Or.inr (Or.inr rfl))))).tr (f'.mono (fun b hb => Or.inl (hb.imp id (fun q => Or.inl q))))
          have hit : ∀ a ∈ ys.filter (fun a => !f a), Itm m a := fun a ha => hp.2.2.2.2.2.2.2.2.1 a (List.mem_filter.mp ha).1
          have hnf : ∀ a ∈ ys.filter (fun a => !f a), ¬ (XF ix ia ps a ∨ a = tt) := fun a ha => by
            rintro (h | h)
            · exact (hit a ha).nXF hp h
            · subst h
              have := ht.symm.trans (hit a ha).1
              cases this
          have hps : ¬ (ps = ix ∨ ps = ia) := by
            rintro (h | h)
            · exact n2 h.symm
            · exact n3 h.symm
          have htt : ¬ (tt = ix ∨ tt = ia) := by
            rintro (h | h)
            · exact htx h
            · exact hta h
          refine hq m' fm ⟨(fm.kd ix).trans hp.1, ((k1 0).trans (g1 0)).trans hp.2.1, (fm.kd ia).trans hp.2.2.1, ((k1 1).trans (g1 1)).trans hp.2.2.2.1, (fm.kd ps).trans hp.2.2.2.2.1, k2, by omega, fun i hi => (k3 i hi).trans (g3 i hi), fun a ha => (hit a ha).fr fm (hnf a ha), fun t ht' => ?_⟩ (fun i hi => (f'.gR htt i).trans (g6 i hi))
          rw [cnt_fr fm hnf]
          rw [show gI m' ps t = _ from f'.gI hps t]
          by_cases he : t = s
          · subst he
            have : cnt m t (ys.filter (fun a => !f a)) = 0 := by
              unfold cnt
              rw [List.countP_eq_zero]
              intro a ha
              have := (List.mem_filter.mp ha).2
              rw [hfd] at this
              simpa using this
            rw [this]
            simp [gI, gL, gR, mI, nI_0]
          · have : cnt m t (ys.filter (fun a => !f a)) = cnt m t ys := by
              unfold cnt
              rw [List.countP_filter]
              refine List.countP_congr (fun a ha => ?_)
              constructor
              · intro h
                simp at h
                simpa using h.1
              · intro h
                simp at h
                have : f a = false := by
                  rw [hfd, h]
                  have : ¬ nI t = nI s := fun e => he ((nI_eq (by omega) (by omega)).mp e)
                  simpa using this
                simp [h, this]
            rw [this, ← hp.2.2.2.2.2.2.2.2.2 t ht', ← g5 t]
            simp [gI, gL, gR, mI, he]
      · rw [g2] at h
        exact absurd (nI_le (Nat.le_refl _) (by omega)) h
    | cons z zs ih =>
      intro ys mm e ff g1 g2 g3 g4 g5 g6
      have hlt : ys.length < xs.length := by rw [← e]; simp
      have hzx : z ∈ xs := by rw [← e]; simp
      have hz : Itm m z := hp.2.2.2.2.2.2.2.2.1 z hzx
      have hzf : ¬ (XF ix ia ps z ∨ z = tt) := by
        rintro (h | h)
        · exact hz.nXF hp h
        · subst h
          have := ht.symm.trans hz.1
          cases this
      have hK : (ys.filter (fun a => !f a)).length ≤ ys.length := List.length_filter_le _ _
      have hT : (ys.filter f).length ≤ ys.length := List.length_filter_le _ _
      have hcl : (nI ys.length).toNatClampNeg = ys.length := nI_clamp (by omega)
      have hat : gR mm ia ys.length = some z := by
        rw [g4 ys.length (Nat.le_refl _) hlt, ← e]
        simp
      have hset : gI mm z 2 = m.2.1 z 2 := ff.gI hzf 2
      refine bI_takeSet_8 ⟨(ff.kd ix).trans hp.1, fun h => ?_, fun _ => ⟨ia, (g1 0).trans hp.2.1, 264, (ff.kd ia).trans hp.2.2.1, vp_in_nI (by omega) (by omega), z, by rw [hcl]; exact hat, (ff.kd z).trans hz.1, fun hc => ?_, fun hc => ?_⟩⟩
      · rw [g2] at h
        exact absurd h (nI_ge hlt (by omega))
      · have hfz : f z = false := by
          rw [hfd]
          rw [hset] at hc
          simpa using hc
        refine ⟨vp_in_nI (by omega) (by omega), ?_⟩
        rintro m18 rfl
        rw [nI_1, nI_1, nI_clamp (by omega)]
        have e1 : (ys ++ [z]).filter (fun a => !f a) = ys.filter (fun a => !f a) ++ [z] := by simp [List.filter_append, hfz]
        have e2 : (ys ++ [z]).filter f = ys.filter f := by simp [List.filter_append, hfz]
        have := ih (ys ++ [z]) (mR mm ia (ys.filter (fun a => !f a)).length (some z)) (by rw [List.append_assoc]; exact e) (ff.tr (frR _ _ (Or.inl (Or.inr (Or.inl rfl))))) (fun k => by
            rw [← g1 k]
            simp [gI, gL, gR, mR, n1]) g2 (fun i hi => by
            rw [e1] at hi ⊢
            simp at hi
            by_cases he : i = (ys.filter (fun a => !f a)).length
            · subst he
              simp [gI, gL, gR, mR]
            · rw [List.getElem?_append_left (by omega), ← g3 i (by omega)]
              simp [gI, gL, gR, mR, he]) (fun i h1 h2 => by
            simp at h1
            rw [← g4 i (by omega) h2]
            have : i ≠ (ys.filter (fun a => !f a)).length := by omega
            simp [gI, gL, gR, mR, this]) g5 (fun i hi => by
            rw [e2] at hi ⊢
            rw [← g6 i hi]
            simp [gI, gL, gR, mR, hta])
        rw [e1, e2] at this
        simpa using this
      · have hfz : f z = true := by
          rw [hfd]
          rw [hset] at hc
          simpa using hc
        have e1 : (ys ++ [z]).filter (fun a => !f a) = ys.filter (fun a => !f a) := by simp [List.filter_append, hfz]
        have e2 : (ys ++ [z]).filter f = ys.filter f ++ [z] := by simp [List.filter_append, hfz]
        have hTl : (ys.filter f).length < n0 := by
          have : (xs.filter f).length = (ys.filter f).length + (1 + (zs.filter f).length) := by
            rw [← e, List.filter_append, List.filter_cons, if_pos hfz]
            simp
            omega
          omega
        refine ⟨tt, rfl, n0, (ff.kd tt).trans ht, vp_in_nI hTl (by omega), ?_⟩
        rintro m24 rfl
        rw [nI_1, nI_1, nI_clamp (by omega)]
        have := ih (ys ++ [z]) (mR mm tt (ys.filter f).length (some z)) (by rw [List.append_assoc]; exact e) (ff.tr (frR _ _ (Or.inr rfl))) (fun k => by
            rw [← g1 k]
            simp [gI, gL, gR, mR, htx.symm]) g2 (fun i hi => by
            rw [e1] at hi ⊢
            rw [← g3 i hi]
            simp [gI, gL, gR, mR, hta.symm]) (fun i h1 h2 => by
            simp at h1
            rw [← g4 i (by omega) h2]
            simp [gI, gL, gR, mR, hta.symm]) g5 (fun i hi => by
            rw [e2] at hi ⊢
            simp at hi
            by_cases he : i = (ys.filter f).length
            · subst he
              simp [gI, gL, gR, mR]
            · rw [List.getElem?_append_left (by omega), ← g6 i (by omega)]
              simp [gI, gL, gR, mR, he])
        rw [e1, e2] at this
        simpa using this
  exact loop xs [] m rfl Fr.rf (fun _ => rfl) hsz (fun i hi => absurd hi (Nat.not_lt_zero _)) (fun i _ hi => hp.2.2.2.2.2.2.2.1 i hi) (fun _ => rfl) (fun i hi => absurd hi (Nat.not_lt_zero _))
end L2m
