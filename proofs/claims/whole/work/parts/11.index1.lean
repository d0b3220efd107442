/-! the index of the class -/
theorem small64 : ∀ n, n < 64 → (UInt64.ofNat n).toInt64.toInt32 = nI n := by decide
theorem setF_lt (k : Int64) : ∃ s, s < 64 ∧ setF k = nI s := by
  unfold setF jushr
  generalize mixF k = x
  have e : ((58 : Int32).toInt64.toUInt64 &&& Int64.toUInt64 63) = 58 := by decide
  rw [e]
  have h : (x.toUInt64 >>> 58).toNat = x.toUInt64.toNat / 2 ^ 58 := by
    rw [UInt64.toNat_shiftRight, Nat.shiftRight_eq_div_pow]
    rfl
  have hlt : x.toUInt64.toNat / 2 ^ 58 < 64 := by
    have := x.toUInt64.toNat_lt
    omega
  refine ⟨x.toUInt64.toNat / 2 ^ 58, hlt, ?_⟩
  have e2 : x.toUInt64 >>> 58 = UInt64.ofNat (x.toUInt64.toNat / 2 ^ 58) := by
    apply UInt64.toNat_inj.mp
    rw [h, UInt64.toNat_ofNat_of_lt']
    show _ < 2 ^ 64
    omega
  rw [e2]
  exact small64 _ hlt
def cnt (m : XM) (s : Nat) (ys : List Nat) : Nat := ys.countP (fun a => m.2.1 a 2 == nI s)
/-- the index at ix, its items' array at ia, its counts by sets at ps, the items ys -/
def IxOK (m : XM) (ix ia ps : Nat) (ys : List Nat) : Prop := kd m ix = some (oB 0) ∧ gR m ix 0 = some ia ∧ kd m ia = some (aR 3 264) ∧ gR m ix 1 = some ps ∧ kd m ps = some (aR 0 64) ∧ gI m ix 2 = nI ys.length ∧ ys.length ≤ 264 ∧ (∀ i, i < ys.length → gR m ia i = ys[i]?) ∧ (∀ a ∈ ys, Itm m a) ∧ ∀ s, s < 64 → gI m ps s = nI (cnt m s ys)
def XF (ix ia ps : Nat) : Nat → Prop := fun b => b = ix ∨ b = ia ∨ b = ps
section L2i
variable {m m' : XM} {F : Nat → Prop} {a ix ia ps : Nat} {xs ys zs : List Nat}
theorem cnt_app {s : Nat} : cnt m s (xs ++ ys) = cnt m s xs + cnt m s ys := by simp [cnt]
theorem cnt_fr {s : Nat} (h : Fr F m m') (hx : ∀ a ∈ xs, ¬ F a) : cnt m' s xs = cnt m s xs := by
  unfold cnt
  exact List.countP_congr (fun a ha => by rw [h.gI (hx a ha)])
theorem cnt_le {s : Nat} : cnt m s xs ≤ xs.length := List.countP_le_length
theorem cnt_one {s : Nat} (h : m.2.1 a 2 = nI s) : cnt m s [a] = 1 := by simp [cnt, h]
theorem cnt_zero {s t : Nat} (hs : s < 64) (ht : t < 64) (hne : s ≠ t) (h : m.2.1 a 2 = nI t) : cnt m s [a] = 0 := by
  have : ¬ nI t = nI s := fun e => hne ((nI_eq (by omega) (by omega)).mp e).symm
  simp [cnt, h, this]
theorem Itm.nXF (h : Itm m a) (hp : IxOK m ix ia ps ys) : ¬ XF ix ia ps a := by
  rintro (rfl | rfl | rfl)
  · have := h.1.symm.trans hp.1
    cases this
  · have := h.1.symm.trans hp.2.2.1
    cases this
  · have := h.1.symm.trans hp.2.2.2.2.1
    cases this
theorem Itm.set (h : Itm m a) : ∃ s, s < 64 ∧ m.2.1 a 2 = nI s := by
  obtain ⟨s, h1, h2⟩ := setF_lt (m.2.2.1 a 0)
  exact ⟨s, h1, h.2.2.1.trans h2⟩
theorem IxOK.nes (h : IxOK m ix ia ps ys) : ix ≠ ia ∧ ix ≠ ps ∧ ia ≠ ps := by
  refine ⟨fun e => ?_, fun e => ?_, fun e => ?_⟩
  · have h1 := h.1
    rw [e, show kd m ia = _ from h.2.2.1] at h1
    cases h1
  · have h1 := h.1
    rw [e, show kd m ps = _ from h.2.2.2.2.1] at h1
    cases h1
  · have h1 := h.2.2.1
    rw [e, show kd m ps = _ from h.2.2.2.2.1] at h1
    cases h1
theorem IxOK.at {z : Nat} (h : IxOK m ix ia ps (ys ++ z :: zs)) : m.2.2.2 ia ys.length = some z := by
  have := h.2.2.2.2.2.2.2.1 ys.length (by simp)
  rw [show m.2.2.2 ia ys.length = _ from this]
  simp
end L2i
section L2j
variable {l : Launch} {G : xG} {m : XM} {Q : XR → XM → Prop} {a ix ia ps : Nat} {xs ys zs : List Nat} {key : Int64}
theorem c_Ifind (hst : l.stackTraces = false) (hp : IxOK m ix ia ps xs) (hn : (∀ a ∈ xs, gL m a 0 ≠ key) → Q (.inl (some (vR none))) m)
    (hs : ∀ ys z zs, xs = ys ++ z :: zs → (∀ a ∈ ys, gL m a 0 ≠ key) → gL m z 0 = key → Q (.inl (some (vR (some z)))) m) : CC l G xI_find [vR (some ix), vL key] m Q := by
  have hl := hp.2.2.2.2.2.2.1
  have hsz : gI m ix 2 = nI xs.length := hp.2.2.2.2.2.1
  refine bI_find hst ?_
  have loop : ∀ zs ys, ys ++ zs = xs → (∀ a ∈ ys, gL m a 0 ≠ key) → WW l G xI_find 2 [some (vR (some ix)), some (vL key), none, some (vI (nI ys.length))] [] m 0 0 Q := by
    intro zs
    induction zs with
    | nil =>
      intro ys e hno
      rw [List.append_nil] at e
      subst e
      refine bI_find_2 ⟨hp.1, fun _ => hn hno, fun h => ?_⟩
      rw [hsz] at h
      exact absurd (nI_le (Nat.le_refl _) (by omega)) h
    | cons z zs ih =>
      intro ys e hno
      have hlen : ys.length < xs.length := by rw [← e]; simp
      have hz : m.2.2.2 ia ys.length = some z := by
        rw [← e] at hp
        exact hp.at
      have hcl : (nI ys.length).toNatClampNeg = ys.length := nI_clamp (by omega)
      refine bI_find_2 ⟨hp.1, fun h => ?_, fun _ => ⟨ia, hp.2.1, 264, hp.2.2.1, vp_in_nI (by omega) (by omega), z, by rw [hcl]; exact hz, (hp.2.2.2.2.2.2.2.2.1 z (by rw [← e]; simp)).1, fun h => ?_, fun h => ?_⟩⟩
      · rw [hsz] at h
        exact absurd h (nI_ge hlen (by omega))
      · rw [nI_1]
        have := ih (ys ++ [z]) (by rw [List.append_assoc]; exact e) (fun a ha => by
          rcases List.mem_append.mp ha with h1 | h1
          · exact hno a h1
          · rw [List.mem_singleton.mp h1]
            exact fun q => h (lgc0.mpr q))
        simpa using this
      · refine ⟨vp_in_nI (by omega) (by omega), ?_⟩
        rw [hcl, show gR m ia ys.length = some z from hz]
        exact hs ys z zs e.symm hno (lgc0.mp h)
  exact loop xs [] rfl (fun a ha => nomatch ha)
/-- the index shrinks: what stands before n stays -/
theorem c_shrinkTo {n len : Nat} (hst : l.stackTraces = false) (h1 : kd m ix = some (oB 0)) (h2 : gR m ix 0 = some ia) (h3 : kd m ia = some (aR 3 264)) (h4 : gI m ix 2 = nI len) (hn : n ≤ len) (hlen : len ≤ 264)
    (hq : ∀ m', Fr (fun b => b = ix ∨ b = ia) m m' → (∀ k, gR m' ix k = gR m ix k) → gI m' ix 2 = nI n → (∀ i, i < n → gR m' ia i = gR m ia i) → Q (.inl none) m') : CC l G xI_shrinkTo [vR (some ix), vI (nI n)] m Q := by
  have hne : ix ≠ ia := fun e => by rw [e, h3] at h1; cases h1
  refine bI_shrinkTo hst ?_
  have loop : ∀ (k i : Nat) (mm : XM), i + k = len → n ≤ i → Fr (fun b => b = ix ∨ b = ia) m mm → (∀ k, gR mm ix k = gR m ix k) → gI mm ix 2 = nI len → (∀ i, i < n → gR mm ia i = gR m ia i) → WW l G xI_shrinkTo 2 [some (vR (some ix)), some (vI (nI n)), some (vI (nI i))] [] mm 0 0 Q := by
    intro k
    induction k with
    | zero =>
      intro i mm e hi f g1 g2 g3
      refine bI_shrinkTo_2 ⟨(f.kd ix).trans h1, fun _ => ?_, fun h => ?_⟩
      · rintro m2 rfl
        exact hq _ (f.tr (frI _ _ (Or.inl rfl))) g1 (by simp [gI, gL, gR, mI]) g3
      · rw [g2] at h
        exact absurd (nI_le (by omega) (by omega)) h
    | succ k ih =>
      intro i mm e hi f g1 g2 g3
      refine bI_shrinkTo_2 ⟨(f.kd ix).trans h1, fun h => ?_, fun _ => ⟨ia, (g1 0).trans h2, 264, (f.kd ia).trans h3, vp_in_nI (by omega) (by omega), ?_⟩⟩
      · rw [g2] at h
        exact absurd h (nI_ge (by omega) (by omega))
      · rintro m8 rfl
        rw [nI_1, nI_clamp (by omega)]
        refine ih (i + 1) _ (by omega) (by omega) (f.tr (frR _ _ (Or.inr rfl))) (fun k => ?_) g2 (fun j hj => ?_)
        · rw [← g1 k]
          simp [gI, gL, gR, mR, hne]
        · rw [← g3 j hj]
          have : j ≠ i := by omega
          simp [gI, gL, gR, mR, this]
  exact loop (len - n) n m (by omega) (Nat.le_refl _) Fr.rf (fun _ => rfl) h4 (fun _ _ => rfl)
end L2j
section L2k
variable {l : Launch} {G : xG} {m : XM} {Q : XR → XM → Prop} {a ix ia ps : Nat} {xs ys zs : List Nat} {key : Int64}
/-- the index while it is walked: K kept so far, the rest from j on -/
def IxW (m mm : XM) (ix ia ps : Nat) (xs K zs : List Nat) (j : Nat) : Prop := Fr (XF ix ia ps) m mm ∧ (∀ k, gR mm ix k = gR m ix k) ∧ gI mm ix 2 = nI xs.length ∧ (∀ i, i < K.length → gR mm ia i = K[i]?) ∧ (∀ i, j ≤ i → i < xs.length → gR mm ia i = xs[i]?) ∧ ∀ s, s < 64 → gI mm ps s = nI (cnt m s (K ++ zs))
theorem IxW.keep {mm : XM} {K : List Nat} {z j : Nat} (hp : IxOK m ix ia ps xs) (h : IxW m mm ix ia ps xs K (z :: zs) j) (hK : K.length ≤ j) : IxW m (mR mm ia K.length (some z)) ix ia ps xs (K ++ [z]) zs (j + 1) := by
  obtain ⟨f, g1, g2, g3, g4, g5⟩ := h
  obtain ⟨n1, n2, n3⟩ := hp.nes
  refine ⟨f.tr (frR _ _ (Or.inr (Or.inl rfl))), fun k => ?_, g2, fun i hi => ?_, fun i h1 h2 => ?_, fun s hs => ?_⟩
  · rw [← g1 k]
    simp [gI, gL, gR, mR, n1]
  · simp at hi
    by_cases he : i = K.length
    · subst he
      simp [gI, gL, gR, mR]
    · rw [List.getElem?_append_left (by omega), ← g3 i (by omega)]
      simp [gI, gL, gR, mR, he]
  · rw [← g4 i (by omega) h2]
    have : i ≠ K.length := by omega
    simp [gI, gL, gR, mR, this]
  · rw [List.append_assoc]
    exact g5 s hs
theorem IxW.drop {mm : XM} {K : List Nat} {z j s0 : Nat} (hp : IxOK m ix ia ps xs) (h : IxW m mm ix ia ps xs K (z :: zs) j) (hs0 : s0 < 64) (hz : m.2.1 z 2 = nI s0) (hb : (K ++ z :: zs).length ≤ 1000) : IxW m (mI mm ps s0 (gI mm ps s0 - 1)) ix ia ps xs K zs (j + 1) := by
  obtain ⟨f, g1, g2, g3, g4, g5⟩ := h
  obtain ⟨n1, n2, n3⟩ := hp.nes
  refine ⟨f.tr (frI _ _ (Or.inr (Or.inr rfl))), g1, ?_, g3, fun i h1 h2 => g4 i (by omega) h2, fun s hs => ?_⟩
  · rw [← g2]
    simp [gI, gL, gR, mI, n2]
  · have hc : ∀ t, cnt m t (K ++ z :: zs) = cnt m t (K ++ zs) + cnt m t [z] := fun t => by
      rw [show z :: zs = [z] ++ zs from rfl, cnt_app, cnt_app, cnt_app]; omega
    by_cases he : s = s0
    · subst he
      have := g5 s hs
      rw [hc s, cnt_one hz] at this
      simp [gI, gL, gR, mI]
      rw [show mm.2.1 ps s = _ from this]
      exact nI_pred _
    · have := g5 s hs
      rw [hc s, cnt_zero hs hs0 he hz] at this
      rw [show cnt m s (K ++ zs) = cnt m s (K ++ zs) + 0 from rfl, ← this]
      simp [gI, gL, gR, mI, he]
theorem IxW.done {mm m' : XM} {K : List Nat} (hp : IxOK m ix ia ps xs) (h : IxW m mm ix ia ps xs K [] xs.length) (hK : ∀ a ∈ K, a ∈ xs) (hKl : K.length ≤ xs.length) (f' : Fr (fun b => b = ix ∨ b = ia) mm m') (h1 : ∀ k, gR m' ix k = gR mm ix k) (h2 : gI m' ix 2 = nI K.length) (h3 : ∀ i, i < K.length → gR m' ia i = gR mm ia i) : Fr (XF ix ia ps) m m' ∧ IxOK m' ix ia ps K := by
  obtain ⟨f, g1, g2, g3, g4, g5⟩ := h
  obtain ⟨n1, n2, n3⟩ := hp.nes
  have hl := hp.2.2.2.2.2.2.1
  have ff : Fr (XF ix ia ps) m m' := f.tr (f'.mono (fun b hb => hb.imp id (fun q => Or.inl q)))
  have hit : ∀ a ∈ K, Itm m a := fun a ha => hp.2.2.2.2.2.2.2.2.1 a (hK a ha)
  have hnf : ∀ a ∈ K, ¬ XF ix ia ps a := fun a ha => (hit a ha).nXF hp
  refine ⟨ff, (ff.kd ix).trans hp.1, ((h1 0).trans (g1 0)).trans hp.2.1, (ff.kd ia).trans hp.2.2.1, ((h1 1).trans (g1 1)).trans hp.2.2.2.1, (ff.kd ps).trans hp.2.2.2.2.1, h2, by omega, fun i hi => (h3 i hi).trans (g3 i hi), fun a ha => (hit a ha).fr ff (hnf a ha), fun s hs => ?_⟩
  have hps : ¬ (ps = ix ∨ ps = ia) := by
    rintro (h | h)
    · exact n2 h.symm
    · exact n3 h.symm
  rw [cnt_fr ff hnf]
  have := g5 s hs
  rw [List.append_nil] at this
  exact (f'.gI hps s).trans this
theorem c_Iremove (hst : l.stackTraces = false) (hp : IxOK m ix ia ps xs) (hq : ∀ m', Fr (XF ix ia ps) m m' → IxOK m' ix ia ps (xs.filter (fun a => gL m a 0 != key)) → Q (.inl (some (vI (if (xs.filter (fun a => gL m a 0 != key)).length < xs.length then 1 else 0)))) m') : CC l G xI_remove [vR (some ix), vL key] m Q := by
  have hl := hp.2.2.2.2.2.2.1
  have hsz : gI m ix 2 = nI xs.length := hp.2.2.2.2.2.1
  have hfl : ∀ ys : List Nat, (ys.filter (fun a => gL m a 0 != key)).length ≤ ys.length := fun ys => List.length_filter_le _ _
  refine bI_remove hst ⟨hp.1, ?_⟩
  rw [hsz]
  have loop : ∀ (zs ys : List Nat) (mm : XM), ys ++ zs = xs → IxW m mm ix ia ps xs (ys.filter (fun a => gL m a 0 != key)) zs ys.length →
      WW l G xI_remove 11 [some (vR (some ix)), some (vL key), none, some (vI (nI (ys.filter (fun a => gL m a 0 != key)).length)), some (vI (nI xs.length)), some (vI (nI ys.length))] [] mm 0 0 Q := by
    intro zs
    induction zs with
    | nil =>
      intro ys mm e h
      rw [List.append_nil] at e
      subst e
      obtain ⟨f, g1, g2, -⟩ := id h
      have := hfl ys
      refine bI_remove_11 ⟨fun _ => ⟨(f.kd ix).trans hp.1, c_shrinkTo (len := ys.length) hst ((f.kd ix).trans hp.1) ((g1 0).trans hp.2.1) ((f.kd ia).trans hp.2.2.1) g2 this hl (fun m' f' k1 k2 k3 => ?_)⟩, fun h => absurd (nI_le (Nat.le_refl _) (by omega)) h⟩
      obtain ⟨ff, hok⟩ := IxW.done hp h (fun a ha => (List.mem_filter.mp ha).1) this f' k1 k2 k3
      have hQ := hq m' ff hok
      refine ⟨fun hle => ?_, fun hle => ?_⟩
      · rw [nI_leI (by omega) (by omega)] at hle
        rw [if_neg (by omega)] at hQ
        exact hQ
      · rw [nI_leI (by omega) (by omega)] at hle
        rw [if_pos (by omega)] at hQ
        exact hQ
    | cons z zs ih =>
      intro ys mm e h
      have hlt : ys.length < xs.length := by rw [← e]; simp
      have hzx : z ∈ xs := by rw [← e]; simp
      have hz : Itm m z := hp.2.2.2.2.2.2.2.2.1 z hzx
      have hzf := hz.nXF hp
      obtain ⟨s0, hs0, hzs⟩ := hz.set
      obtain ⟨f, g1, g2, g3, g4, g5⟩ := id h
      have hK := hfl ys
      have hcl : (nI ys.length).toNatClampNeg = ys.length := nI_clamp (by omega)
      have hat : gR mm ia ys.length = some z := by
        rw [g4 ys.length (Nat.le_refl _) hlt, ← e]
        simp
      have hkey : gL mm z 0 = gL m z 0 := f.gL hzf 0
      have hset : gI mm z 2 = nI s0 := (f.gI hzf 2).trans hzs
      refine bI_remove_11 ⟨fun hle => absurd hle (nI_ge hlt (by omega)), fun _ => ⟨(f.kd ix).trans hp.1, ia, (g1 0).trans hp.2.1, 264, (f.kd ia).trans hp.2.2.1, vp_in_nI (by omega) (by omega), z, by rw [hcl]; exact hat, (f.kd z).trans hz.1, fun hc => ?_, fun hc => ?_⟩⟩
      · have hne : (gL m z 0 != key) = true := by
          rw [hkey] at hc
          simp
          exact fun q => hc (lgc0.mpr q)
        refine ⟨vp_in_nI (by omega) (by omega), vp_in_nI (by omega) (by omega), ?_⟩
        rintro m15 rfl
        rw [nI_1, nI_1, nI_clamp (by omega)]
        have := ih (ys ++ [z]) _ (by rw [List.append_assoc]; exact e) (by
          rw [List.filter_append, show [z].filter (fun a => gL m a 0 != key) = [z] by simp [hne], List.length_append]
          exact h.keep hp hK)
        rw [List.filter_append, show [z].filter (fun a => gL m a 0 != key) = [z] by simp [hne]] at this
        simpa using this
      · have hne : (gL m z 0 != key) = false := by
          rw [hkey] at hc
          simp
          exact lgc0.mp hc
        refine ⟨vp_in_nI (by omega) (by omega), ps, (g1 1).trans hp.2.2.2.1, 64, (f.kd ps).trans hp.2.2.2.2.1, by rw [hset]; exact vp_in_nI (by omega) (by omega), by rw [hset]; exact vp_in_nI (by omega) (by omega), ?_⟩
        rintro m23 rfl
        rw [nI_1, hset, nI_clamp (by omega)]
        have hx : (ys ++ z :: zs).length = xs.length := by rw [e]
        simp at hx
        have := ih (ys ++ [z]) _ (by rw [List.append_assoc]; exact e) (by
          rw [List.filter_append, show [z].filter (fun a => gL m a 0 != key) = [] by simp [hne], List.append_nil, List.length_append]
          exact h.drop hp hs0 hzs (by simp; omega))
        rw [List.filter_append, show [z].filter (fun a => gL m a 0 != key) = [] by simp [hne], List.append_nil] at this
        simpa using this
  exact loop xs [] m rfl ⟨Fr.rf, fun _ => rfl, hsz, fun i hi => absurd hi (Nat.not_lt_zero _), fun i _ hi => hp.2.2.2.2.2.2.2.1 i hi, hp.2.2.2.2.2.2.2.2.2⟩
end L2k
