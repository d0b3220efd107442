/-! the reference's other calls: word, setOf, close, got, open, count, where, delete -/
section L3N
variable {l : Launch} {G : xG} {Q : XR → XM → Prop} {R : Nat → Nat} {m0 m m' : XM} {S S' S1 S2 : RS} {X X' : RX} {A B : AS} {ix g xs ys zs rest hs0 : List Nat} {pn : Nat → Nat} {n p s i v w0 k : Nat} {key : Int64} {c c0 : Nat → Int32} {x y : Int32}
theorem c_Mfail (hst : l.stackTraces = false) (h : MR R m0 S X m) (hq : ∀ m', MR R m0 S (mX x X.op X.b X.fo X.du) m' → Q (.inl (some (vI 0))) m') : CC l G xM_fail [vR (some (R 0)), vI x] m Q := by
  refine bM_fail hst ⟨h.w.k0, fun m2 hm2 => hq m2 ?_⟩
  rw [hm2]
  exact h.sTh x
theorem c_MsetOf (hst : l.stackTraces = false) (h : MR R m0 S X m) (hq : ∀ m', MR R m0 S (mX 0 X.op X.b X.fo X.du) m' → Q (.inl (some (vI (setF key)))) m') : CC l G xM_setOf [vR (some (R 0)), vL key] m Q := by
  refine bM_setOf hst ⟨h.w.k0, fun m2 hm2 => c_MsetOfKey hst (hq m2 ?_)⟩
  rw [hm2]
  exact h.sTh 0
theorem c_Mword (hst : l.stackTraces = false) (h : MR R m0 S X m) (h0 : (x < 0 ∨ ¬ x < 8) → ∀ m', MR R m0 S (mX 1 X.op X.b X.fo X.du) m' → Q (.inl (some (vI 0))) m')
    (h1 : ¬ x < 0 → x < 8 → ∀ m', MR R m0 S (mX 0 X.op (up X.b x.toNatClampNeg y) X.fo X.du) m' → Q (.inl (some (vI (X.b x.toNatClampNeg)))) m') : CC l G xM_word [vR (some (R 0)), vI x, vI y] m Q := by
  have e7 : ∀ z : Int32, (7 : Int32) < z ↔ ¬ z < 8 := fun z => by
    rw [Int32.lt_iff_toInt_lt, Int32.lt_iff_toInt_lt]
    show (7 : Int) < z.toInt ↔ ¬ z.toInt < 8
    omega
  refine bM_word hst ⟨h.w.k0, fun m2 hm2 => ?_⟩
  have h2 := h.sTh 0
  rw [← hm2] at h2
  refine c_Mwithin hst (fun q => ⟨fun r => absurd rfl r, fun _ => ⟨h2.w.k0, c_Mfail hst h2 (fun m3 h3 => h0 ?_ m3 h3)⟩⟩) (fun q1 q2 => ⟨fun _ => ⟨h2.w.k0, R 2, h2.w.r2, 8, h2.w.k2, ?_⟩, fun r => absurd r (by decide)⟩)
  · rcases q with r | r
    · exact Or.inl r
    · exact Or.inr ((e7 x).mp r)
  · have q2' : x < 8 := Classical.byContradiction fun r => q2 ((e7 x).mpr r)
    obtain ⟨n, hn, e⟩ := nI_of q1
    have hcl : x.toNatClampNeg = n := by rw [e]; exact nI_clamp hn
    have n8' : n < 8 := by
      rw [e, show (8 : Int32) = nI 8 from rfl, nI_ltI hn (by omega)] at q2'
      exact q2'
    have hin : vp_in x 8 := by rw [e]; exact vp_in_nI n8' (by omega)
    refine ⟨hin, hin, fun m12 hm12 => ?_⟩
    have hb : gI m2 (R 2) x.toNatClampNeg = X.b x.toNatClampNeg := by rw [hcl]; exact h2.xx.2.2.1 n n8'
    rw [hb]
    refine h1 q1 q2' m12 ?_
    rw [hm12]
    exact h2.sBu y
theorem c_Mclose (hst : l.stackTraces = false) (h : MR R m0 S X m) (h0 : X.op = 0 → ∀ m', MR R m0 S (mX 1 0 X.b X.fo X.du) m' → Q (.inl none) m') (h1 : ¬ X.op = 0 → ∀ m', MR R m0 S (mX 0 0 X.b X.fo X.du) m' → Q (.inl none) m') : CC l G xM_close [vR (some (R 0))] m Q := by
  have e1 : gI m (R 0) 1 = X.op := h.xx.2.1
  refine bM_close hst ⟨h.w.k0, fun q m2 hm2 m3 hm3 => ?_, fun q m2 hm2 m3 hm3 => ?_⟩
  · rw [e1] at q
    have h2 := h.sTh 1
    rw [← hm2] at h2
    refine h0 q m3 ?_
    rw [hm3]
    exact h2.sOp 0
  · rw [e1] at q
    have h2 := h.sTh 0
    rw [← hm2] at h2
    refine h1 q m3 ?_
    rw [hm3]
    exact h2.sOp 0
theorem c_Mgot (hst : l.stackTraces = false) (h : MR R m0 S X m) (h0 : (x < 0 ∨ X.fo.length ≤ x.toNatClampNeg) → ∀ m', MR R m0 S (mX 1 X.op X.b X.fo X.du) m' → Q (.inl (some (vI 0))) m')
    (h1 : ∀ z, ¬ x < 0 → X.fo[x.toNatClampNeg]? = some z → ∀ m', MR R m0 S (mX 0 X.op X.b X.fo X.du) m' → Q (.inl (some (vI z))) m') : CC l G xM_got [vR (some (R 0)), vI x] m Q := by
  refine bM_got hst ⟨h.w.k0, fun m2 hm2 => ?_⟩
  have h2 := h.sTh 0
  rw [← hm2] at h2
  have e3 : gI m2 (R 0) 3 = nI X.fo.length := h2.xx.2.2.2.1
  have hl8 : X.fo.length ≤ 8 := h2.xx.2.2.2.2.1
  rw [e3]
  have hlt : ∀ n, n < 2 ^ 31 → (nI X.fo.length - 1 < nI n ↔ X.fo.length ≤ n) := fun n hn => by
    rw [Int32.lt_iff_toInt_lt, show (1 : Int32) = nI 1 from rfl, pk_sub_toInt (by omega) (by omega), nI_toInt hn]
    omega
  refine c_Mwithin hst (fun q => ⟨fun _ => ⟨h2.w.k0, c_Mfail hst h2 (fun m3 h3 => h0 ?_ m3 h3)⟩, fun r => absurd rfl r⟩) (fun q1 q2 => ⟨fun r => absurd r (by decide), fun _ => ⟨h2.w.k0, R 4, h2.w.r4, 8, h2.w.k4, ?_⟩⟩)
  · by_cases q1 : x < 0
    · exact Or.inl q1
    · right
      obtain ⟨n, hn, e⟩ := nI_of q1
      rcases q with r | r
      · exact absurd r q1
      · rw [e, nI_clamp hn]
        rw [e] at r
        exact (hlt n hn).mp r
  · obtain ⟨n, hn, e⟩ := nI_of q1
    have hcl : x.toNatClampNeg = n := by rw [e]; exact nI_clamp hn
    have hnl : n < X.fo.length := Classical.byContradiction fun r => q2 (by rw [e]; exact (hlt n hn).mpr (by omega))
    obtain ⟨z, hz⟩ : ∃ z, X.fo[n]? = some z := ⟨X.fo[n]'hnl, List.getElem?_eq_getElem hnl⟩
    have hg : gI m2 (R 4) n = z := h2.xx.2.2.2.2.2.1 n z hz
    refine ⟨by rw [e]; exact vp_in_nI (by omega) (by omega), ?_⟩
    rw [hcl, hg]
    exact h1 z q1 (by rw [hcl]; exact hz) m2 h2
theorem RA.ixl (hA : RA S A ix pn) : (lgs S).countP (fun n => S.nw n != 0) = A.Y.length := by
  rw [hA.2.2.2.1, List.length_map, List.countP_eq_length_filter]
  have h1 : ((lgs S).filter (fun n => S.nw n != 0)).Nodup := hA.nd.sublist List.filter_sublist
  have hm : ∀ n, n ∈ (lgs S).filter (fun n => S.nw n != 0) ↔ n ∈ ix := fun n => by
    rw [List.mem_filter, hA.2.2.2.2.1 n]
    simp
  have a := len_sub h1 (fun n hn => (hm n).mp hn)
  have b := len_sub hA.ixn (fun n hn => (hm n).mpr hn)
  omega
theorem c_Mopen (hst : l.stackTraces = false) (h : MR R m0 S X m) (hA : RA S A ix pn) (h1 : ¬ X.op = 0 → ∀ m', MR R m0 S (mX 1 X.op X.b X.fo X.du) m' → Q (.inl (some (vI 0))) m') (h0 : X.op = 0 → ∀ m', MR R m0 S (mX 0 1 X.b X.fo X.du) m' → Q (.inl (some (vI (nI A.Y.length)))) m') : CC l G xM_open [vR (some (R 0))] m Q := by
  have e1 : gI m (R 0) 1 = X.op := h.xx.2.1
  refine bM_open hst ⟨h.w.k0, fun q m2 hm2 => ?_, fun q m2 hm2 => ?_⟩
  · rw [e1] at q
    have h2 := h.sTh 0
    rw [← hm2] at h2
    have e2 : gI m2 (R 0) 1 = X.op := h2.xx.2.1
    refine ⟨fun _ m3 hm3 => ?_, fun r => absurd (e2.trans q) r⟩
    have h3 := h2.sOp 1
    rw [← hm3] at h3
    refine c_Mindexed hst h3 ?_
    rw [hA.ixl]
    exact h0 q m3 h3
  · rw [e1] at q
    have h2 := h.sTh 1
    rw [← hm2] at h2
    have e2 : gI m2 (R 0) 1 = X.op := h2.xx.2.1
    exact ⟨fun r => absurd (e2.symm.trans r) q, fun _ => h1 q m2 h2⟩
theorem c_Mcount (hst : l.stackTraces = false) (h : MR R m0 S X m) (hA : RA S A ix pn) (hq : ∀ m', MR R m0 S (mX 0 X.op X.b X.fo X.du) m' → Q (.inl (some (vI (aCnt A x)))) m') : CC l G xM_count [vR (some (R 0)), vI x] m Q := by
  refine bM_count hst ⟨h.w.k0, fun m2 hm2 => ?_⟩
  have h2 := h.sTh 0
  rw [← hm2] at h2
  have hq2 := hq m2 h2
  unfold aCnt at hq2
  have le12 : ∀ z : Int32, (12 : Int32) < z ↔ ¬ z ≤ 12 := fun z => Int32.not_le.symm
  refine c_Mwithin hst (fun q => ⟨fun r => absurd rfl r, fun _ => ?_⟩) (fun q1 q2 => ⟨fun _ => ⟨fun q3 => ⟨fun q4 => ?_, fun q4 => ?_⟩, fun q3 => ?_⟩, fun r => absurd r (by decide)⟩)
  · rcases q with r | r
    · rw [if_pos r] at hq2
      exact hq2
    · by_cases r2 : x < 0
      · rw [if_pos r2] at hq2
        exact hq2
      · rw [if_neg r2, if_pos ((le12 x).mp r)] at hq2
        exact hq2
  · have q2' : x ≤ 12 := Int32.not_lt.mp q2
    rw [if_neg q1, if_neg (fun r => r q2')] at hq2
    obtain ⟨n, hn, e⟩ := nI_of q1
    have hcl : x.toNatClampNeg = n := by rw [e]; exact nI_clamp hn
    have n13 : n < 13 := by
      rw [e, show (12 : Int32) = nI 12 from rfl, nI_leI hn (by omega)] at q2'
      omega
    have n11 : n ≠ 11 := fun r => q3 (by rw [e, r]; rfl)
    have n12 : n ≠ 12 := fun r => q4 (by rw [e, r]; rfl)
    refine ⟨h2.w.k0, R 23, h2.w.r23, 13, h2.w.k23, by rw [e]; exact vp_in_nI n13 (by omega), ?_⟩
    rw [hcl, h2.cn n13]
    by_cases r0 : x = 0
    · rw [if_pos r0] at hq2
      have : n = 0 := by rw [← hcl, r0]; rfl
      rw [this, hA.2.2.2.2.2.2.2.2.2.1]
      exact hq2
    · rw [if_neg r0, if_neg q3, if_neg q4, hcl] at hq2
      have n0 : n ≠ 0 := fun r => r0 (by rw [e, r]; rfl)
      rw [hA.2.2.2.2.2.2.2.2.2.2 n (by omega) (by omega)]
      exact hq2
  · rw [if_neg q1, if_neg (fun r => r (Int32.not_lt.mp q2)), if_neg (fun r => by rw [r] at q4; cases q4), if_neg q3, if_pos q4] at hq2
    refine ⟨h2.w.k0, c_MwordsOf (p := 96) hst h2 (by omega) ?_⟩
    have : eS (A.Z 96) = wS S (S.P 96) := by
      rw [hA.2.2.1 96 (by omega) (by omega)]
      exact (wS_eS (fun _ => rfl)).symm
    rw [this] at hq2
    exact hq2
  · rw [if_neg q1, if_neg (fun r => r (Int32.not_lt.mp q2)), if_neg (fun r => by rw [r] at q3; cases q3), if_pos q3] at hq2
    refine ⟨h2.w.k0, c_Mindexed hst h2 ?_⟩
    rw [hA.ixl]
    exact hq2
/-- the newest of a key, as the index has it -/
theorem RA.newest (hA : RA S A ix pn) : ((lgs S).foldl (nwF S key) (-1) = -1 ∧ fIn key A.Y = none ∧ aHas key A.Y = false) ∨ ∃ x ∈ ix, S.k x = key ∧ (lgs S).foldl (nwF S key) (-1) = nI x ∧ aHas key A.Y = true := by
  rcases nwF_spec (S := S) (key := key) (lgs S) (-1) with ⟨e1, e2⟩ | ⟨x, hx, e1, e2, e3⟩
  · left
    have hno : ∀ n ∈ ix, S.k n ≠ key := fun n hn => by
      obtain ⟨a1, a2⟩ := (hA.2.2.2.2.1 n).mp hn
      rcases e1 n a1 with r | r
      · exact absurd r a2
      · exact r
    refine ⟨e2, ?_, ?_⟩
    · unfold fIn
      rw [List.find?_eq_none, hA.2.2.2.1]
      intro e he
      obtain ⟨n, hn, rfl⟩ := List.mem_map.mp he
      rw [eY_k]
      simpa using hno n hn
    · unfold aHas
      rw [List.any_eq_false, hA.2.2.2.1]
      intro e he
      obtain ⟨n, hn, rfl⟩ := List.mem_map.mp he
      rw [eY_k]
      simpa using hno n hn
  · right
    have hxi := (hA.2.2.2.2.1 x).mpr ⟨hx, e1⟩
    refine ⟨x, hxi, e2, e3, ?_⟩
    unfold aHas
    rw [List.any_eq_true, hA.2.2.2.1]
    exact ⟨eY S pn x, List.mem_map_of_mem hxi, by rw [eY_k, e2]; simp⟩
theorem c_Mwhere (hst : l.stackTraces = false) (h : MR R m0 S X m) (hA : RA S A ix pn) (hop : X.op = 0 ∨ X.op = 1) (h0 : X.op = 0 → ∀ m', MR R m0 S (mX 1 X.op X.b X.fo X.du) m' → Q (.inl (some (vI 0))) m') (h1 : X.op = 1 → ∀ m', MR R m0 S (mX 0 X.op X.b X.fo X.du) m' → Q (.inl (some (vI (aWh A key)))) m') : CC l G xM_where [vR (some (R 0)), vL key] m Q := by
  have hs := sN_lt key
  refine bM_where hst ⟨h.w.k0, c_Mworks hst h hop (fun o m2 h2 => ⟨fun q => absurd rfl q, fun _ => h0 o m2 h2⟩) (fun o m2 h2 => ⟨fun _ => ⟨h2.w.k0, c_Mnewest hst h2 ?_⟩, fun q => absurd q (by decide)⟩)⟩
  have hq := h1 o m2 h2
  unfold aWh at hq
  rcases hA.newest (key := key) with ⟨e1, e2, e3⟩ | ⟨x, hx, e1, e2, e3⟩
  · rw [e1]
    rw [e3] at hq
    refine ⟨fun _ => ⟨h2.w.k0, c_MinSet hst h2 ?_⟩, fun q => absurd (by decide) q⟩
    have hZ := hA.2.1 _ hs
    rcases lsI_spec (f := fun n => S.k n == key) (S.P (sN key)) 0 (-1) with ⟨a1, a2⟩ | ⟨j, z, a1, a2, a3⟩
    · rw [a2]
      have : aHas key (A.Z (sN key)) = false := by
        unfold aHas
        rw [List.any_eq_false, hZ]
        intro e he
        obtain ⟨n, hn, rfl⟩ := List.mem_map.mp he
        rw [eZ_k]
        have := a1 n hn
        simpa using this
      rw [this] at hq
      exact ⟨fun _ => hq, fun q => absurd (by decide) q⟩
    · rw [a3, Nat.zero_add]
      have hjl := (List.getElem?_eq_some_iff.mp a1).1
      have hj8 := (h.sz (p := sN key) (by omega)).2
      have : aHas key (A.Z (sN key)) = true := by
        unfold aHas
        rw [List.any_eq_true, hZ]
        exact ⟨eZ S z, List.mem_map_of_mem (List.mem_of_getElem? a1), by rw [eZ_k]; exact a2⟩
      rw [this] at hq
      exact ⟨fun q => absurd q (nI_nn (by omega)), fun _ => hq⟩
  · rw [e2]
    rw [e3] at hq
    have hx4 := h.lt ((hA.2.2.2.2.1 x).mp hx).1
    exact ⟨fun q => absurd q (nI_nn (by omega)), fun _ => hq⟩
end L3N
