/-! the reference: telling, removing what is old, entering, gathering -/
def en1 (S : RS) (n : Nat) : RS := ((((S.sP (up S.P 96 (S.P 96 ++ [n]))).snw (up S.nw n 1)).sgt (up S.gt n 0)).st (S.t + 1)).scm (up S.cm n (S.t + 1))
section L2X
variable {l : Launch} {G : xG} {Q : XR → XM → Prop} {R : Nat → Nat} {m0 m m' : XM} {S S' : RS} {X X' : RX} {i j n p : Nat} {v : Int32} {key : Int64}
theorem RS.scPc {a d : Nat → Int32} {b : Nat → List Nat} : ((S.sc a).sP b).sc d = (S.sP b).sc d := by
  simp only [RS.sc, RS.sP, RS.P, RS.k, RS.l, RS.v, RS.nw, RS.gt, RS.cm, RS.mk, RS.w, RS.t, RS.c, RS.g, RS.h, mS]
  rfl
theorem MR.sFl (h : MR R m0 S X m) {k : Nat} (hk : k ≤ 8) : MR R m0 S (mX X.th X.op X.b ((List.range k).map (fun i => gI m (R 4) i)) X.du) (mI m (R 0) 3 (nI k)) := by
  obtain ⟨h1, h2, h3, h4, h5, h6, h7, h8, h9, h10, h11, h12, h13, h14, h15, h16, h17, h18, h19, h20⟩ := h.f
  have hl : ((List.range k).map (fun i => gI m (R 4) i)).length = k := by simp
  refine h.wI (by decide) ⟨h1, h2, h3, h4, h5, h6, h7, h8, h9, h10, h11, h12, h13, h14, h15, h16, ?_, ?_, fun i y hi => ?_, h20⟩
  · show nI k = nI ((List.range k).map (fun i => gI m (R 4) i)).length
    rw [hl]
  · show ((List.range k).map (fun i => gI m (R 4) i)).length ≤ 8
    rw [hl]
    exact hk
  · have hi' : ((List.range k).map (fun i => gI m (R 4) i))[i]? = some y := hi
    have hlt := (List.getElem?_eq_some_iff.mp hi').1
    rw [hl] at hlt
    rw [List.getElem?_map, List.getElem?_range hlt] at hi'
    simp at hi'
    exact hi'
theorem MR.sFa (h : MR R m0 S X m) (y : Int32) : MR R m0 S (mX X.th X.op X.b (X.fo.set j y) X.du) (mI m (R 4) j y) := by
  obtain ⟨h1, h2, h3, h4, h5, h6, h7, h8, h9, h10, h11, h12, h13, h14, h15, h16, h17, h18, h19, h20⟩ := h.f
  refine h.wI (by decide) ⟨h1, h2, h3, h4, h5, h6, h7, h8, h9, h10, h11, h12, h13, h14, h15, h16, ?_, ?_, fun i y' hi => ?_, h20⟩
  · show iM R m 0 3 = nI (X.fo.set j y).length
    rw [List.length_set]
    exact h17
  · show (X.fo.set j y).length ≤ 8
    rw [List.length_set]
    exact h18
  · have hi' : (X.fo.set j y)[i]? = some y' := hi
    show up (iM R m 4) j y i = y'
    by_cases q : i = j
    · subst q
      rw [List.getElem?_set_self (by
        have := (List.getElem?_eq_some_iff.mp hi').1
        simpa using this)] at hi'
      cases hi'
      rw [up_same]
    · rw [List.getElem?_set_ne (by omega)] at hi'
      simp only [up, if_neg q]
      exact h19 i y' hi'
theorem c_tell20 {k : Nat} (hk : k ≤ 8) (hn : n < 4096) (hkl : k = S.l n) (old : List Int32) (hol : old.length = k) (hq : ∀ m', MR R m0 S (mX X.th X.op X.b (vlS S n) X.du) m' → Q (.inl none) m') : ∀ d j mm, j + d = k → MR R m0 S (mX X.th X.op X.b ((vlS S n).take j ++ old.drop j) X.du) mm → WW l G xM_tell 20 [some (vR (some (R 0))), some (vI (nI n)), some (vI (nI j))] [] mm 0 0 Q := by
  have hvl : (vlS S n).length = k := by rw [hkl]; simp [vlS]
  intro d
  induction d with
  | zero =>
    intro j mm e hR
    have e' : j = k := by omega
    subst e'
    rw [List.take_of_length_le (by omega), List.drop_of_length_le (by omega), List.append_nil] at hR
    refine bM_tell_20 ⟨hR.w.k0, fun _ => hq mm hR, fun q => ?_⟩
    have : gI mm (R 0) 3 = nI (vlS S n).length := hR.xx.2.2.2.1
    rw [this, hvl] at q
    exact absurd Int32.le_rfl q
  | succ d ih =>
    intro j mm e hR
    have hlen : ((vlS S n).take j ++ old.drop j).length = k := by
      rw [List.length_append, List.length_take, List.length_drop, hvl, hol]
      omega
    have h3 : gI mm (R 0) 3 = nI k := by
      have : gI mm (R 0) 3 = nI ((vlS S n).take j ++ old.drop j).length := hR.xx.2.2.2.1
      rw [this, hlen]
    refine bM_tell_20 ⟨hR.w.k0, fun q => ?_, fun _ => ⟨R 8, hR.w.r8, 32768, hR.w.k8, ?_, R 4, hR.w.r4, 8, hR.w.k4, vp_in_nI (by omega) (by omega), fun m12 hm12 => ?_⟩⟩
    · rw [h3, nI_leI (by omega) (by omega)] at q
      omega
    · rw [n8]
      exact vp_in_nI (by omega) (by omega)
    · rw [n8, nI_clamp (by omega), nI_clamp (by omega), hR.val hn (by omega)] at hm12
      have hz : (vlS S n)[j]? = some (S.v n j) := by
        unfold vlS
        rw [List.getElem?_map, List.getElem?_range (by omega)]
        rfl
      have h12 := hR.sFa (j := j) (S.v n j)
      rw [← hm12] at h12
      have e2 : (mX X.th X.op X.b ((vlS S n).take j ++ old.drop j) X.du).fo.set j (S.v n j) = (vlS S n).take (j + 1) ++ old.drop (j + 1) := td_set (by omega) hz
      rw [e2] at h12
      rw [nI_1]
      exact ih (j + 1) m12 (by omega) h12
theorem c_Mtell (hst : l.stackTraces = false) (h : MR R m0 S X m) (hn : n < 4096) (hq : ∀ m', MR R m0 S (mX X.th X.op X.b (vlS S n) X.du) m' → Q (.inl none) m') : CC l G xM_tell [vR (some (R 0)), vI (nI n)] m Q := by
  obtain ⟨l1, l2⟩ := h.len hn
  refine bM_tell hst ⟨fun _ => ⟨h.w.k0, R 7, h.w.r7, 4096, h.w.k7, vp_in_nI hn (by omega), fun m7 hm7 => ?_⟩, fun q => ?_⟩
  · rw [nI_clamp (by omega), l1] at hm7
    have h7 := h.sFl l2
    rw [← hm7] at h7
    refine c_tell20 l2 hn rfl ((List.range (S.l n)).map (fun i => gI m (R 4) i)) (by simp) hq (S.l n) 0 m7 (by omega) ?_
    rw [List.take_zero, List.drop_zero, List.nil_append]
    exact h7
  · rw [show (0 : Int32) = nI 0 from rfl, nI_leI (by omega) (by omega)] at q
    omega
theorem c_Mtell0 (hst : l.stackTraces = false) (h : MR R m0 S X m) (hq : ∀ m', MR R m0 S (mX X.th X.op X.b [] X.du) m' → Q (.inl none) m') : CC l G xM_tell [vR (some (R 0)), vI (-1)] m Q := by
  refine bM_tell hst ⟨fun q => absurd q (by decide), fun _ => ⟨h.w.k0, fun m9 hm9 => ?_⟩⟩
  have h9 := h.sFl (k := 0) (by omega)
  rw [show nI 0 = (0 : Int32) from rfl, ← hm9] at h9
  refine bM_tell_20 ⟨h9.w.k0, fun _ => hq m9 h9, fun q => ?_⟩
  have : gI m9 (R 0) 3 = 0 := h9.xx.2.2.2.1
  rw [this] at q
  exact absurd Int32.le_rfl q
theorem lsI_spec {f : Nat → Bool} : ∀ (xs : List Nat) (i : Nat) (a : Int32), ((∀ x ∈ xs, f x = false) ∧ lsI f xs i a = a) ∨ ∃ j z, xs[j]? = some z ∧ f z = true ∧ lsI f xs i a = nI (i + j)
  | [], i, a => Or.inl ⟨(fun x hx => nomatch hx), rfl⟩
  | x :: xs, i, a => by
    rw [lsI]
    rcases lsI_spec xs (i + 1) (if f x then nI i else a) with ⟨h1, h2⟩ | ⟨j, z, h1, h2, h3⟩
    · cases e : f x with
      | false =>
        left
        refine ⟨fun y hy => ?_, ?_⟩
        · rcases List.mem_cons.mp hy with r | r
          · rw [r]; exact e
          · exact h1 y r
        · rw [e] at h2
          exact h2
      | true =>
        right
        refine ⟨0, x, rfl, e, ?_⟩
        rw [e] at h2
        exact h2
    · right
      exact ⟨j + 1, z, h1, h2, by rw [h3]; congr 1; omega⟩
theorem nwF_spec : ∀ (xs : List Nat) (a : Int32), ((∀ x ∈ xs, S.nw x = 0 ∨ S.k x ≠ key) ∧ xs.foldl (nwF S key) a = a) ∨ ∃ x ∈ xs, S.nw x ≠ 0 ∧ S.k x = key ∧ xs.foldl (nwF S key) a = nI x
  | [], a => Or.inl ⟨(fun x hx => nomatch hx), rfl⟩
  | x :: xs, a => by
    rw [List.foldl_cons]
    rcases nwF_spec xs (nwF S key a x) with ⟨h1, h2⟩ | ⟨z, hz, h1, h2, h3⟩
    · by_cases q : S.nw x = 0
      · left
        rw [nwF, if_pos q] at h2
        refine ⟨fun y hy => ?_, by rw [nwF, if_pos q]; exact h2⟩
        rcases List.mem_cons.mp hy with r | r
        · rw [r]; exact Or.inl q
        · exact h1 y r
      · by_cases q2 : S.k x = key
        · right
          refine ⟨x, List.mem_cons_self, q, q2, ?_⟩
          rw [h2, nwF, if_neg q, if_pos q2]
        · left
          rw [nwF, if_neg q, if_neg q2] at h2
          refine ⟨fun y hy => ?_, by rw [nwF, if_neg q, if_neg q2]; exact h2⟩
          rcases List.mem_cons.mp hy with r | r
          · rw [r]; exact Or.inr q2
          · exact h1 y r
    · exact Or.inr ⟨z, List.mem_cons_of_mem _ hz, h1, h2, h3⟩
theorem MR.lt (h : MR R m0 S X m) (hn : n ∈ lgs S) : n < 4096 := by
  obtain ⟨q, h1, h2, h3⟩ := (pgs_mem 33 64).mp hn
  exact (h.f.1 q (by omega)).2.2.2 n h3
theorem nI_nn (h : n < 2 ^ 30) : ¬ nI n < 0 := by
  rw [show (0 : Int32) = nI 0 from rfl, nI_ltI (by omega) (by omega)]
  omega
theorem nI_n0 (h : n < 2 ^ 30) : (0 : Int32) ≤ nI n := by
  rw [show (0 : Int32) = nI 0 from rfl, nI_leI (by omega) (by omega)]
  omega
theorem c_MremoveOld {k : Nat} (hst : l.stackTraces = false) (h : MR R m0 S X m) (hk : k < 13) (h0 : rdB S key = false → Q (.inl (some (vI 0))) m)
    (h1 : rdB S key = true → (∀ x ∈ S.P (sN key), S.k x ≠ key) → ∀ m', MR R m0 (S.sc (up S.c 9 (S.c 9 + 1))) X m' → Q (.inl (some (vI 0))) m')
    (h2 : rdB S key = true → ∀ i z, (S.P (sN key))[i]? = some z → S.k z = key → ∀ m', MR R m0 ((S.sP (up S.P (sN key) ((S.P (sN key)).eraseIdx i))).sc (up (up S.c 9 (S.c 9 + 1)) k (up S.c 9 (S.c 9 + 1) k + 1))) X m' → Q (.inl (some (vI 1))) m') : CC l G xM_removeOld [vR (some (R 0)), vL key, vI (nI k)] m Q := by
  have hs := sN_lt key
  refine bM_removeOld hst ⟨h.w.k0, c_Mreads hst h (fun r => ⟨fun q => absurd rfl q, fun _ => h0 r⟩) (fun r m2 hR2 => ⟨fun _ => ⟨hR2.w.k0, c_MinSet hst hR2 ?_⟩, fun q => absurd q (by decide)⟩)⟩
  have hP : (S.sc (up S.c 9 (S.c 9 + 1))).P = S.P := rfl
  have hK : (S.sc (up S.c 9 (S.c 9 + 1))).k = S.k := rfl
  rw [hP, hK]
  rcases lsI_spec (f := fun n => S.k n == key) (S.P (sN key)) 0 (-1) with ⟨e1, e2⟩ | ⟨j, z, e1, e2, e3⟩
  · rw [e2]
    exact ⟨fun q => absurd q (by decide), fun _ => h1 r (fun x hx => by have := e1 x hx; simpa using this) m2 hR2⟩
  · rw [e3, Nat.zero_add]
    have hjl := (List.getElem?_eq_some_iff.mp e1).1
    have hj8 := (h.sz (p := sN key) (by omega)).2
    refine ⟨fun _ => c_MsetOfKey hst ⟨hR2.w.k0, ?_⟩, fun q => absurd (nI_n0 (by omega)) q⟩
    rw [setF_n]
    refine c_MtakeOut hst hR2 (by omega) (by rw [hP]; exact hjl) (fun m10 hR10 => ⟨hR10.w.k0, R 23, hR10.w.r23, 13, hR10.w.k23, vp_in_nI hk (by omega), vp_in_nI hk (by omega), fun m18 hm18 => h2 r j z e1 (by simpa using e2) m18 ?_⟩)
    rw [nI_clamp (by omega), hR10.cn hk, RS.c_sP, RS.c_sc] at hm18
    have h18 := hR10.sCnt hk (up S.c 9 (S.c 9 + 1) k + 1)
    rw [← hm18, RS.c_sP, RS.c_sc, RS.P_sc, RS.scPc] at h18
    exact h18
theorem c_Menter (hst : l.stackTraces = false) (h : MR R m0 S X m) (hn : n < 4096) (hl : (S.P 96).length < 8) (ht : S.t + 1 < 2 ^ 29)
    (h0 : (∀ x ∈ lgs S, S.nw x = 0 ∨ S.k x ≠ S.k n) → ∀ m', MR R m0 (en1 S n) X m' → Q (.inl none) m')
    (h1 : ∀ x ∈ lgs S, S.nw x ≠ 0 → S.k x = S.k n → ∀ m', MR R m0 (en1 (S.snw (up S.nw x 0)) n) X m' → Q (.inl none) m') : CC l G xM_enter [vR (some (R 0)), vI (nI n)] m Q := by
  have hcn : (nI n).toNatClampNeg = n := nI_clamp (by omega)
  have fin : ∀ S1 mm x, MR R m0 S1 X mm → (S1.P 96).length < 8 → S1.t + 1 < 2 ^ 29 → (∀ m', MR R m0 (en1 S1 n) X m' → Q (.inl none) m') → WW l G xM_enter 22 [some (vR (some (R 0))), some (vI (nI n)), some (vI x)] [] mm 0 0 Q := by
    intro S1 mm x hR hl1 ht1 hq
    refine bM_enter_22 ⟨hR.w.k0, c_Mappend (p := 96) hst hR (by omega) hn hl1 (fun m2 h2 => ⟨h2.w.k0, R 9, h2.w.r9, 4096, h2.w.k9, vp_in_nI hn (by omega), fun m9 hm9 => ⟨R 10, h2.w.r10, 4096, h2.w.k10, vp_in_nI hn (by omega), fun m15 hm15 m16 hm16 => ⟨R 11, h2.w.r11, 4096, h2.w.k11, vp_in_nI hn (by omega), fun m22 hm22 => hq m22 ?_⟩⟩⟩)⟩
    rw [hcn] at hm9 hm15 hm22
    have h9 := h2.sNw hn 1
    rw [← hm9] at h9
    have h15 := h9.sGt hn 0
    rw [← hm15] at h15
    rw [h15.tu.1, show (1 : Int32) = nI 1 from rfl, nI_add] at hm16
    have h16 := h15.sT (v := S1.t + 1) ht1
    have e16 : mI m15 (R 0) 13 (nI (S1.t + 1)) = m16 := hm16.symm
    rw [e16] at h16
    have e13 : gI m16 (R 0) 13 = nI (S1.t + 1) := h16.tu.1
    rw [e13] at hm22
    have h22 := h16.sCm hn (v := S1.t + 1) (by omega)
    rw [← hm22] at h22
    rw [RS.nw_sP, RS.gt_snw, RS.gt_sP, RS.cm_st, RS.cm_sgt, RS.cm_snw, RS.cm_sP] at h22
    exact h22
  refine bM_enter hst ⟨h.w.k0, R 6, h.w.r6, 4096, h.w.k6, vp_in_nI hn (by omega), ?_⟩
  rw [hcn, h.key hn]
  refine c_Mnewest hst h ?_
  rcases nwF_spec (S := S) (key := S.k n) (lgs S) (-1) with ⟨e1, e2⟩ | ⟨x, hx, e1, e2, e3⟩
  · rw [e2]
    exact ⟨fun _ => fin S m _ h hl ht (h0 e1), fun q => absurd (by decide) q⟩
  · rw [e3]
    have hx4 := h.lt hx
    refine ⟨fun q => absurd q (nI_nn (by omega)), fun _ => ⟨h.w.k0, R 9, h.w.r9, 4096, h.w.k9, vp_in_nI hx4 (by omega), fun m15 hm15 => ?_⟩⟩
    rw [nI_clamp (by omega)] at hm15
    have h15 := h.sNw hx4 0
    rw [← hm15] at h15
    exact fin _ m15 _ h15 hl ht (h1 x hx e1 e2)
end L2X
