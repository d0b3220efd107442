/-! Arrays.copyOf: an int array's clone(), System.arraycopy between int arrays -/
def xAll (G : xG) (m : XM) (N : Nat) : va_W := (List.range N).filterMap fun b => (m.1 b).map fun k => (b, xE G m b k)
theorem xAll_mem {G : xG} {m : XM} {N : Nat} {q : Nat × va_E} : q ∈ xAll G m N ↔ ∃ (b : Nat) (k : XKd), b < N ∧ m.1 b = some k ∧ q = (b, xE G m b k) := by
  unfold xAll
  rw [List.mem_filterMap]
  constructor
  · rintro ⟨b, hb, h⟩
    obtain ⟨k, hk, e⟩ := Option.map_eq_some_iff.mp h
    exact ⟨b, k, List.mem_range.mp hb, hk, e.symm⟩
  · rintro ⟨b, k, hb, hk, rfl⟩
    exact ⟨b, List.mem_range.mpr hb, by show (m.1 b).map _ = _; rw [hk]; rfl⟩
theorem xAll_lt {G : xG} {m : XM} {N : Nat} : (xAll G m N).Pairwise (fun p q => p.1 < q.1) := by
  unfold xAll
  rw [List.pairwise_filterMap]
  refine List.Pairwise.imp ?_ List.pairwise_lt_range
  intro a b hab p hp q hq
  obtain ⟨k, -, rfl⟩ := Option.map_eq_some_iff.mp hp
  obtain ⟨k', -, rfl⟩ := Option.map_eq_some_iff.mp hq
  exact hab
theorem xAll_D {G : xG} {m : XM} {H : Heap} {N : Nat} (hW : Wd G m H) : va_D (xA G) (xAll G m N) := by
  refine ⟨fun i j p q hi hj e => ?_, fun k q hq => ?_⟩
  · have h := List.pairwise_iff_getElem.mp (xAll_lt (G := G) (m := m) (N := N))
    obtain ⟨i1, rfl⟩ := List.getElem?_eq_some_iff.mp hi
    obtain ⟨j1, rfl⟩ := List.getElem?_eq_some_iff.mp hj
    rcases Nat.lt_trichotomy i j with g | g | g
    · have h2 : (xAll G m N)[i].1 < (xAll G m N)[j].1 := h i j i1 j1 g
      exact absurd h2 (by rw [e]; exact Nat.lt_irrefl _)
    · exact g
    · have h2 : (xAll G m N)[j].1 < (xAll G m N)[i].1 := h j i j1 i1 g
      exact absurd h2 (by rw [e]; exact Nat.lt_irrefl _)
  · obtain ⟨b, k', -, hk, rfl⟩ := xAll_mem.mp (List.mem_of_getElem? hq)
    exact (hW b k' hk).2
theorem xAll_P {G : xG} {m : XM} {H : Heap} {N : Nat} (hW : Wd G m H) : va_P G.1 vwCl (xAll G m N) H := by
  intro j q hq
  obtain ⟨b, k', -, hk, rfl⟩ := xAll_mem.mp (List.mem_of_getElem? hq)
  exact (hW b k' hk).1
theorem xAll_at {G : xG} {m : XM} {H : Heap} {a : Nat} {k : XKd} (hW : Wd G m H) (hk : m.1 a = some k) : ∃ j : Nat, (xAll G m H.size)[j]? = some (a, xE G m a k) :=
  List.getElem?_of_mem (xAll_mem.mpr ⟨a, k, (hW a k hk).1.lt, hk, rfl⟩)
/-- a copy of the int array a, of its length n, at u -/
def mC (m : XM) (u a n : Nat) : XM := ((fun b => if b = u then some (aR 0 n) else m.1 b), (fun b => if b = u then m.2.1 a else m.2.1 b), m.2.2.1, m.2.2.2)
/-- the first k of a's ints laid into u -/
def mW (m : XM) (u a k : Nat) : XM := (m.1, (fun b => if b = u then va_cpy (m.2.1 a) (m.2.1 u) 0 0 k else m.2.1 b), m.2.2.1, m.2.2.2)
section XCopy
variable {l : Launch} {G : xG} {M : xMt} {pc : Nat} {L : List (Option XV)} {st : List XV} {m : XM} {bc bs : Nat} {Q : XR → XM → Prop}
theorem x_clone {idx a len : Nat} (hd : decode M.2.1 pc = .ok (.invokevirtual idx, 3)) (w1 : Cond.methodLink M.1.cls idx ⟨"[I", "clone", "()Ljava/lang/Object;"⟩ ∈ WS) (w2 : Cond.sameMethod "[I" "java/lang/Object" "clone" "()Ljava/lang/Object;" ∈ WS) (w3 : Cond.native ⟨"java/lang/Object", "clone", "()Ljava/lang/Object;"⟩ ∈ WS) (w4 : Cond.instanceMethod ⟨"java/lang/Object", "clone", "()Ljava/lang/Object;"⟩ ∈ WS)
    (w5 : Cond.selects "[I" ⟨"[I", "clone", "()Ljava/lang/Object;"⟩ ⟨"java/lang/Object", "clone", "()Ljava/lang/Object;"⟩ ∈ WS) (hk : m.1 a = some (aR 0 len)) (hf : 1 ≤ M.2.2.2.2.1.frames) (hl : 40 ≤ M.2.2.2.2.1.locals) (hcat : xCat st ≤ 8) {n bc0 bs0 : Nat} (hn : pc + 3 = n) (hb1 : bc0 = bc + 1) (hb2 : bs0 = bs + len)
    (k : ∀ u, m.1 u = none → WW l G M n L (vR (some u) :: st) (mC m u a len) bc bs Q) : WW l G M pc L (vR (some a) :: st) m bc0 bs0 Q := by
  subst hn; subst hb1; subst hb2
  intro p e s mid args below meth c hC H locs cells slots ls hW hS hL h1 h2
  have hts := hC.2.2.2.2.1
  have hSt := hC.2.2.2.2.2.2.2.2.2.1
  obtain ⟨q0, hq0⟩ := xAll_at hW hk
  refine va_clone (ad := "[I") (D := G.1) (cl := vwCl) (A := xA G) (tys := xtys G) (ws := xAll G m H.size) (H0 := s.heap) (cA := G.2.1 0) (x := (len, xcont m a 0)) (ty := .int) hC.1 hC.2.1 (hC.2.2.1.trans hL.1.symm) hC.2.2.2.1 (hts _ w1) (hts _ w2) (hts _ w3) (hts _ w4) (hts _ w5) (hSt.2.2.2.2.2.2.2.1 ("[I", "java/lang/Cloneable") (by decide)) hSt.1 (xAll_P hW) (xAll_D hW) hS (fun q hq => Nat.le_trans hSt.2.2.2.1 hq) q0 0 hq0 rfl (va_nm_int (hSt.1.2 0 _ rfl).2)
    (fun i v hv => va_fit (cA := G.2.1 0) (n := len) (F := fun j => .int (m.2.1 a j)) (ty := .int) (fun _ _ => rfl) i v hv) hf (by rw [xCat_eq]; omega) (by omega) (by show slots + len ≤ _; omega) hd fun q H1 _ hP1 hD1 hS1 => ?_
  have hend : (xAll G m H.size ++ [(q, (.inl (G.2.1 0, len, xcont m a 0) : va_E))])[(xAll G m H.size).length]? = some (q, .inl (G.2.1 0, len, xcont m a 0)) := by
    rw [List.getElem?_append_right (Nat.le_refl _), Nat.sub_self]
    rfl
  have hleft : ∀ (j : Nat) (y : Nat × va_E), (xAll G m H.size)[j]? = some y → (xAll G m H.size ++ [(q, (.inl (G.2.1 0, len, xcont m a 0) : va_E))])[j]? = some y := fun j y hy => by
    rw [List.getElem?_append_left (List.getElem?_eq_some_iff.mp hy).1]
    exact hy
  have hu : m.1 q = none := by
    cases hm : m.1 q with
    | none => rfl
    | some k' =>
      obtain ⟨j, hj⟩ := xAll_at hW hm
      have h3 := (List.getElem?_eq_some_iff.mp hj).1
      have h4 := hD1.1 j _ _ _ (hleft j _ hj) hend rfl
      omega
  refine k q hu p e s mid args below meth c hC H1 locs (cells + 1) (slots + len) ls ?_ hS1 hL (by omega) (by omega)
  intro b k' hb
  by_cases hbq : b = q
  · rw [hbq] at hb ⊢
    have hk2 : some (aR 0 len) = some k' := by simpa [mC] using hb
    cases hk2
    refine ⟨?_, hD1.2 _ _ hend⟩
    have e1 : xE G (mC m q a len) q (aR 0 len) = .inl (G.2.1 0, len, xcont m a 0) := by simp [xE, xcont, mC]
    rw [e1]
    exact hP1 _ _ hend
  · have hk2 : m.1 b = some k' := by simpa [mC, hbq] using hb
    rw [xE_off (m := m) (m' := mC m q a len) (a := b) (fun j => by simp [mC, hbq]) (fun j => rfl) (fun j => rfl)]
    obtain ⟨j, hj⟩ := xAll_at hW hk2
    exact ⟨hP1 j _ (hleft j _ hj), (hW b k' hk2).2⟩
theorem x_castI {idx a len : Nat} (hd : decode M.2.1 pc = .ok (.checkcast idx, 3)) (w1 : Cond.classLink M.1.cls idx "[I" ∈ WS) (hk : m.1 a = some (aR 0 len)) {n : Nat} (hn : pc + 3 = n) (k : WW l G M n L (vR (some a) :: st) m bc bs Q) : WW l G M pc L (vR (some a) :: st) m bc bs Q := by
  subst hn
  intro p e s mid args below meth c hC H locs cells slots ls hW hS hL h1 h2
  have hSt := hC.2.2.2.2.2.2.2.2.2.1
  exact va_castA hC.1 hC.2.1 hC.2.2.2.1 (hC.2.2.2.2.1 _ w1) (cA := G.2.1 0) (x := (len, xcont m a 0)) (xP1 hW hk) 0 rfl (va_nm_int (hSt.1.2 0 _ rfl).2) hd (k p e s mid args below meth c hC H locs cells slots ls hW hS hL h1 h2)
theorem x_copyI {idx a u la lu : Nat} {i : Int32} (hd : decode M.2.1 pc = .ok (.invokestatic idx, 3)) (w1 : Cond.methodLink M.1.cls idx ⟨"java/lang/System", "arraycopy", "(Ljava/lang/Object;ILjava/lang/Object;II)V"⟩ ∈ WS) (w2 : Cond.native ⟨"java/lang/System", "arraycopy", "(Ljava/lang/Object;ILjava/lang/Object;II)V"⟩ ∈ WS) (w3 : Cond.static ⟨"java/lang/System", "arraycopy", "(Ljava/lang/Object;ILjava/lang/Object;II)V"⟩ ∈ WS) (w4 : Cond.initialized "java/lang/System" ∈ WS) (ha : m.1 a = some (aR 0 la)) (hu : m.1 u = some (aR 0 lu)) (hi : ¬ i < 0) (g1 : i.toNatClampNeg ≤ la) (g2 : i.toNatClampNeg ≤ lu)
    (hf : 1 ≤ M.2.2.2.2.1.frames) (hl : 40 ≤ M.2.2.2.2.1.locals) (hcat : xCat st ≤ 8) {n : Nat} (hn : pc + 3 = n) (k : WW l G M n L st (mW m u a i.toNatClampNeg) bc bs Q) : WW l G M pc L (vI i :: vI 0 :: vR (some u) :: vI 0 :: vR (some a) :: st) m bc bs Q := by
  subst hn
  intro p e s mid args below meth c hC H locs cells slots ls hW hS hL h1 h2
  have hts := hC.2.2.2.2.1
  have hSt := hC.2.2.2.2.2.2.2.2.2.1
  have z0 : (0 : Int32).toNatClampNeg = 0 := by decide
  have zw : nativeFrameWords "java/lang/System" "arraycopy" 5 = 7 := by decide +kernel
  obtain ⟨q0, hq0⟩ := xAll_at hW ha
  obtain ⟨q1, hq1⟩ := xAll_at hW hu
  have hq1l := (List.getElem?_eq_some_iff.mp hq1).1
  refine va_copyi (a := u) (a0 := a) (D := G.1) (cl := vwCl) (A := xA G) (tys := xtys G) (ws := xAll G m H.size) (H0 := s.heap) (c0 := G.2.1 0) (c1 := G.2.1 0) (n0 := la) (n1 := lu) (f := m.2.1 a) (g := m.2.1 u) (ty := .int) (sp := 0) (dp := 0) (n := i) hC.1 hC.2.1 (hC.2.2.1.trans hL.1.symm) hC.2.2.2.1 (hts _ w1) (hts _ w2) (hts _ w3) (hts _ w4) hSt.1 (xAll_P hW) (xAll_D hW) hS q0 q1 0 0 hq0 hq1 rfl rfl rfl (by decide) (by decide) hi (by rw [z0]; omega) (by rw [z0]; omega) (fun _ _ => rfl) hf (by rw [xCat_eq, zw]; omega) hd fun H1 locs1 hP1 hD1 hS1 => ?_
  rw [z0] at hP1
  refine k p e s mid args below meth c hC H1 locs1 cells slots ls ?_ hS1 hL h1 h2
  intro b k' hb
  have hb' : m.1 b = some k' := hb
  refine ⟨?_, (hW b k' hb').2⟩
  by_cases hbu : b = u
  · rw [hbu] at hb' ⊢
    cases Option.some.inj (hu.symm.trans hb')
    have e1 : xE G (mW m u a i.toNatClampNeg) u (aR 0 lu) = .inl (G.2.1 0, lu, .inl (va_cpy (m.2.1 a) (m.2.1 u) 0 0 i.toNatClampNeg)) := by simp [xE, xcont, mW]
    rw [e1]
    exact hP1 q1 _ (by rw [List.getElem?_set, if_pos rfl, if_pos hq1l])
  · rw [xE_off (m := m) (m' := mW m u a i.toNatClampNeg) (a := b) (fun j => by simp [mW, hbu]) (fun j => rfl) (fun j => rfl)]
    obtain ⟨j, hj⟩ := xAll_at hW hb'
    have hne : ¬ q1 = j := fun r => hbu (by
      rw [r] at hq1
      exact congrArg Prod.fst (Option.some.inj (hj.symm.trans hq1)))
    exact hP1 j _ (by rw [List.getElem?_set, if_neg hne]; exact hj)
end XCopy
theorem w_50 : Cond.initialized "java/lang/Math" ∈ WS := inWS 50 (by decide +kernel) (by decide +kernel)
theorem w_51 : Cond.initialized "java/lang/System" ∈ WS := inWS 51 (by decide +kernel) (by decide +kernel)
theorem w_295 : Cond.methodLink "java/util/Arrays" 316 ⟨"[I", "clone", "()Ljava/lang/Object;"⟩ ∈ WS := inWS 295 (by decide +kernel) (by decide +kernel)
theorem w_296 : Cond.sameMethod "[I" "java/lang/Object" "clone" "()Ljava/lang/Object;" ∈ WS := inWS 296 (by decide +kernel) (by decide +kernel)
theorem w_297 : Cond.native ⟨"java/lang/Object", "clone", "()Ljava/lang/Object;"⟩ ∈ WS := inWS 297 (by decide +kernel) (by decide +kernel)
theorem w_298 : Cond.instanceMethod ⟨"java/lang/Object", "clone", "()Ljava/lang/Object;"⟩ ∈ WS := inWS 298 (by decide +kernel) (by decide +kernel)
theorem w_299 : Cond.selects "[I" ⟨"[I", "clone", "()Ljava/lang/Object;"⟩ ⟨"java/lang/Object", "clone", "()Ljava/lang/Object;"⟩ ∈ WS := inWS 299 (by decide +kernel) (by decide +kernel)
theorem w_301 : Cond.classLink "java/util/Arrays" 317 "[I" ∈ WS := inWS 301 (by decide +kernel) (by decide +kernel)
theorem w_302 : Cond.methodLink "java/util/Arrays" 304 yJ_min ∈ WS := inWS 302 (by decide +kernel) (by decide +kernel)
theorem w_303 : Cond.static yJ_min ∈ WS := inWS 303 (by decide +kernel) (by decide +kernel)
theorem w_304 : Cond.code yJ_min cJ_min 2 (some .int) ∈ WS := inWS 304 (by decide +kernel) (by decide +kernel)
theorem w_305 : Cond.methodLink "java/util/Arrays" 150 ⟨"java/lang/System", "arraycopy", "(Ljava/lang/Object;ILjava/lang/Object;II)V"⟩ ∈ WS := inWS 305 (by decide +kernel) (by decide +kernel)
theorem w_306 : Cond.static ⟨"java/lang/System", "arraycopy", "(Ljava/lang/Object;ILjava/lang/Object;II)V"⟩ ∈ WS := inWS 306 (by decide +kernel) (by decide +kernel)
theorem w_307 : Cond.native ⟨"java/lang/System", "arraycopy", "(Ljava/lang/Object;ILjava/lang/Object;II)V"⟩ ∈ WS := inWS 307 (by decide +kernel) (by decide +kernel)
theorem gJ_copyOf_25 : xCS xJ_copyOf xJ_min 304 2 := ⟨xgS w_302 w_303 w_50 w_304, rfl, by decide +kernel, by decide, rfl⟩
set_option maxRecDepth 100000 in
set_option maxHeartbeats 4000000 in
theorem bJ_copyOf {l : Launch} {G : xG} {m : XM} {Q : XR → XM → Prop} {a n k : Nat} (hst : l.stackTraces = false) (ha : kd m a = some (aR 0 n)) (hn : n ≤ 8) (hk : k ≤ n)
    (hq : ∀ u m', kd m u = none → kd m' u = some (aR 0 k) → (∀ x, x ≠ u → m'.1 x = m.1 x ∧ m'.2.1 x = m.2.1 x ∧ m'.2.2.1 x = m.2.2.1 x ∧ m'.2.2.2 x = m.2.2.2 x) → (∀ i, i < k → gI m' u i = gI m a i) → Q (.inl (some (vR (some u)))) m') :
    CC l G xJ_copyOf [vR (some a), vI (nI k)] m Q := by
  have hk31 : k < 2 ^ 31 := by omega
  have hn31 : n < 2 ^ 31 := by omega
  refine x_entryF plJ_copyOf rfl hst (Nat.le_of_ble_eq_true rfl) (L0 := [some (vR (some a)), some (vI (nI k)), none]) rfl ?_
  refine x_iload_n dJ_copyOf_0 rfl (n := 1) rfl ?_
  refine x_aload_n dJ_copyOf_1 rfl (n := 2) rfl ?_
  refine x_alen rfl dJ_copyOf_2 ha (by decide) (n := 3) rfl ?_
  refine x_icmp_ne (tgt := 14) dJ_copyOf_3 rfl (n := 6) rfl (fun c1 => ?_) (fun c1 => ?_)
  · refine x_iload_n dJ_copyOf_14 rfl (n := 15) rfl ?_
    refine x_newa (atype := .int) (t := 0) (N := k) (bc := 0) (bs := 8 - k) dJ_copyOf_15 w_87 (by decide) (nI_pos hk31) (by rw [nI_clamp hk31]; omega) (n := 17) rfl (nI_clamp hk31) rfl (by show 8 = 8 - k + k; omega) fun u hu => ?_
    have hau : a ≠ u := fun r => by rw [r] at ha; rw [show kd m u = none from hu] at ha; cases ha
    have ka : (mN m u (aR 0 k)).1 a = some (aR 0 n) := kdN hu ha
    have ku : (mN m u (aR 0 k)).1 u = some (aR 0 k) := kdNs m u _
    refine x_astore_n dJ_copyOf_17 (by decide) (L' := [some (vR (some a)), some (vI (nI k)), some (vR (some u))]) rfl (n := 18) rfl ?_
    refine x_aload_n dJ_copyOf_18 rfl (n := 19) rfl ?_
    refine x_iconst (v := 0) dJ_copyOf_19 (by decide) (n := 20) rfl ?_
    refine x_aload_n dJ_copyOf_20 rfl (n := 21) rfl ?_
    refine x_iconst (v := 0) dJ_copyOf_21 (by decide) (n := 22) rfl ?_
    refine x_aload_n dJ_copyOf_22 rfl (n := 23) rfl ?_
    refine x_alen rfl dJ_copyOf_23 ka (by decide) (n := 24) rfl ?_
    refine x_iload_n dJ_copyOf_24 rfl (n := 25) rfl ?_
    have hmin : CC l G xJ_min [vI (Int32.ofNat n), vI (nI k)] (mN m u (aR 0 k)) (kI (fun v m' => v = nI k ∧ m' = mN m u (aR 0 k)) xNo) := by
      refine bJ_min hst ⟨fun q => ?_, fun q => ?_⟩
      · show nI k = nI k ∧ mN m u (aR 0 k) = mN m u (aR 0 k)
        exact ⟨rfl, rfl⟩
      · show Int32.ofNat n = nI k ∧ mN m u (aR 0 k) = mN m u (aR 0 k)
        have q2 : n ≤ k := (nI_leI (a := n) (b := k) hn31 hk31).mp (Int32.not_lt.mp q)
        have q3 : k = n := by omega
        exact ⟨by rw [q3]; rfl, rfl⟩
    refine x_invS (m := mN m u (aR 0 k)) (M' := xJ_min) (bc := 0) (bs := 8 - k) dJ_copyOf_25 gJ_copyOf_25 (as := [vI (Int32.ofNat n), vI (nI k)]) (st := [vI 0, vR (some u), vI 0, vR (some a)]) rfl rfl (Nat.le_of_ble_eq_true rfl) (n := 28) rfl rfl rfl hmin (xBk.I0 fun v m' hv => ?_)
    obtain ⟨rfl, rfl⟩ := hv
    refine x_copyI dJ_copyOf_28 w_305 w_307 w_306 w_51 ka ku (nI_pos hk31) (by rw [nI_clamp hk31]; exact hk) (by rw [nI_clamp hk31]; exact Nat.le_refl _) (by decide) (by decide) (Nat.le_of_ble_eq_true rfl) (n := 31) rfl ?_
    rw [nI_clamp hk31]
    refine x_aload_n dJ_copyOf_31 rfl (n := 32) rfl ?_
    refine x_aret dJ_copyOf_32 rfl (Or.inr ⟨_, rfl⟩) (hq u (mW (mN m u (aR 0 k)) u a k) hu ku (fun x hx => ⟨?_, ?_, ?_, ?_⟩) (fun i hi => ?_))
    · simp [mW, mN, hx]
    · funext j
      simp [mW, mN, hx]
    · funext j
      simp [mW, mN, hx]
    · funext j
      simp [mW, mN, hx]
    · show (mW (mN m u (aR 0 k)) u a k).2.1 u i = m.2.1 a i
      simp [mW, va_cpy, mN, hau, hi]
  · have hkn : k = n := (nI_eq (a := k) (b := n) hk31 hn31).mp c1
    rw [← hkn] at ha
    refine x_aload_n dJ_copyOf_6 rfl (n := 7) rfl ?_
    refine x_clone (bc := 0) (bs := 8 - k) dJ_copyOf_7 w_295 w_296 w_297 w_298 w_299 ha (by decide) (by decide) (Nat.le_of_ble_eq_true rfl) (n := 10) rfl rfl (by show 8 = 8 - k + k; omega) fun u hu => ?_
    have ku : (mC m u a k).1 u = some (aR 0 k) := by simp [mC]
    refine x_castI dJ_copyOf_10 w_301 ku (n := 13) rfl ?_
    refine x_aret dJ_copyOf_13 rfl (Or.inr ⟨_, rfl⟩) (hq u (mC m u a k) hu ku (fun x hx => ⟨?_, ?_, ?_, ?_⟩) (fun i hi => ?_))
    · simp [mC, hx]
    · simp [mC, hx]
    · rfl
    · rfl
    · show (mC m u a k).2.1 u i = m.2.1 a i
      simp [mC]
