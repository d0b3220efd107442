/-! the reference: what all need, dropping the first, shifting those gathered, clearing marks -/
section L2Z
variable {l : Launch} {G : xG} {Q : XR → XM → Prop} {R : Nat → Nat} {m0 m m' : XM} {S S' : RS} {X X' : RX} {i j n p s : Nat} {v : Int32} {key : Int64}
theorem wS_app {xs ys : List Nat} : wS S (xs ++ ys) = wS S xs + wS S ys := by simp [wS]
theorem wS_of (h : S'.l = S.l) {xs : List Nat} : wS S' xs = wS S xs := by
  unfold wS
  rw [h]
theorem RS.PcPc {a d : Nat → Int32} {b e : Nat → List Nat} : (((S.sP b).sc a).sP e).sc d = (S.sP e).sc d := by
  simp only [RS.sc, RS.sP, RS.P, RS.k, RS.l, RS.v, RS.nw, RS.gt, RS.cm, RS.mk, RS.w, RS.t, RS.c, RS.g, RS.h, mS]
  rfl
theorem RS.gcgc {a d : Nat → Int32} {b e : List Nat} : (((S.sg b).sc a).sg e).sc d = (S.sg e).sc d := by
  simp only [RS.sc, RS.sg, RS.P, RS.k, RS.l, RS.v, RS.nw, RS.gt, RS.cm, RS.mk, RS.w, RS.t, RS.c, RS.g, RS.h, mS]
  rfl
theorem wS_cons {x : Nat} {ys : List Nat} : wS S (x :: ys) = (S.l x + 3) + wS S ys := by simp [wS]
theorem wS_le (hl : ∀ n, n < 4096 → S.l n ≤ 8) : ∀ xs : List Nat, (∀ n ∈ xs, n < 4096) → wS S xs ≤ 11 * xs.length
  | [], _ => by simp [wS]
  | x :: xs, h => by
    rw [wS_cons, List.length_cons]
    have := wS_le hl xs (fun n hn => h n (List.mem_cons_of_mem _ hn))
    have := hl x (h x List.mem_cons_self)
    omega
theorem MR.l8 (h : MR R m0 S X m) : ∀ n, n < 4096 → S.l n ≤ 8 := fun n hn => (h.len hn).2
theorem MR.wg (h : MR R m0 S X m) : wS S S.g ≤ 2904 := by
  have := wS_le h.l8 S.g h.gg.2.2.2
  have := h.gg.2.1
  omega
theorem MR.wp (h : MR R m0 S X m) (hp : p < 97) : wS S (S.P p) ≤ 88 := by
  have := wS_le h.l8 (S.P p) (h.f.1 p hp).2.2.2
  have := (h.sz hp).2
  omega
theorem c_MneedAll (hst : l.stackTraces = false) (h : MR R m0 S X m) (hp : p < 97) (hq : Q (.inl (some (vI (nI (wS S (S.P p) + wS S S.g))))) m) : CC l G xM_needAll [vR (some (R 0)), vI (nI p)] m Q := by
  obtain ⟨g1, g2, g3, g4⟩ := h.gg
  refine bM_needAll hst ⟨h.w.k0, c_MwordsOf hst h hp ?_⟩
  show WW _ _ _ _ _ _ _ _ _ _
  have loop : ∀ zs ys, ys ++ zs = S.g → WW l G xM_needAll 8 [some (vR (some (R 0))), some (vI (nI p)), some (vI (nI (wS S (S.P p) + wS S ys))), some (vI (nI ys.length))] [] m 0 0 Q := by
    intro zs
    induction zs with
    | nil =>
      intro ys e
      rw [List.append_nil] at e
      subst e
      refine bM_needAll_8 ⟨h.w.k0, fun _ => hq, fun q => ?_⟩
      rw [g1] at q
      exact absurd Int32.le_rfl q
    | cons z zs ih =>
      intro ys e
      have hlt : ys.length < S.g.length := by rw [← e]; simp
      have hz4 := g4 z (by rw [← e]; simp)
      have hat : gI m (R 19) ys.length = nI z := g3 _ z (at_mid e)
      refine bM_needAll_8 ⟨h.w.k0, fun q => ?_, fun _ => ⟨R 19, h.w.r19, 300, h.w.k19, vp_in_nI (by omega) (by omega), ?_⟩⟩
      · rw [g1, nI_leI (by omega) (by omega)] at q
        omega
      · rw [nI_clamp (by omega), hat]
        refine c_Mneed hst h hz4 ?_
        show WW _ _ _ _ _ _ _ _ _ _
        have := ih (ys ++ [z]) (by rw [List.append_assoc]; exact e)
        rw [wS_app, wS_cons, List.length_append] at this
        rw [nI_add, nI_1, show wS S (S.P p) + wS S ys + (S.l z + 3) = wS S (S.P p) + (wS S ys + (S.l z + 3 + wS S [])) by simp [wS]; omega]
        exact this
  exact loop S.g [] rfl
theorem drS_len {need : Nat} {mv : Int32} : ∀ (zs ys : List Nat), (drS S need mv ys zs).length ≤ (ys ++ zs).length
  | [], ys => by simp [drS]
  | z :: zs, ys => by
    unfold drS
    split
    · exact Nat.le_refl _
    · split
      · have := drS_len (need := need) (mv := mv) zs ys
        simp at this ⊢
        omega
      · have := drS_len (need := need) (mv := mv) zs (ys ++ [z])
        simp at this ⊢
        omega
theorem c_MdropFirst {mv : Int32} {k : Nat} (hst : l.stackTraces = false) (h : MR R m0 S X m) (hp : p < 97) (hk : k < 13) (hq : ∀ m', MR R m0 ((S.sP (up S.P p (drS S (wS S S.g) mv [] (S.P p)))).sc (up S.c k (S.c k + nI ((S.P p).length - (drS S (wS S S.g) mv [] (S.P p)).length)))) X m' → Q (.inl none) m') : CC l G xM_dropFirst [vR (some (R 0)), vI (nI p), vI mv, vI (nI k)] m Q := by
  refine bM_dropFirst hst ?_
  have loop : ∀ zs ys mm d, (ys ++ zs).length + d = (S.P p).length → MR R m0 ((S.sP (up S.P p (ys ++ zs))).sc (up S.c k (S.c k + nI d))) X mm → drS S (wS S S.g) mv ys zs = drS S (wS S S.g) mv [] (S.P p) → WW l G xM_dropFirst 3 [some (vR (some (R 0))), some (vI (nI p)), some (vI mv), some (vI (nI k)), some (vI (nI ys.length))] [] mm 0 0 Q := by
    intro zs
    induction zs with
    | nil =>
      intro ys mm d hd hR hD
      have hPp : ((S.sP (up S.P p (ys ++ []))).sc (up S.c k (S.c k + nI d))).P p = ys := by
        rw [RS.P_sc, RS.P_sP, up_same, List.append_nil]
      have hfin : Q (.inl none) mm := by
        refine hq mm ?_
        rw [← hD, drS]
        rw [List.append_nil] at hR hd
        rw [show (S.P p).length - ys.length = d by omega]
        exact hR
      obtain ⟨hs1, hs2⟩ := hR.sz hp
      rw [hPp] at hs1 hs2
      refine bM_dropFirst_3 ⟨hR.w.k0, c_MneedAll hst hR hp ⟨fun _ => hfin, fun _ => ⟨hR.w.k0, R 14, hR.w.r14, 97, hR.w.k14, vp_in_nI hp (by omega), fun _ => hfin, fun q => ?_⟩⟩⟩
      rw [nI_clamp (by omega), hs1] at q
      exact absurd Int32.le_rfl q
    | cons z zs ih =>
      intro ys mm d hd hR hD
      have hPp : ((S.sP (up S.P p (ys ++ z :: zs))).sc (up S.c k (S.c k + nI d))).P p = ys ++ z :: zs := by rw [RS.P_sc, RS.P_sP, up_same]
      have hl1 : ((S.sP (up S.P p (ys ++ z :: zs))).sc (up S.c k (S.c k + nI d))).l = S.l := by rw [RS.l_sc, RS.l_sP]
      have hg1 : ((S.sP (up S.P p (ys ++ z :: zs))).sc (up S.c k (S.c k + nI d))).g = S.g := by rw [RS.g_sc, RS.g_sP]
      have hnb' := hR.wp hp
      have hgb' := hR.wg
      rw [hPp, wS_of hl1] at hnb'
      rw [hg1, wS_of hl1] at hgb'
      obtain ⟨hs1, hs2⟩ := hR.sz hp
      rw [hPp] at hs1 hs2
      have hlt : ys.length < (ys ++ z :: zs).length := by simp
      obtain ⟨ha, hz⟩ := hR.at (n := z) (i := ys.length) hp (by rw [hPp]; exact at_mid rfl)
      have hmz : gI mm (R 12) z = S.mk z := by rw [hR.mk hz, RS.mk_sc, RS.mk_sP]
      rw [drS] at hD
      refine bM_dropFirst_3 ⟨hR.w.k0, c_MneedAll hst hR hp ?_⟩
      rw [hPp, hg1, wS_of hl1, wS_of hl1]
      show (nI (wS S (ys ++ z :: zs) + wS S S.g) ≤ 32 → _) ∧ (¬ nI (wS S (ys ++ z :: zs) + wS S S.g) ≤ 32 → _)
      rw [show (32 : Int32) = nI 32 from rfl, nI_leI (by omega) (by omega)]
      refine ⟨fun q => ?_, fun q => ⟨hR.w.k0, R 14, hR.w.r14, 97, hR.w.k14, vp_in_nI hp (by omega), fun q2 => ?_, fun _ => ⟨R 15, hR.w.r15, 776, hR.w.k15, ?_, R 12, hR.w.r12, 4096, hR.w.k12, ?_, fun q2 => ?_, fun q2 => ?_⟩⟩⟩
      · rw [if_pos q] at hD
        refine hq mm ?_
        rw [← hD, show (S.P p).length - (ys ++ z :: zs).length = d by omega]
        exact hR
      · rw [nI_clamp (by omega), hs1, nI_leI (by omega) (by omega)] at q2
        omega
      · rw [n8]
        exact vp_in_nI (by omega) (by omega)
      · rw [n8, nI_clamp (by omega), ha]
        exact vp_in_nI hz (by omega)
      · rw [n8, nI_clamp (by omega), ha, nI_clamp (by omega), hmz] at q2
        rw [if_neg q, if_neg q2] at hD
        have := ih (ys ++ [z]) mm d (by rw [List.append_assoc]; exact hd) (by rw [List.append_assoc]; exact hR) hD
        rw [List.length_append] at this
        rw [nI_1]
        exact this
      · rw [n8, nI_clamp (by omega), ha, nI_clamp (by omega), hmz] at q2
        rw [if_neg q, if_pos q2] at hD
        refine c_MtakeOut hst hR hp (by rw [hPp]; exact hlt) (fun m20 hR20 => ⟨hR20.w.k0, R 23, hR20.w.r23, 13, hR20.w.k23, vp_in_nI hk (by omega), vp_in_nI hk (by omega), fun m28 hm28 => ?_⟩)
        rw [nI_clamp (by omega), hR20.cn hk, RS.c_sP, RS.c_sc] at hm28
        have h28 := hR20.sCnt hk (up S.c k (S.c k + nI d) k + 1)
        have e1 : (ys ++ z :: zs).eraseIdx ys.length = ys ++ zs := by
          rw [List.eraseIdx_append_of_length_le (Nat.le_refl _), Nat.sub_self]
          rfl
        have e2 : up (up S.P p (ys ++ z :: zs)) p (ys ++ zs) = up S.P p (ys ++ zs) := up_up
        have e3 : up (up S.c k (S.c k + nI d)) k (up S.c k (S.c k + nI d) k + 1) = up S.c k (S.c k + nI (d + 1)) := by
          rw [up_up, up_same, Int32.add_assoc, nI_1]
        rw [← hm28, hPp, e1, RS.c_sP, RS.c_sc, RS.P_sc, RS.P_sP, e2, e3, RS.PcPc] at h28
        exact ih ys m28 (d + 1) (by simp at hd ⊢; omega) h28 hD
  have e0 : (S.sP (up S.P p ([] ++ S.P p))).sc (up S.c k (S.c k + nI 0)) = S := by
    have h1 : up S.P p ([] ++ S.P p) = S.P := by
      funext x
      by_cases r : x = p <;> simp [up, r]
    have h2 : up S.c k (S.c k + nI 0) = S.c := by
      funext x
      by_cases r : x = k
      · simp only [up, r, if_pos]
        exact Int32.add_zero _
      · simp [up, r]
    rw [h1, h2, RS.sP_self, RS.sc_self]
  exact loop (S.P p) [] m 0 (by simp) (by rw [e0]; exact h) rfl
/-- the first of those gathered goes -/
theorem c_shift {x : Nat} {g : List Nat} (hst : l.stackTraces = false) (hg : S.g = x :: g) (hq : ∀ m', MR R m0 ((S.sg g).sc (up S.c 7 (S.c 7 + 1))) X m' → WW l G xM_moveAll 93 [some (vR (some (R 0))), some (vI (nI s)), some (vI (nI g.length)), none] [] m' 0 0 Q) (hg4 : ∀ n ∈ g, n < 4096) (hgl : g.length < 264) :
    ∀ d j mm, j + d = g.length → MR R m0 (S.sg (g.take j ++ (x :: g).dropLast.drop j)) X mm → (∀ t n, (x :: g)[t]? = some n → j ≤ t → gI mm (R 19) t = nI n) → WW l G xM_moveAll 115 [some (vR (some (R 0))), some (vI (nI s)), some (vI (nI j)), none] [] mm 0 0 Q := by
  have hdl : ((x :: g).dropLast).length = g.length := by simp
  intro d
  induction d with
  | zero =>
    intro j mm e hR hT
    have e' : j = g.length := by omega
    subst e'
    rw [List.take_of_length_le (Nat.le_refl _), List.drop_of_length_le (by omega), List.append_nil] at hR
    have e18 : gI mm (R 0) 18 = nI g.length := hR.gg.1
    refine bM_moveAll_115 ⟨hR.w.k0, fun _ => ⟨R 23, hR.w.r23, 13, hR.w.k23, vp_in_nI (n := 7) (by omega) (by omega), vp_in_nI (n := 7) (by omega) (by omega), fun m8 hm8 => ?_⟩, fun q => ?_⟩
    · rw [show (7 : Int32).toNatClampNeg = 7 from rfl, hR.cn (by omega)] at hm8
      refine hq m8 ?_
      rw [hm8]
      exact hR.sCnt (by omega) _
    · rw [e18] at q
      exact absurd Int32.le_rfl q
  | succ d ih =>
    intro j mm e hR hT
    have e18 : gI mm (R 0) 18 = nI g.length := by
      have := hR.gg.1
      rw [this]
      show nI (g.take j ++ (x :: g).dropLast.drop j).length = _
      rw [List.length_append, List.length_take, List.length_drop, hdl]
      congr 1
      omega
    obtain ⟨z, hz⟩ : ∃ z, g[j]? = some z := ⟨g[j]'(by omega), List.getElem?_eq_getElem (by omega)⟩
    have hz4 := hg4 z (List.mem_of_getElem? hz)
    refine bM_moveAll_115 ⟨hR.w.k0, fun q => ?_, fun _ => ⟨R 19, hR.w.r19, 300, hR.w.k19, ?_, vp_in_nI (by omega) (by omega), fun m15 hm15 => ?_⟩⟩
    · rw [e18, nI_leI (by omega) (by omega)] at q
      omega
    · rw [nI_1]
      exact vp_in_nI (by omega) (by omega)
    · rw [nI_1, nI_clamp (by omega), nI_clamp (by omega), hT (j + 1) z (by rw [List.getElem?_cons_succ]; exact hz) (by omega)] at hm15
      have h15 := hR.s19 (j := j) hz4
      rw [← hm15] at h15
      have e2 : (S.sg (g.take j ++ (x :: g).dropLast.drop j)).g.set j z = g.take (j + 1) ++ (x :: g).dropLast.drop (j + 1) := td_set (by omega) hz
      rw [e2] at h15
      rw [nI_1]
      refine ih (j + 1) m15 (by omega) h15 (fun t n ht hjt => ?_)
      rw [hm15]
      have : ¬ t = j := by omega
      simp only [gI, mI, this, and_false, if_false]
      exact hT t n ht (by omega)
def dgF (S : RS) (base : Nat) : List Nat → List Nat
  | [] => []
  | x :: g => if base + wS S (x :: g) ≤ 32 then x :: g else dgF S base g
theorem dgF_len {base : Nat} : ∀ g : List Nat, (dgF S base g).length ≤ g.length
  | [] => Nat.le_refl _
  | x :: g => by
    unfold dgF
    split
    · exact Nat.le_refl _
    · have := dgF_len (base := base) g
      simp
      omega
theorem c_mv93 (hst : l.stackTraces = false) (hs : s < 97) (hb : wS S (S.P s) ≤ 32) (hq : ∀ m', MR R m0 ((S.sg (dgF S (wS S (S.P s)) S.g)).sc (up S.c 7 (S.c 7 + nI (S.g.length - (dgF S (wS S (S.P s)) S.g).length)))) X m' → WW l G xM_moveAll 159 [some (vR (some (R 0))), some (vI (nI s)), some (vI 0), none] [] m' 0 0 Q) :
    ∀ (g : List Nat) mm d x2, g.length + d = S.g.length → MR R m0 ((S.sg g).sc (up S.c 7 (S.c 7 + nI d))) X mm → dgF S (wS S (S.P s)) g = dgF S (wS S (S.P s)) S.g → WW l G xM_moveAll 93 [some (vR (some (R 0))), some (vI (nI s)), some (vI x2), none] [] mm 0 0 Q := by
  intro g
  induction g with
  | nil =>
    intro mm d x2 hd hR hD
    have eP : ((S.sg []).sc (up S.c 7 (S.c 7 + nI d))).P = S.P := by rw [RS.P_sc, RS.P_sg]
    have el : ((S.sg []).sc (up S.c 7 (S.c 7 + nI d))).l = S.l := by rw [RS.l_sc, RS.l_sg]
    have eg : ((S.sg []).sc (up S.c 7 (S.c 7 + nI d))).g = [] := by rw [RS.g_sc, RS.g_sg]
    refine bM_moveAll_93 ⟨hR.w.k0, c_MneedAll hst hR hs ?_⟩
    rw [eP, eg, wS_of el, wS_of el]
    refine ⟨fun _ => hq mm ?_, fun q => ?_⟩
    · rw [← hD, dgF, show S.g.length - ([] : List Nat).length = d by simp at hd ⊢; omega]
      exact hR
    · have : ¬ nI (wS S (S.P s) + 0) ≤ 32 := q
      rw [show (32 : Int32) = nI 32 from rfl, nI_leI (by omega) (by omega)] at this
      omega
  | cons x g ih =>
    intro mm d x2 hd hR hD
    have eP : ((S.sg (x :: g)).sc (up S.c 7 (S.c 7 + nI d))).P = S.P := by rw [RS.P_sc, RS.P_sg]
    have el : ((S.sg (x :: g)).sc (up S.c 7 (S.c 7 + nI d))).l = S.l := by rw [RS.l_sc, RS.l_sg]
    have eg : ((S.sg (x :: g)).sc (up S.c 7 (S.c 7 + nI d))).g = x :: g := by rw [RS.g_sc, RS.g_sg]
    have hgb := hR.wg
    rw [eg, wS_of el] at hgb
    have hgg := hR.gg
    rw [eg] at hgg
    obtain ⟨b1, b2, b3, b4⟩ := hgg
    rw [List.length_cons] at b1 b2
    rw [dgF] at hD
    refine bM_moveAll_93 ⟨hR.w.k0, c_MneedAll hst hR hs ?_⟩
    rw [eP, eg, wS_of el, wS_of el]
    show (nI (wS S (S.P s) + wS S (x :: g)) ≤ 32 → _) ∧ (¬ nI (wS S (S.P s) + wS S (x :: g)) ≤ 32 → _)
    rw [show (32 : Int32) = nI 32 from rfl, nI_leI (by omega) (by omega)]
    refine ⟨fun q => ?_, fun q => ⟨hR.w.k0, fun m5 hm5 => ?_⟩⟩
    · rw [if_pos q] at hD
      refine hq mm ?_
      rw [← hD, show S.g.length - (x :: g).length = d by omega]
      exact hR
    · rw [if_neg q] at hD
      rw [b1, show (1 : Int32) = nI 1 from rfl, pk_sub (by omega), show g.length + 1 - 1 = ((x :: g).dropLast).length by simp] at hm5
      have h5 := hR.sG ((x :: g).dropLast) (by simp; omega) (fun t n ht => b3 t n (by
        rw [List.getElem?_dropLast] at ht
        split at ht
        · exact ht
        · cases ht)) (fun n hn => b4 n (List.dropLast_subset _ hn))
      rw [← hm5] at h5
      refine c_shift (S := (S.sg (x :: g)).sc (up S.c 7 (S.c 7 + nI d))) (x := x) (g := g) hst eg (fun m' h' => ?_) (fun n hn => b4 n (List.mem_cons_of_mem _ hn)) (by omega) g.length 0 m5 (by omega) (by rw [List.take_zero, List.drop_zero, List.nil_append]; exact h5) (fun t n ht _ => ?_)
      · refine ih m' (d + 1) _ (by simp at hd; omega) ?_ hD
        have e3 : up (up S.c 7 (S.c 7 + nI d)) 7 (up S.c 7 (S.c 7 + nI d) 7 + 1) = up S.c 7 (S.c 7 + nI (d + 1)) := by
          rw [up_up, up_same, Int32.add_assoc, nI_1]
        rw [RS.c_sc, e3, RS.gcgc] at h'
        exact h'
      · rw [hm5]
        have ne : R 19 ≠ R 0 := fun r => absurd (hR.w.2.2 19 0 (by decide) (by decide) r) (by decide)
        simp only [gI, mI, ne, false_and, if_false]
        exact b3 t n ht
/-- the marks of a page's numbers go -/
def clF (f : Nat → Int32) (xs : List Nat) : Nat → Int32 := xs.foldl (fun f x => up f x 0) f
theorem clF_in {f : Nat → Int32} : ∀ (xs : List Nat) (f : Nat → Int32), (n ∈ xs → clF f xs n = 0) ∧ (n ∉ xs → clF f xs n = f n)
  | [], f => ⟨(fun h => nomatch h), fun _ => rfl⟩
  | x :: xs, f => by
    obtain ⟨h1, h2⟩ := clF_in (f := f) xs (up f x 0)
    refine ⟨fun h => ?_, fun h => ?_⟩
    · by_cases q : n ∈ xs
      · exact h1 q
      · have : n = x := by
          rcases List.mem_cons.mp h with r | r
          · exact r
          · exact absurd r q
        show clF (up f x 0) xs n = 0
        rw [h2 q, this, up_same]
    · have q : n ∉ xs := fun r => h (List.mem_cons_of_mem _ r)
      have q2 : n ≠ x := fun r => h (by rw [r]; exact List.mem_cons_self)
      show clF (up f x 0) xs n = f n
      rw [h2 q]
      simp [up, q2]
theorem c_mv159 (hs : s < 97) (hq : ∀ m', MR R m0 (S.smk (clF S.mk (S.P s))) X m' → WW l G xM_moveAll 194 [some (vR (some (R 0))), some (vI (nI s)), some (vI 0), none] [] m' 0 0 Q) :
    ∀ zs ys mm, ys ++ zs = S.P s → MR R m0 (S.smk (clF S.mk ys)) X mm → WW l G xM_moveAll 159 [some (vR (some (R 0))), some (vI (nI s)), some (vI (nI ys.length)), none] [] mm 0 0 Q := by
  intro zs
  induction zs with
  | nil =>
    intro ys mm e hR
    obtain ⟨hs1, hs2⟩ := hR.sz hs
    have hs1' : gI mm (R 14) s = nI (S.P s).length := hs1
    rw [List.append_nil] at e
    refine bM_moveAll_159 ⟨hR.w.k0, R 14, hR.w.r14, 97, hR.w.k14, vp_in_nI hs (by omega), fun _ => hq mm (by rw [← e]; exact hR), fun q => ?_⟩
    rw [nI_clamp (by omega), hs1', e] at q
    exact absurd Int32.le_rfl q
  | cons z zs ih =>
    intro ys mm e hR
    obtain ⟨hs1, hs2⟩ := hR.sz hs
    have hs1' : gI mm (R 14) s = nI (S.P s).length := hs1
    have hs2' : (S.P s).length ≤ 8 := hs2
    have hlt : ys.length < (S.P s).length := by rw [← e]; simp
    obtain ⟨ha, hz⟩ := hR.at (n := z) hs (at_mid e)
    refine bM_moveAll_159 ⟨hR.w.k0, R 14, hR.w.r14, 97, hR.w.k14, vp_in_nI hs (by omega), fun q => ?_, fun _ => ⟨R 15, hR.w.r15, 776, hR.w.k15, ?_, R 12, hR.w.r12, 4096, hR.w.k12, ?_, fun m17 hm17 => ?_⟩⟩
    · rw [nI_clamp (by omega), hs1', nI_leI (by omega) (by omega)] at q
      omega
    · rw [n8]
      exact vp_in_nI (by omega) (by omega)
    · rw [n8, nI_clamp (by omega), ha]
      exact vp_in_nI hz (by omega)
    · rw [n8, nI_clamp (by omega), ha, nI_clamp (by omega)] at hm17
      have h17 := hR.sMk hz 0
      rw [← hm17] at h17
      have := ih (ys ++ [z]) m17 (by rw [List.append_assoc]; exact e) (by
        have e2 : clF S.mk (ys ++ [z]) = up (clF S.mk ys) z 0 := by
          unfold clF
          rw [List.foldl_append]
          rfl
        rw [e2]
        exact h17)
      rw [List.length_append] at this
      rw [nI_1]
      exact this
end L2Z
