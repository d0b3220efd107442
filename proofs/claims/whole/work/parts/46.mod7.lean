/-! the reference: gathering, what all need, dropping the first -/
def drS (S : RS) (need : Nat) (mv : Int32) : List Nat → List Nat → List Nat
  | ys, [] => ys
  | ys, z :: zs => if wS S (ys ++ z :: zs) + need ≤ 32 then ys ++ z :: zs else if S.mk z = mv then drS S need mv ys zs else drS S need mv (ys ++ [z]) zs
section L2Y
variable {l : Launch} {G : xG} {Q : XR → XM → Prop} {R : Nat → Nat} {m0 m m' : XM} {S S' : RS} {X X' : RX} {i j n p s : Nat} {v : Int32} {key : Int64}
theorem MR.s19 (h : MR R m0 S X m) (hn : n < 4096) : MR R m0 (S.sg (S.g.set j n)) X (mI m (R 19) j (nI n)) := by
  obtain ⟨h1, h2, h3, h4, h5, h6, h7, h8, h9, h10, h11, ⟨g1, g2, g3, g4⟩, hr⟩ := h.f
  refine h.wI (by decide) ⟨h1, h2, h3, h4, h5, h6, h7, h8, h9, h10, h11, ⟨?_, ?_, fun i y hi => ?_, fun y hy => ?_⟩, hr⟩
  · show iM R m 0 18 = nI (S.g.set j n).length
    rw [List.length_set]
    exact g1
  · show (S.g.set j n).length ≤ 264
    rw [List.length_set]
    exact g2
  · have hi' : (S.g.set j n)[i]? = some y := hi
    show up (iM R m 19) j (nI n) i = nI y
    by_cases q : i = j
    · subst q
      rw [List.getElem?_set_self (by
        have := (List.getElem?_eq_some_iff.mp hi').1
        simpa using this)] at hi'
      cases hi'
      rw [up_same]
    · rw [List.getElem?_set_ne (by omega)] at hi'
      simp only [up, if_neg q]
      exact g3 i y hi'
  · have hy' : y ∈ S.g.set j n := hy
    rcases List.mem_or_eq_of_mem_set hy' with r | r
    · exact g4 y r
    · rw [r]
      exact hn
theorem MR.s21 (h : MR R m0 S X m) (hn : n < 4096) : MR R m0 (S.sh (S.h.set j n)) X (mI m (R 21) j (nI n)) := by
  obtain ⟨h1, h2, h3, h4, h5, h6, h7, h8, h9, h10, h11, h12, ⟨g1, g2, g3, g4⟩, hr⟩ := h.f
  refine h.wI (by decide) ⟨h1, h2, h3, h4, h5, h6, h7, h8, h9, h10, h11, h12, ⟨?_, ?_, fun i y hi => ?_, fun y hy => ?_⟩, hr⟩
  · show iM R m 0 20 = nI (S.h.set j n).length
    rw [List.length_set]
    exact g1
  · show (S.h.set j n).length ≤ 264
    rw [List.length_set]
    exact g2
  · have hi' : (S.h.set j n)[i]? = some y := hi
    show up (iM R m 21) j (nI n) i = nI y
    by_cases q : i = j
    · subst q
      rw [List.getElem?_set_self (by
        have := (List.getElem?_eq_some_iff.mp hi').1
        simpa using this)] at hi'
      cases hi'
      rw [up_same]
    · rw [List.getElem?_set_ne (by omega)] at hi'
      simp only [up, if_neg q]
      exact g3 i y hi'
  · have hy' : y ∈ S.h.set j n := hy
    rcases List.mem_or_eq_of_mem_set hy' with r | r
    · exact g4 y r
    · rw [r]
      exact hn
theorem MR.sG (h : MR R m0 S X m) (g : List Nat) (hl : g.length ≤ 264) (ha : ∀ i n, g[i]? = some n → gI m (R 19) i = nI n) (hb : ∀ n ∈ g, n < 4096) : MR R m0 (S.sg g) X (mI m (R 0) 18 (nI g.length)) := by
  obtain ⟨h1, h2, h3, h4, h5, h6, h7, h8, h9, h10, h11, h12, hr⟩ := h.f
  exact h.wI (by decide) ⟨h1, h2, h3, h4, h5, h6, h7, h8, h9, h10, h11, ⟨rfl, hl, ha, hb⟩, hr⟩
theorem MR.sH (h : MR R m0 S X m) (g : List Nat) (hl : g.length ≤ 264) (ha : ∀ i n, g[i]? = some n → gI m (R 21) i = nI n) (hb : ∀ n ∈ g, n < 4096) : MR R m0 (S.sh g) X (mI m (R 0) 20 (nI g.length)) := by
  obtain ⟨h1, h2, h3, h4, h5, h6, h7, h8, h9, h10, h11, h12, h13, hr⟩ := h.f
  exact h.wI (by decide) ⟨h1, h2, h3, h4, h5, h6, h7, h8, h9, h10, h11, h12, ⟨rfl, hl, ha, hb⟩, hr⟩
/-- one is put into its place among those gathered -/
theorem c_ins {x p y : Nat} (hp : p < 97) (hx : x < 4096) (hgl : S.g.length + 1 ≤ 264) (hso : S.g.Pairwise (fun a b => S.cm a < S.cm b)) (hne : ∀ y ∈ S.g, S.cm y ≠ S.cm x) (hg4 : ∀ n ∈ S.g, n < 4096)
    (hq : ∀ g' m', g'.Pairwise (fun a b => S.cm a < S.cm b) → (∀ n, n ∈ g' ↔ n = x ∨ n ∈ S.g) → g'.length = S.g.length + 1 → MR R m0 (S.sg g') X m' → WW l G xM_gatherAll 16 [some (vR (some (R 0))), some (vI (nI s)), some (vI (nI p)), some (vI (nI (y + 1))), none, none] [] m' 0 0 Q) :
    ∀ j mm g2, j ≤ S.g.length → g2.length = S.g.length → MR R m0 (S.sg g2) X mm → (∀ t n, S.g[t]? = some n → t < j → gI mm (R 19) t = nI n) → (∀ t n, S.g[t]? = some n → j ≤ t → gI mm (R 19) (t + 1) = nI n ∧ S.cm x < S.cm n) → WW l G xM_gatherAll 69 [some (vR (some (R 0))), some (vI (nI s)), some (vI (nI p)), some (vI (nI y)), some (vI (nI x)), some (vI (nI j))] [] mm 0 0 Q := by
  have fin : ∀ j mm g2, j ≤ S.g.length → g2.length = S.g.length → MR R m0 (S.sg g2) X mm → (∀ t n, S.g[t]? = some n → t < j → gI mm (R 19) t = nI n) → (∀ t n, S.g[t]? = some n → j ≤ t → gI mm (R 19) (t + 1) = nI n ∧ S.cm x < S.cm n) → (∀ n ∈ S.g.take j, S.cm n < S.cm x) → WW l G xM_gatherAll 120 [some (vR (some (R 0))), some (vI (nI s)), some (vI (nI p)), some (vI (nI y)), some (vI (nI x)), some (vI (nI j))] [] mm 0 0 Q := by
    intro j mm g2 hj hg2 hR hA hB hC
    refine bM_gatherAll_120 ⟨hR.w.k0, R 19, hR.w.r19, 300, hR.w.k19, vp_in_nI (by omega) (by omega), fun m7 hm7 m8 hm8 => ?_⟩
    rw [nI_clamp (by omega)] at hm7
    have h7 := hR.s19 (j := j) hx
    rw [← hm7] at h7
    have e18 : gI m7 (R 0) 18 = nI S.g.length := by
      have := h7.gg.1
      rw [this]
      show nI (g2.set j x).length = _
      rw [List.length_set, hg2]
    rw [e18, nI_1] at hm8
    have hlen : (S.g.take j ++ x :: S.g.drop j).length = S.g.length + 1 := by
      simp only [List.length_append, List.length_cons, List.length_take, List.length_drop]
      omega
    have h8 := h7.sG (S.g.take j ++ x :: S.g.drop j) (by omega) (fun t n ht => ?_) (fun n hn => ?_)
    · rw [hlen, ← hm8] at h8
      rw [nI_1]
      refine hq _ m8 ?_ (fun n => ?_) hlen h8
      · rw [List.pairwise_append]
        refine ⟨hso.sublist (List.take_sublist _ _), List.pairwise_cons.mpr ⟨fun b hb => ?_, hso.sublist (List.drop_sublist _ _)⟩, fun a ha b hb => ?_⟩
        · obtain ⟨t, ht⟩ := List.getElem?_of_mem hb
          rw [List.getElem?_drop] at ht
          exact (hB _ b ht (by omega)).2
        · rcases List.mem_cons.mp hb with r | r
          · rw [r]
            exact hC a ha
          · obtain ⟨t, ht⟩ := List.getElem?_of_mem r
            rw [List.getElem?_drop] at ht
            exact Nat.lt_trans (hC a ha) (hB _ b ht (by omega)).2
      · rw [List.mem_append, List.mem_cons]
        constructor
        · rintro (r | r | r)
          · exact Or.inr (List.mem_of_mem_take r)
          · exact Or.inl r
          · exact Or.inr (List.mem_of_mem_drop r)
        · rintro (r | r)
          · exact Or.inr (Or.inl r)
          · rw [← List.take_append_drop j S.g, List.mem_append] at r
            rcases r with r | r
            · exact Or.inl r
            · exact Or.inr (Or.inr r)
    · rw [hm7]
      by_cases q : t = j
      · subst q
        rw [List.getElem?_append_right (by simp; omega)] at ht
        have e0 : t - (S.g.take t).length = 0 := by simp; omega
        rw [e0] at ht
        simp at ht
        subst ht
        simp [gI, mI]
      · simp only [gI, mI]
        simp only [q, and_false, if_false]
        by_cases r : t < j
        · rw [List.getElem?_append_left (by simp; omega), List.getElem?_take_of_lt r] at ht
          exact hA t n ht r
        · rw [List.getElem?_append_right (by simp; omega)] at ht
          obtain ⟨t', rfl⟩ : ∃ t', t = t' + 1 := ⟨t - 1, by omega⟩
          have e0 : t' + 1 - (S.g.take j).length = (t' - j) + 1 := by simp; omega
          rw [e0, List.getElem?_cons_succ, List.getElem?_drop, show j + (t' - j) = t' by omega] at ht
          exact (hB t' n ht (by omega)).1
    · rw [List.mem_append, List.mem_cons] at hn
      rcases hn with r | r | r
      · exact hg4 n (List.mem_of_mem_take r)
      · rw [r]; exact hx
      · exact hg4 n (List.mem_of_mem_drop r)
  intro j
  induction j with
  | zero =>
    intro mm g2 hj hg2 hR hA hB
    refine bM_gatherAll_69 ⟨fun _ => fin 0 mm g2 hj hg2 hR hA hB (fun n hn => by simp at hn), fun q => absurd Int32.le_rfl q⟩
  | succ j ih =>
    intro mm g2 hj hg2 hR hA hB
    obtain ⟨z, hz⟩ : ∃ z, S.g[j]? = some z := ⟨S.g[j]'(by omega), List.getElem?_eq_getElem (by omega)⟩
    have hzg := List.mem_of_getElem? hz
    have hz4 := hg4 z hzg
    have haz := hA j z hz (by omega)
    have ej : nI (j + 1) - 1 = nI j := by
      rw [show (1 : Int32) = nI 1 from rfl, pk_sub (by omega)]
      congr 1
    have hcz : gI mm (R 11) z = nI (S.cm z) ∧ S.cm z < 2 ^ 30 := hR.cm hz4
    have hcx : gI mm (R 11) x = nI (S.cm x) ∧ S.cm x < 2 ^ 30 := hR.cm hx
    refine bM_gatherAll_69 ⟨fun q => ?_, fun _ => ⟨hR.w.k0, R 19, hR.w.r19, 300, hR.w.k19, ?_, R 11, hR.w.r11, 4096, hR.w.k11, ?_, vp_in_nI hx (by omega), fun q => ?_, fun q => ⟨?_, vp_in_nI (by omega) (by omega), fun m15 hm15 => ?_⟩⟩⟩
    · rw [show (0 : Int32) = nI 0 from rfl, nI_leI (by omega) (by omega)] at q
      omega
    · rw [ej]
      exact vp_in_nI (by omega) (by omega)
    · rw [ej, nI_clamp (by omega), haz]
      exact vp_in_nI hz4 (by omega)
    · rw [ej, nI_clamp (by omega), haz, nI_clamp (by omega), nI_clamp (by omega), hcz.1, hcx.1, nI_leI (by omega) (by omega)] at q
      refine fin (j + 1) mm g2 hj hg2 hR hA hB (fun n hn => ?_)
      have hlt : S.cm z < S.cm x := Nat.lt_of_le_of_ne q (hne z hzg)
      obtain ⟨t, ht⟩ := List.getElem?_of_mem hn
      have htj : t < j + 1 := by
        have := (List.getElem?_eq_some_iff.mp ht).1
        simp at this
        omega
      rw [List.getElem?_take_of_lt htj] at ht
      by_cases r : t = j
      · rw [r, hz] at ht
        cases ht
        exact hlt
      · have h1 := List.getElem?_eq_some_iff.mp ht
        have h2 := List.getElem?_eq_some_iff.mp hz
        obtain ⟨h1a, h1b⟩ := h1
        obtain ⟨h2a, h2b⟩ := h2
        have := List.pairwise_iff_getElem.mp hso t j h1a h2a (by omega)
        rw [h1b, h2b] at this
        omega
    · rw [ej]
      exact vp_in_nI (by omega) (by omega)
    · rw [ej, nI_clamp (by omega), haz, nI_clamp (by omega), nI_clamp (by omega), hcz.1, hcx.1, nI_leI (by omega) (by omega)] at q
      rw [ej, nI_clamp (by omega), nI_clamp (by omega), haz] at hm15
      rw [pk_m1]
      have h15 := hR.s19 (j := j + 1) hz4
      rw [← hm15] at h15
      refine ih m15 (g2.set (j + 1) z) (by omega) (by rw [List.length_set]; exact hg2) h15 (fun t n ht htj => ?_) (fun t n ht htj => ?_)
      · rw [hm15]
        have : ¬ t = j + 1 := by omega
        simp only [gI, mI, this, and_false, if_false]
        exact hA t n ht (by omega)
      · by_cases r : t = j
        · subst r
          rw [hz] at ht
          cases ht
          refine ⟨?_, by omega⟩
          rw [hm15]
          simp [gI, mI]
        · refine ⟨?_, (hB t n ht (by omega)).2⟩
          rw [hm15]
          simp only [gI, mI]
          rw [if_neg (by omega)]
          exact (hB t n ht (by omega)).1
theorem c_MgatherAll (hst : l.stackTraces = false) (hs : s < 64) (h : MR R m0 S X m) (hnd : (lgs S).Nodup) (hcm : ∀ a ∈ lgs S, ∀ b ∈ lgs S, S.nw a ≠ 0 → S.nw b ≠ 0 → S.cm a = S.cm b → a = b)
    (hq : ∀ g m', g.Pairwise (fun a b => S.cm a < S.cm b) → (∀ n, n ∈ g ↔ n ∈ lgs S ∧ S.nw n ≠ 0 ∧ sN (S.k n) = s) → MR R m0 (S.sg g) X m' → Q (.inl none) m') : CC l G xM_gatherAll [vR (some (R 0)), vI (nI s)] m Q := by
  have hlen : (lgs S).length ≤ 264 := pgs_len (fun p hp => (h.sz hp).2) 33 64 (by omega)
  refine bM_gatherAll hst ⟨h.w.k0, fun m2 hm2 => ?_⟩
  have h2 := h.g0
  rw [← hm2] at h2
  -- what holds of those gathered out of dn
  have out : ∀ k p mm g dn, p + k = 97 → MR R m0 (S.sg g) X mm → dn ++ pgs S.P p k = lgs S → g.Pairwise (fun a b => S.cm a < S.cm b) → (∀ n, n ∈ g ↔ n ∈ dn ∧ S.nw n ≠ 0 ∧ sN (S.k n) = s) → WW l G xM_gatherAll 8 [some (vR (some (R 0))), some (vI (nI s)), some (vI (nI p)), none, none, none] [] mm 0 0 Q := by
    intro k
    induction k with
    | zero =>
      intro p mm g dn e hR hd hso hme
      have : p = 97 := by omega
      subst this
      rw [pgs, List.append_nil] at hd
      subst hd
      exact bM_gatherAll_8 ⟨fun _ => hq g mm hso hme hR, fun q => absurd Int32.le_rfl q⟩
    | succ k ih =>
      intro p mm g dn e hR hd hso hme
      have hp : p < 97 := by omega
      refine bM_gatherAll_8 ⟨fun q => ?_, fun _ => ?_⟩
      · rw [show (97 : Int32) = nI 97 from rfl, nI_leI (by omega) (by omega)] at q
        omega
      have inn : ∀ zs ys mm g dn, ys ++ zs = S.P p → MR R m0 (S.sg g) X mm → dn ++ (zs ++ pgs S.P (p + 1) k) = lgs S → g.Pairwise (fun a b => S.cm a < S.cm b) → (∀ n, n ∈ g ↔ n ∈ dn ∧ S.nw n ≠ 0 ∧ sN (S.k n) = s) → WW l G xM_gatherAll 16 [some (vR (some (R 0))), some (vI (nI s)), some (vI (nI p)), some (vI (nI ys.length)), none, none] [] mm 0 0 Q := by
        intro zs
        induction zs with
        | nil =>
          intro ys mm g dn e hR hd hso hme
          obtain ⟨hs1, hs2⟩ := hR.sz hp
          rw [List.append_nil] at e
          refine bM_gatherAll_16 ⟨hR.w.k0, R 14, hR.w.r14, 97, hR.w.k14, vp_in_nI hp (by omega), fun _ => ?_, fun q => ?_⟩
          · rw [nI_1]
            exact ih (p + 1) mm g dn (by omega) hR hd hso hme
          · rw [nI_clamp (by omega), hs1, show (S.sg g).P p = S.P p from rfl, e] at q
            exact absurd Int32.le_rfl q
        | cons z zs ih2 =>
          intro ys mm g dn e hR hd hso hme
          obtain ⟨hs1, hs2⟩ := hR.sz hp
          have hs1' : gI mm (R 14) p = nI (S.P p).length := hs1
          have hlt : ys.length < (S.P p).length := by rw [← e]; simp
          have hs2' : (S.P p).length ≤ 8 := hs2
          obtain ⟨ha, hz⟩ := hR.at (n := z) hp (at_mid e)
          have hnwz : gI mm (R 9) z = S.nw z := hR.nw hz
          have hkz : gL mm (R 6) z = S.k z := hR.key hz
          have hd' : (dn ++ [z]) ++ (zs ++ pgs S.P (p + 1) k) = lgs S := by rw [List.append_assoc]; exact hd
          have hzl : z ∈ lgs S := by rw [← hd]; simp
          have hzd : z ∉ dn := by
            have := hnd
            rw [← hd, List.nodup_append] at this
            exact fun r => this.2.2 z r z (by simp) rfl
          have skip : ¬ (S.nw z ≠ 0 ∧ sN (S.k z) = s) → WW l G xM_gatherAll 16 [some (vR (some (R 0))), some (vI (nI s)), some (vI (nI p)), some (vI (nI ys.length + 1)), none, none] [] mm 0 0 Q := by
            intro hno
            have := ih2 (ys ++ [z]) mm g (dn ++ [z]) (by rw [List.append_assoc]; exact e) hR hd' hso (fun n => by
              rw [hme n, List.mem_append, List.mem_singleton]
              constructor
              · rintro ⟨r1, r2⟩
                exact ⟨Or.inl r1, r2⟩
              · rintro ⟨r1 | r1, r2⟩
                · exact ⟨r1, r2⟩
                · subst r1
                  exact absurd r2 hno)
            rw [List.length_append] at this
            rw [nI_1]
            exact this
          refine bM_gatherAll_16 ⟨hR.w.k0, R 14, hR.w.r14, 97, hR.w.k14, vp_in_nI hp (by omega), fun q => ?_, fun _ => ⟨R 15, hR.w.r15, 776, hR.w.k15, ?_, R 9, hR.w.r9, 4096, hR.w.k9, ?_, fun q => ?_, fun q => ⟨R 6, hR.w.r6, 4096, hR.w.k6, ?_, ?_⟩⟩⟩
          · rw [nI_clamp (by omega), hs1', nI_leI (by omega) (by omega)] at q
            omega
          · rw [n8]
            exact vp_in_nI (by omega) (by omega)
          · rw [n8, nI_clamp (by omega), ha]
            exact vp_in_nI hz (by omega)
          · rw [n8, nI_clamp (by omega), ha, nI_clamp (by omega), hnwz] at q
            exact skip (fun r => r.1 q)
          · rw [n8, nI_clamp (by omega), ha]
            exact vp_in_nI hz (by omega)
          · rw [n8, nI_clamp (by omega), ha, nI_clamp (by omega), hnwz] at q
            rw [n8, nI_clamp (by omega), ha, nI_clamp (by omega), hkz]
            have hsz := sN_lt (S.k z)
            refine c_MsetOfKey hst ⟨fun q2 => ?_, fun q2 => ⟨hR.w.k0, ?_⟩⟩
            · rw [setF_n, nI_eq (by omega) (by omega)] at q2
              exact skip (fun r => q2 r.2)
            · rw [setF_n, nI_eq (by omega) (by omega)] at q2
              have e18 : gI mm (R 0) 18 = nI g.length := hR.gg.1
              rw [e18]
              have hgsub : ∀ n ∈ g, n ∈ lgs S := fun n hn => by
                rw [← hd]
                exact List.mem_append_left _ ((hme n).mp hn).1
              have hgnd : g.Nodup := hso.imp (fun {a b} hab r => by rw [r] at hab; omega)
              have hzg : z ∉ g := fun r => hzd ((hme z).mp r).1
              have hgl : g.length + 1 ≤ 264 := by
                have := len_sub (xs := z :: g) (ys := lgs S) (List.nodup_cons.mpr ⟨hzg, hgnd⟩) (fun n hn => by
                  rcases List.mem_cons.mp hn with r | r
                  · rw [r]; exact hzl
                  · exact hgsub n r)
                simp at this
                omega
              obtain ⟨-, -, b3, b4⟩ := hR.gg
              refine c_ins (S := S.sg g) (x := z) (p := p) (y := ys.length) hp hz hgl hso (fun y hy r => hzg (by
                have := hcm y (hgsub y hy) z hzl ((hme y).mp hy).2.1 q r
                rw [← this]; exact hy)) b4 (fun g' m' hso' hme' hl' hR' => ?_) g.length mm g (Nat.le_refl _) rfl hR (fun t n ht _ => b3 t n ht) (fun t n ht r => ?_)
              · have := ih2 (ys ++ [z]) m' g' (dn ++ [z]) (by rw [List.append_assoc]; exact e) hR' hd' hso' (fun n => by
                  rw [hme' n, List.mem_append, List.mem_singleton]
                  constructor
                  · rintro (r | r)
                    · subst r
                      exact ⟨Or.inr rfl, q, q2⟩
                    · obtain ⟨r1, r2⟩ := (hme n).mp r
                      exact ⟨Or.inl r1, r2⟩
                  · rintro ⟨r1 | r1, r2⟩
                    · exact Or.inr ((hme n).mpr ⟨r1, r2⟩)
                    · exact Or.inl r1)
                rw [List.length_append] at this
                exact this
              · have := (List.getElem?_eq_some_iff.mp ht).1
                have e3 : (S.sg g).g = g := rfl
                rw [e3] at this
                omega
      exact inn (S.P p) [] mm g dn rfl hR hd hso hme
  exact out 33 64 m2 [] [] rfl h2 rfl List.Pairwise.nil (fun n => by simp)
end L2Y
