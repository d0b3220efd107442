/-! the reference: taking out, appending, free numbers, copies, telling -/
def vlS (S : RS) (n : Nat) : List Int32 := (List.range (S.l n)).map (S.v n)
def cpS (S : RS) (n v : Nat) : RS := ((((((S.sk (up S.k v (S.k n))).sl (up S.l v (S.l n))).sv (up S.v v (S.v n))).snw (up S.nw v 0)).sgt (up S.gt v 0)).smk (up S.mk v 0))
section L2V
variable {l : Launch} {G : xG} {Q : XR → XM → Prop} {R : Nat → Nat} {m0 m m' : XM} {S S' : RS} {X X' : RX} {i j n p : Nat} {v : Int32} {key : Int64}
theorem td_set {α : Type} {xs ys : List α} {j : Nat} {z : α} (hl : xs.length = ys.length) (hz : xs[j]? = some z) : (xs.take j ++ ys.drop j).set j z = xs.take (j + 1) ++ ys.drop (j + 1) := by
  have hj : j < xs.length := (List.getElem?_eq_some_iff.mp hz).1
  obtain ⟨y, ys', e⟩ : ∃ y ys', ys.drop j = y :: ys' := by
    cases r : ys.drop j with
    | nil =>
      have := congrArg List.length r
      simp at this
      omega
    | cons y ys' => exact ⟨y, ys', rfl⟩
  have e2 : ys.drop (j + 1) = ys' := by
    rw [← List.drop_drop, e]
    rfl
  rw [e, e2, List.set_append_right _ _ (by simp; omega)]
  have : (xs.take j).length = j := by simp; omega
  rw [this, Nat.sub_self, List.set_cons_zero, List.take_add_one, hz]
  simp
theorem MR.sAt (h : MR R m0 S X m) (hp : p < 97) (hn : n < 4096) (hj : j < 8) : MR R m0 (S.sP (up S.P p ((S.P p).set j n))) X (mI m (R 15) (8 * p + j) (nI n)) := by
  obtain ⟨h1, hr⟩ := h.f
  refine h.wI (by decide) ⟨fun q hq => ?_, hr⟩
  show (up S.P p ((S.P p).set j n) q).length ≤ 8 ∧ iM R m 14 q = nI (up S.P p ((S.P p).set j n) q).length ∧ (∀ i n', (up S.P p ((S.P p).set j n) q)[i]? = some n' → up (iM R m 15) (8 * p + j) (nI n) (8 * q + i) = nI n') ∧ ∀ n' ∈ up S.P p ((S.P p).set j n) q, n' < 4096
  obtain ⟨g1, g2, g3, g4⟩ := h1 q hq
  by_cases e : q = p
  · subst e
    rw [up_same]
    refine ⟨by simpa using g1, by simpa using g2, fun i n' hi => ?_, fun n' hn' => ?_⟩
    · by_cases r : i = j
      · subst r
        rw [List.getElem?_set_self (by
          have := (List.getElem?_eq_some_iff.mp hi).1
          simpa using this)] at hi
        cases hi
        rw [up_same]
      · rw [List.getElem?_set_ne (by omega)] at hi
        have : ¬ 8 * q + i = 8 * q + j := by omega
        simp only [up, if_neg this]
        exact g3 i n' hi
    · rcases List.mem_or_eq_of_mem_set hn' with r | r
      · exact g4 n' r
      · rw [r]
        exact hn
  · simp only [up, if_neg e]
    refine ⟨g1, g2, fun i n' hi => ?_, g4⟩
    have hi8 : i < 8 := by
      have := (List.getElem?_eq_some_iff.mp hi).1
      omega
    have : ¬ 8 * q + i = 8 * p + j := by omega
    rw [if_neg this]
    exact g3 i n' hi
theorem MR.sSz (h : MR R m0 S X m) (hp : p < 97) (hk : n ≤ (S.P p).length) : MR R m0 (S.sP (up S.P p ((S.P p).take n))) X (mI m (R 14) p (nI n)) := by
  obtain ⟨h1, hr⟩ := h.f
  refine h.wI (by decide) ⟨fun q hq => ?_, hr⟩
  show (up S.P p ((S.P p).take n) q).length ≤ 8 ∧ up (iM R m 14) p (nI n) q = nI (up S.P p ((S.P p).take n) q).length ∧ (∀ i n', (up S.P p ((S.P p).take n) q)[i]? = some n' → iM R m 15 (8 * q + i) = nI n') ∧ ∀ n' ∈ up S.P p ((S.P p).take n) q, n' < 4096
  obtain ⟨g1, g2, g3, g4⟩ := h1 q hq
  by_cases e : q = p
  · subst e
    rw [up_same, up_same]
    have hl : ((S.P q).take n).length = n := by simp; omega
    refine ⟨by omega, by rw [hl], fun i n' hi => ?_, fun n' hn' => g4 n' (List.mem_of_mem_take hn')⟩
    have hin : i < n := by
      have := (List.getElem?_eq_some_iff.mp hi).1
      omega
    rw [List.getElem?_take_of_lt hin] at hi
    exact g3 i n' hi
  · simp only [up, if_neg e]
    exact ⟨g1, g2, g3, g4⟩
theorem MR.app (h : MR R m0 S X m) (hp : p < 97) (hn : n < 4096) (hl : (S.P p).length < 8) : MR R m0 (S.sP (up S.P p (S.P p ++ [n]))) X (mI (mI m (R 15) (8 * p + (S.P p).length) (nI n)) (R 14) p (nI ((S.P p).length + 1))) := by
  obtain ⟨h1, hr⟩ := h.f
  have h2 : MR R m0 S X (mI m (R 15) (8 * p + (S.P p).length) (nI n)) := by
    refine h.wI (by decide) ⟨fun q hq => ?_, hr⟩
    show (S.P q).length ≤ 8 ∧ iM R m 14 q = nI (S.P q).length ∧ (∀ i n', (S.P q)[i]? = some n' → up (iM R m 15) (8 * p + (S.P p).length) (nI n) (8 * q + i) = nI n') ∧ ∀ n' ∈ S.P q, n' < 4096
    obtain ⟨g1, g2, g3, g4⟩ := h1 q hq
    refine ⟨g1, g2, fun i n' hi => ?_, g4⟩
    have hi8 := (List.getElem?_eq_some_iff.mp hi).1
    have : ¬ 8 * q + i = 8 * p + (S.P p).length := by
      intro r
      have : q = p := by omega
      subst this
      omega
    simp only [up, if_neg this]
    exact g3 i n' hi
  obtain ⟨k1, kr⟩ := h2.f
  refine h2.wI (by decide) ⟨fun q hq => ?_, kr⟩
  generalize hJ : iM R (mI m (R 15) (8 * p + (S.P p).length) (nI n)) = J at k1 ⊢
  show (up S.P p (S.P p ++ [n]) q).length ≤ 8 ∧ up (J 14) p (nI ((S.P p).length + 1)) q = nI (up S.P p (S.P p ++ [n]) q).length ∧ (∀ i n', (up S.P p (S.P p ++ [n]) q)[i]? = some n' → J 15 (8 * q + i) = nI n') ∧ ∀ n' ∈ up S.P p (S.P p ++ [n]) q, n' < 4096
  obtain ⟨g1, g2, g3, g4⟩ := k1 q hq
  by_cases e : q = p
  · subst e
    rw [up_same, up_same]
    refine ⟨by simp; omega, by simp, fun i n' hi => ?_, fun n' hn' => ?_⟩
    · by_cases r : i < (S.P q).length
      · rw [List.getElem?_append_left r] at hi
        exact g3 i n' hi
      · have hlt := (List.getElem?_eq_some_iff.mp hi).1
        simp at hlt
        have : i = (S.P q).length := by omega
        subst this
        simp at hi
        subst hi
        rw [← hJ]
        simp [iM, mI]
    · rcases List.mem_append.mp hn' with r | r
      · exact g4 n' r
      · simp at r
        rw [r]
        exact hn
  · simp only [up, if_neg e]
    exact ⟨g1, g2, g3, g4⟩
theorem c_Mappend (hst : l.stackTraces = false) (h : MR R m0 S X m) (hp : p < 97) (hn : n < 4096) (hl : (S.P p).length < 8) (hq : ∀ m', MR R m0 (S.sP (up S.P p (S.P p ++ [n]))) X m' → Q (.inl none) m') : CC l G xM_append [vR (some (R 0)), vI (nI p), vI (nI n)] m Q := by
  obtain ⟨hs1, hs2⟩ := h.sz hp
  refine bM_append hst ⟨h.w.k0, R 14, h.w.r14, 97, h.w.k14, vp_in_nI hp (by omega), R 15, h.w.r15, 776, h.w.k15, ?_, ?_⟩
  · rw [nI_clamp (by omega), hs1, n8]
    exact vp_in_nI (by omega) (by omega)
  · intro m12 hm12
    refine ⟨vp_in_nI hp (by omega), vp_in_nI hp (by omega), fun m15 hm15 => hq m15 ?_⟩
    rw [nI_clamp (by omega), hs1, n8, nI_clamp (by omega)] at hm12
    have e14 : gI m12 (R 14) p = nI (S.P p).length := by
      rw [hm12]
      have : R 14 ≠ R 15 := fun r => absurd (h.w.2.2 14 15 (by decide) (by decide) r) (by decide)
      simp [gI, mI, this]
      exact hs1
    rw [nI_clamp (by omega), e14, nI_1, hm12] at hm15
    rw [hm15]
    exact h.app hp hn hl
theorem c_MtakeOut (hst : l.stackTraces = false) (h : MR R m0 S X m) (hp : p < 97) (hi : i < (S.P p).length) (hq : ∀ m', MR R m0 (S.sP (up S.P p ((S.P p).eraseIdx i))) X m' → Q (.inl none) m') : CC l G xM_takeOut [vR (some (R 0)), vI (nI p), vI (nI i)] m Q := by
  obtain ⟨hs1, hs2⟩ := h.sz hp
  generalize ho : S.P p = old at *
  have hE : (old.eraseIdx i).length = (old.take (old.length - 1)).length := by
    rw [List.length_eraseIdx_of_lt hi]
    simp
  refine bM_takeOut hst ⟨h.w.k0, R 14, h.w.r14, 97, h.w.k14, vp_in_nI hp (by omega), vp_in_nI hp (by omega), fun m8 hm8 => ?_⟩
  rw [nI_clamp (by omega), hs1, show (1 : Int32) = nI 1 from rfl, pk_sub (by omega)] at hm8
  have loop : ∀ k j mm, j + k = old.length - 1 → i ≤ j → MR R m0 (S.sP (up S.P p ((old.eraseIdx i).take j ++ (old.take (old.length - 1)).drop j))) X mm → (∀ t n, old[t]? = some n → j ≤ t → gI mm (R 15) (8 * p + t) = nI n) → WW l G xM_takeOut 12 [some (vR (some (R 0))), some (vI (nI p)), some (vI (nI i)), some (vI (nI j))] [] mm 0 0 Q := by
    intro k
    induction k with
    | zero =>
      intro j mm e hij hR hT
      have hj : j = old.length - 1 := by omega
      obtain ⟨z1, z2⟩ := hR.sz hp
      have hP : (S.sP (up S.P p ((old.eraseIdx i).take j ++ (old.take (old.length - 1)).drop j))).P p = old.eraseIdx i := by
        show up S.P p _ p = _
        rw [up_same, List.take_of_length_le (by rw [hE]; simp; omega), List.drop_of_length_le (by simp; omega), List.append_nil]
      rw [hP, hE] at z1
      refine bM_takeOut_12 ⟨hR.w.k0, R 14, hR.w.r14, 97, hR.w.k14, vp_in_nI hp (by omega), fun _ => hq mm ?_, fun q => ?_⟩
      · rw [List.take_of_length_le (by rw [hE]; simp; omega), List.drop_of_length_le (by simp; omega), List.append_nil] at hR
        exact hR
      · rw [nI_clamp (by omega), z1, nI_leI (by simp; omega) (by omega)] at q
        simp at q
        omega
    | succ k ih =>
      intro j mm e hij hR hT
      obtain ⟨z1, z2⟩ := hR.sz hp
      have hP : (S.sP (up S.P p ((old.eraseIdx i).take j ++ (old.take (old.length - 1)).drop j))).P p = (old.eraseIdx i).take j ++ (old.take (old.length - 1)).drop j := up_same
      have hlen : ((old.eraseIdx i).take j ++ (old.take (old.length - 1)).drop j).length = old.length - 1 := by
        rw [List.length_append, List.length_take, List.length_drop, hE]
        simp
        omega
      rw [hP, hlen] at z1
      obtain ⟨z, hz⟩ : ∃ z, old[j + 1]? = some z := ⟨old[j + 1]'(by omega), List.getElem?_eq_getElem (by omega)⟩
      have hz4 : z < 4096 := (h.f.1 p hp).2.2.2 z (by rw [ho]; exact List.mem_of_getElem? hz)
      have hEz : (old.eraseIdx i)[j]? = some z := by
        rw [List.getElem?_eraseIdx_of_ge (by omega)]
        exact hz
      refine bM_takeOut_12 ⟨hR.w.k0, R 14, hR.w.r14, 97, hR.w.k14, vp_in_nI hp (by omega), fun q => ?_, fun _ => ⟨R 15, hR.w.r15, 776, hR.w.k15, ?_, ?_, fun m13 hm13 => ?_⟩⟩
      · rw [nI_clamp (by omega), z1, nI_leI (by omega) (by omega)] at q
        omega
      · rw [n8, nI_1]
        exact vp_in_nI (by omega) (by omega)
      · rw [n8]
        exact vp_in_nI (by omega) (by omega)
      · rw [n8, nI_1, nI_clamp (by omega), nI_clamp (by omega), show 8 * p + j + 1 = 8 * p + (j + 1) by omega, hT (j + 1) z hz (by omega)] at hm13
        rw [nI_1]
        have h13 := hR.sAt (p := p) (j := j) hp hz4 (by omega)
        rw [hP, td_set hE hEz] at h13
        refine ih (j + 1) m13 (by omega) (by omega) ?_ (fun t n ht hjt => ?_)
        · rw [hm13]
          have e2 : (S.sP (up S.P p ((old.eraseIdx i).take j ++ (old.take (old.length - 1)).drop j))).sP (up (S.sP (up S.P p ((old.eraseIdx i).take j ++ (old.take (old.length - 1)).drop j))).P p ((old.eraseIdx i).take (j + 1) ++ (old.take (old.length - 1)).drop (j + 1))) = S.sP (up S.P p ((old.eraseIdx i).take (j + 1) ++ (old.take (old.length - 1)).drop (j + 1))) := by
            show S.sP (up (up S.P p _) p _) = _
            congr 1
            funext x
            by_cases r : x = p <;> simp [up, r]
          rw [e2] at h13
          exact h13
        · have := hT t n ht (by omega)
          rw [hm13]
          have ne : ¬ t = j := by omega
          simp [gI, mI, ne]
          exact this
  have h8 := h.sSz (p := p) (n := old.length - 1) hp (by rw [ho]; omega)
  rw [ho, ← hm8] at h8
  have hst8 : (old.eraseIdx i).take i ++ (old.take (old.length - 1)).drop i = old.take (old.length - 1) := by
    have : (old.eraseIdx i).take i = (old.take (old.length - 1)).take i := by
      apply List.ext_getElem?
      intro t
      by_cases r : t < i
      · rw [List.getElem?_take_of_lt r, List.getElem?_take_of_lt r, List.getElem?_eraseIdx_of_lt r, List.getElem?_take_of_lt (by omega)]
      · rw [List.getElem?_take_eq_none (by omega), List.getElem?_take_eq_none (by omega)]
    rw [this, List.take_append_drop]
  refine loop (old.length - 1 - i) i m8 (by omega) (Nat.le_refl _) (by rw [hst8]; exact h8) (fun t n ht _ => ?_)
  have := (h.f.1 p hp).2.2.1 t n (by rw [ho]; exact ht)
  rw [hm8]
  have ne : R 15 ≠ R 14 := fun r => absurd (h.w.2.2 15 14 (by decide) (by decide) r) (by decide)
  simp [gI, mI, ne]
  exact this
end L2V
