/-! the reference: more of what is read -/
section L2U
variable {l : Launch} {G : xG} {Q : XR → XM → Prop} {R : Nat → Nat} {m0 m m' : XM} {S S' : RS} {X X' : RX} {i j n p : Nat} {v : Int32} {key : Int64}
theorem c_MpageOf (hst : l.stackTraces = false) (h : MR R m0 S X m) (hn : n < 4096) (hq : Q (.inl (some (vI (pgF S.P n 64 33 (-1))))) m) : CC l G xM_pageOf [vR (some (R 0)), vI (nI n)] m Q := by
  refine bM_pageOf hst ?_
  have out : ∀ k p a, p + k = 97 → Q (.inl (some (vI (pgF S.P n p k a)))) m → WW l G xM_pageOf 5 [some (vR (some (R 0))), some (vI (nI n)), some (vI a), some (vI (nI p)), none] [] m 0 0 Q := by
    intro k
    induction k with
    | zero =>
      intro p a e hq
      have : p = 97 := by omega
      subst this
      exact bM_pageOf_5 ⟨fun _ => hq, fun q => absurd Int32.le_rfl q⟩
    | succ k ih =>
      intro p a e hq
      have hp : p < 97 := by omega
      obtain ⟨hs1, hs2⟩ := h.sz hp
      refine bM_pageOf_5 ⟨fun q => ?_, fun _ => ?_⟩
      · rw [show (97 : Int32) = nI 97 from rfl, nI_leI (by omega) (by omega)] at q
        omega
      have inn : ∀ zs ys a, ys ++ zs = S.P p → Q (.inl (some (vI (pgF S.P n (p + 1) k (zs.foldl (fun a x => if x = n then nI p else a) a))))) m → WW l G xM_pageOf 14 [some (vR (some (R 0))), some (vI (nI n)), some (vI a), some (vI (nI p)), some (vI (nI ys.length))] [] m 0 0 Q := by
        intro zs
        induction zs with
        | nil =>
          intro ys a e hq
          rw [List.append_nil] at e
          refine bM_pageOf_14 ⟨h.w.k0, R 14, h.w.r14, 97, h.w.k14, vp_in_nI hp (by omega), fun _ => ?_, fun q => ?_⟩
          · rw [nI_1]
            exact ih (p + 1) a (by omega) hq
          · rw [nI_clamp (by omega), hs1, e] at q
            exact absurd Int32.le_rfl q
        | cons z zs ih2 =>
          intro ys a e hq
          have hlt : ys.length < (S.P p).length := by rw [← e]; simp
          obtain ⟨ha, hz⟩ := h.at hp (at_mid e)
          have nx := fun a => ih2 (ys ++ [z]) a (by rw [List.append_assoc]; exact e)
          rw [List.length_append] at nx
          rw [List.foldl_cons] at hq
          refine bM_pageOf_14 ⟨h.w.k0, R 14, h.w.r14, 97, h.w.k14, vp_in_nI hp (by omega), fun q => ?_, fun _ => ⟨R 15, h.w.r15, 776, h.w.k15, ?_, fun q => ?_, fun q => ?_⟩⟩
          · rw [nI_clamp (by omega), hs1, nI_leI (by omega) (by omega)] at q
            omega
          · rw [n8]
            exact vp_in_nI (by omega) (by omega)
          · rw [n8, nI_clamp (by omega), ha, nI_eq (by omega) (by omega)] at q
            rw [if_neg q] at hq
            rw [nI_1]
            exact nx a hq
          · rw [n8, nI_clamp (by omega), ha, nI_eq (by omega) (by omega)] at q
            rw [if_pos q] at hq
            rw [nI_1]
            exact nx _ hq
      exact inn (S.P p) [] a rfl hq
  exact out 33 64 (-1) rfl hq
theorem c_Mindexed (hst : l.stackTraces = false) (h : MR R m0 S X m) (hq : Q (.inl (some (vI (nI ((lgs S).countP (fun n => S.nw n != 0)))))) m) : CC l G xM_indexed [vR (some (R 0))] m Q := by
  refine bM_indexed hst ?_
  have out : ∀ k p a, p + k = 97 → Q (.inl (some (vI (nI (a + (pgs S.P p k).countP (fun n => S.nw n != 0)))))) m → WW l G xM_indexed 5 [some (vR (some (R 0))), some (vI (nI a)), some (vI (nI p)), none] [] m 0 0 Q := by
    intro k
    induction k with
    | zero =>
      intro p a e hq
      have : p = 97 := by omega
      subst this
      exact bM_indexed_5 ⟨fun _ => hq, fun q => absurd Int32.le_rfl q⟩
    | succ k ih =>
      intro p a e hq
      have hp : p < 97 := by omega
      obtain ⟨hs1, hs2⟩ := h.sz hp
      refine bM_indexed_5 ⟨fun q => ?_, fun _ => ?_⟩
      · rw [show (97 : Int32) = nI 97 from rfl, nI_leI (by omega) (by omega)] at q
        omega
      have inn : ∀ zs ys a, ys ++ zs = S.P p → Q (.inl (some (vI (nI (a + (zs ++ pgs S.P (p + 1) k).countP (fun n => S.nw n != 0)))))) m → WW l G xM_indexed 13 [some (vR (some (R 0))), some (vI (nI a)), some (vI (nI p)), some (vI (nI ys.length))] [] m 0 0 Q := by
        intro zs
        induction zs with
        | nil =>
          intro ys a e hq
          rw [List.append_nil] at e
          refine bM_indexed_13 ⟨h.w.k0, R 14, h.w.r14, 97, h.w.k14, vp_in_nI hp (by omega), fun _ => ?_, fun q => ?_⟩
          · rw [nI_1]
            exact ih (p + 1) a (by omega) hq
          · rw [nI_clamp (by omega), hs1, e] at q
            exact absurd Int32.le_rfl q
        | cons z zs ih2 =>
          intro ys a e hq
          have hlt : ys.length < (S.P p).length := by rw [← e]; simp
          obtain ⟨ha, hz⟩ := h.at hp (at_mid e)
          have nx := fun a => ih2 (ys ++ [z]) a (by rw [List.append_assoc]; exact e)
          rw [List.length_append] at nx
          rw [List.cons_append, List.countP_cons] at hq
          refine bM_indexed_13 ⟨h.w.k0, R 14, h.w.r14, 97, h.w.k14, vp_in_nI hp (by omega), fun q => ?_, fun _ => ⟨R 15, h.w.r15, 776, h.w.k15, ?_, R 9, h.w.r9, 4096, h.w.k9, ?_, fun q => ?_, fun q => ?_⟩⟩
          · rw [nI_clamp (by omega), hs1, nI_leI (by omega) (by omega)] at q
            omega
          · rw [n8]
            exact vp_in_nI (by omega) (by omega)
          · rw [n8, nI_clamp (by omega), ha]
            exact vp_in_nI hz (by omega)
          · rw [n8, nI_clamp (by omega), ha, nI_clamp (by omega), h.nw hz] at q
            have : (S.nw z != 0) = false := by simp [q]
            rw [this] at hq
            rw [nI_1, show (0 : Int32) = nI 0 from rfl, nI_add]
            exact nx _ hq
          · rw [n8, nI_clamp (by omega), ha, nI_clamp (by omega), h.nw hz] at q
            have : (S.nw z != 0) = true := by simp [q]
            rw [this, if_pos rfl] at hq
            rw [nI_1, show (1 : Int32) = nI 1 from rfl, nI_add]
            refine nx _ ?_
            rw [show a + 1 + (zs ++ pgs S.P (p + 1) k).countP (fun n => S.nw n != 0) = a + ((zs ++ pgs S.P (p + 1) k).countP (fun n => S.nw n != 0) + 1) by omega]
            exact hq
      exact inn (S.P p) [] a rfl hq
  exact out 33 64 0 rfl (by rw [Nat.zero_add]; exact hq)
theorem c_MinSet (hst : l.stackTraces = false) (h : MR R m0 S X m) (hq : Q (.inl (some (vI (lsI (fun n => S.k n == key) (S.P (sN key)) 0 (-1))))) m) : CC l G xM_inSet [vR (some (R 0)), vL key] m Q := by
  have hs := sN_lt key
  have hp : sN key < 97 := by omega
  obtain ⟨hs1, hs2⟩ := h.sz hp
  refine bM_inSet hst (c_MsetOfKey hst ?_)
  show WW _ _ _ _ _ _ _ _ _ _
  rw [setF_n]
  generalize sN key = p at *
  have inn : ∀ zs ys a, ys ++ zs = S.P p → Q (.inl (some (vI (lsI (fun n => S.k n == key) zs ys.length a)))) m → WW l G xM_inSet 11 [some (vR (some (R 0))), some (vL key), none, some (vI (nI p)), some (vI a), some (vI (nI ys.length))] [] m 0 0 Q := by
    intro zs
    induction zs with
    | nil =>
      intro ys a e hq
      rw [List.append_nil] at e
      refine bM_inSet_11 ⟨h.w.k0, R 14, h.w.r14, 97, h.w.k14, vp_in_nI hp (by omega), fun _ => hq, fun q => ?_⟩
      rw [nI_clamp (by omega), hs1, e] at q
      exact absurd Int32.le_rfl q
    | cons z zs ih2 =>
      intro ys a e hq
      have hlt : ys.length < (S.P p).length := by rw [← e]; simp
      obtain ⟨ha, hz⟩ := h.at hp (at_mid e)
      have nx := fun a => ih2 (ys ++ [z]) a (by rw [List.append_assoc]; exact e)
      rw [List.length_append] at nx
      rw [lsI] at hq
      refine bM_inSet_11 ⟨h.w.k0, R 14, h.w.r14, 97, h.w.k14, vp_in_nI hp (by omega), fun q => ?_, fun _ => ⟨R 15, h.w.r15, 776, h.w.k15, ?_, R 6, h.w.r6, 4096, h.w.k6, ?_, fun q => ?_, fun q => ?_⟩⟩
      · rw [nI_clamp (by omega), hs1, nI_leI (by omega) (by omega)] at q
        omega
      · rw [n8]
        exact vp_in_nI (by omega) (by omega)
      · rw [n8, nI_clamp (by omega), ha]
        exact vp_in_nI hz (by omega)
      · rw [n8, nI_clamp (by omega), ha, nI_clamp (by omega), h.key hz, lgc0] at q
        have : (S.k z == key) = false := by simp [q]
        rw [this] at hq
        rw [nI_1]
        exact nx _ hq
      · rw [n8, nI_clamp (by omega), ha, nI_clamp (by omega), h.key hz, lgc0] at q
        have : (S.k z == key) = true := by simp [q]
        rw [this, if_pos rfl] at hq
        rw [nI_1]
        exact nx _ hq
  exact inn (S.P p) [] (-1) rfl hq
theorem c_Mreads (hst : l.stackTraces = false) (h : MR R m0 S X m) (h0 : rdB S key = false → Q (.inl (some (vI 0))) m) (h1 : rdB S key = true → ∀ m', MR R m0 (S.sc (up S.c 9 (S.c 9 + 1))) X m' → Q (.inl (some (vI 1))) m') : CC l G xM_reads [vR (some (R 0)), vL key] m Q := by
  have hs := sN_lt key
  have hp : sN key < 97 := by omega
  obtain ⟨hs1, hs2⟩ := h.sz hp
  refine bM_reads hst (c_MsetOfKey hst ?_)
  show WW _ _ _ _ _ _ _ _ _ _
  rw [setF_n]
  unfold rdB at h0 h1
  generalize sN key = p at *
  have inn : ∀ zs ys (a : Int32), ys ++ zs = S.P p → (a = 0 ∨ a = 1) → (a = 1 ↔ ys.any (fun n => bt (S.k n) == bt key) = true) → WW l G xM_reads 11 [some (vR (some (R 0))), some (vL key), none, some (vI (nI p)), some (vI a), some (vI (nI ys.length))] [] m 0 0 Q := by
    intro zs
    induction zs with
    | nil =>
      intro ys a e ha hq
      rw [List.append_nil] at e
      rw [e] at hq
      refine bM_reads_11 ⟨h.w.k0, R 14, h.w.r14, 97, h.w.k14, vp_in_nI hp (by omega), fun _ => ⟨fun q => ⟨ha, ?_⟩, fun q => ⟨R 23, h.w.r23, 13, h.w.k23, vp_in_nI (n := 9) (by omega) (by omega), vp_in_nI (n := 9) (by omega) (by omega), ?_⟩⟩, fun q => ?_⟩
      · rw [q]
        refine h0 ?_
        cases r : (S.P p).any (fun n => bt (S.k n) == bt key) with
        | false => rfl
        | true =>
          rw [hq.mpr r] at q
          cases q
      · intro m13 hm
        have a1 : a = 1 := ha.resolve_left q
        refine ⟨ha, ?_⟩
        rw [a1]
        refine h1 (hq.mp a1) m13 ?_
        rw [hm, show (9 : Int32).toNatClampNeg = 9 from rfl, h.cn (by omega)]
        exact h.sCnt (by omega) _
      · rw [nI_clamp (by omega), hs1, e] at q
        exact absurd Int32.le_rfl q
    | cons z zs ih2 =>
      intro ys a e ha hq
      have hlt : ys.length < (S.P p).length := by rw [← e]; simp
      obtain ⟨hat, hz⟩ := h.at hp (at_mid e)
      have nx := fun a => ih2 (ys ++ [z]) a (by rw [List.append_assoc]; exact e)
      rw [List.length_append, List.any_append] at nx
      refine bM_reads_11 ⟨h.w.k0, R 14, h.w.r14, 97, h.w.k14, vp_in_nI hp (by omega), fun q => ?_, fun _ => ⟨fun q => ?_, fun q => ⟨R 15, h.w.r15, 776, h.w.k15, ?_, R 6, h.w.r6, 4096, h.w.k6, ?_, ?_⟩⟩⟩
      · rw [nI_clamp (by omega), hs1, nI_leI (by omega) (by omega)] at q
        omega
      · rw [nI_1]
        have := hq.mp (ha.resolve_left q)
        exact nx 1 (Or.inr rfl) (by rw [this]; simp)
      · rw [n8]
        exact vp_in_nI (by omega) (by omega)
      · rw [n8, nI_clamp (by omega), hat]
        exact vp_in_nI hz (by omega)
      · rw [n8, nI_clamp (by omega), hat, nI_clamp (by omega), h.key hz]
        have hf : ys.any (fun n => bt (S.k n) == bt key) = false := by
          cases r : ys.any (fun n => bt (S.k n) == bt key) with
          | false => rfl
          | true =>
            rw [hq.mpr r] at q
            cases q
        refine c_MbitOf hst (c_MbitOf hst ⟨fun q2 => ?_, fun q2 => ?_⟩)
        · show WW _ _ _ _ _ _ _ _ _ _
          rw [nI_1]
          refine nx 0 (Or.inl rfl) ?_
          rw [hf]
          simp [q2]
        · show WW _ _ _ _ _ _ _ _ _ _
          rw [nI_1]
          refine nx 1 (Or.inr rfl) ?_
          simp [q2]
  exact inn (S.P p) [] 0 rfl (Or.inl rfl) (by simp)
end L2U
