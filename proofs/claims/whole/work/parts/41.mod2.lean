/-! the reference: what is read -/
def pgs (P : Nat → List Nat) : Nat → Nat → List Nat
  | _, 0 => []
  | p, k + 1 => P p ++ pgs P (p + 1) k
def lgs (S : RS) : List Nat := pgs S.P 64 33
def wS (S : RS) (xs : List Nat) : Nat := (xs.map (fun n => S.l n + 3)).sum
def nwF (S : RS) (key : Int64) (a : Int32) (n : Nat) : Int32 := if S.nw n = 0 then a else if S.k n = key then nI n else a
def pgF (P : Nat → List Nat) (n : Nat) : Nat → Nat → Int32 → Int32
  | _, 0, a => a
  | p, k + 1, a => pgF P n (p + 1) k ((P p).foldl (fun a x => if x = n then nI p else a) a)
def lsI (f : Nat → Bool) : List Nat → Nat → Int32 → Int32
  | [], _, a => a
  | x :: xs, i, a => lsI f xs (i + 1) (if f x then nI i else a)
def bt (k : Int64) : Int32 := (mixF k &&& (63 : Int64)).toInt32
def rdB (S : RS) (key : Int64) : Bool := (S.P (sN key)).any (fun n => bt (S.k n) == bt key)
section L2T
variable {l : Launch} {G : xG} {Q : XR → XM → Prop} {R : Nat → Nat} {m0 m m' : XM} {S S' : RS} {X X' : RX} {i j n p : Nat} {v : Int32} {key : Int64}
theorem at_mid {xs ys zs : List Nat} {z : Nat} (e : ys ++ z :: zs = xs) : xs[ys.length]? = some z := by
  rw [← e]
  simp
theorem c_Mneed (hst : l.stackTraces = false) (h : MR R m0 S X m) (hn : n < 4096) (hq : Q (.inl (some (vI (nI (S.l n + 3))))) m) : CC l G xM_need [vR (some (R 0)), vI (nI n)] m Q := by
  refine bM_need hst ⟨h.w.k0, R 7, h.w.r7, 4096, h.w.k7, vp_in_nI hn (by omega), ?_⟩
  rw [nI_clamp (by omega), (h.len hn).1, show (3 : Int32) = nI 3 from rfl, nI_add]
  exact hq
theorem c_MwordsOf (hst : l.stackTraces = false) (h : MR R m0 S X m) (hp : p < 97) (hq : Q (.inl (some (vI (nI (wS S (S.P p)))))) m) : CC l G xM_wordsOf [vR (some (R 0)), vI (nI p)] m Q := by
  obtain ⟨hs1, hs2⟩ := h.sz hp
  refine bM_wordsOf hst ?_
  have loop : ∀ zs ys, ys ++ zs = S.P p → WW l G xM_wordsOf 4 [some (vR (some (R 0))), some (vI (nI p)), some (vI (nI (wS S ys))), some (vI (nI ys.length))] [] m 0 0 Q := by
    intro zs
    induction zs with
    | nil =>
      intro ys e
      rw [List.append_nil] at e
      refine bM_wordsOf_4 ⟨h.w.k0, R 14, h.w.r14, 97, h.w.k14, vp_in_nI hp (by omega), fun _ => ?_, fun q => ?_⟩
      · rw [e]
        exact hq
      · rw [nI_clamp (by omega), hs1, e] at q
        exact absurd Int32.le_rfl q
    | cons z zs ih =>
      intro ys e
      have hlt : ys.length < (S.P p).length := by rw [← e]; simp
      obtain ⟨ha, hz⟩ := h.at hp (at_mid e)
      refine bM_wordsOf_4 ⟨h.w.k0, R 14, h.w.r14, 97, h.w.k14, vp_in_nI hp (by omega), fun q => ?_, fun _ => ⟨R 15, h.w.r15, 776, h.w.k15, ?_, ?_⟩⟩
      · rw [nI_clamp (by omega), hs1, nI_leI (by omega) (by omega)] at q
        omega
      · rw [n8]
        exact vp_in_nI (by omega) (by omega)
      · rw [n8, nI_clamp (by omega), ha]
        refine c_Mneed hst h hz ?_
        show WW _ _ _ _ _ _ _ _ _ _
        have := ih (ys ++ [z]) (by rw [List.append_assoc]; exact e)
        rw [nI_add, nI_1]
        have e2 : wS S (ys ++ [z]) = wS S ys + (S.l z + 3) := by simp [wS]
        rw [e2, List.length_append] at this
        exact this
  exact loop (S.P p) [] rfl
theorem c_MsetOfKey (hst : l.stackTraces = false) (hq : Q (.inl (some (vI (setF key)))) m) : CC l G xM_setOfKey [vL key] m Q := bM_setOfKey hst (bM_mixed hst hq)
theorem c_MbitOf (hst : l.stackTraces = false) (hq : Q (.inl (some (vI (bt key)))) m) : CC l G xM_bitOf [vL key] m Q := bM_bitOf hst (bM_mixed hst hq)
theorem c_Mnewest (hst : l.stackTraces = false) (h : MR R m0 S X m) (hq : Q (.inl (some (vI ((lgs S).foldl (nwF S key) (-1))))) m) : CC l G xM_newest [vR (some (R 0)), vL key] m Q := by
  refine bM_newest hst ?_
  have out : ∀ k p a, p + k = 97 → Q (.inl (some (vI ((pgs S.P p k).foldl (nwF S key) a)))) m → WW l G xM_newest 6 [some (vR (some (R 0))), some (vL key), none, some (vI a), some (vI (nI p)), none] [] m 0 0 Q := by
    intro k
    induction k with
    | zero =>
      intro p a e hq
      have : p = 97 := by omega
      subst this
      exact bM_newest_6 ⟨fun _ => hq, fun q => absurd Int32.le_rfl q⟩
    | succ k ih =>
      intro p a e hq
      have hp : p < 97 := by omega
      obtain ⟨hs1, hs2⟩ := h.sz hp
      refine bM_newest_6 ⟨fun q => ?_, fun _ => ?_⟩
      · rw [show (97 : Int32) = nI 97 from rfl, nI_leI (by omega) (by omega)] at q
        omega
      have inn : ∀ zs ys a, ys ++ zs = S.P p → Q (.inl (some (vI ((zs ++ pgs S.P (p + 1) k).foldl (nwF S key) a)))) m → WW l G xM_newest 16 [some (vR (some (R 0))), some (vL key), none, some (vI a), some (vI (nI p)), some (vI (nI ys.length))] [] m 0 0 Q := by
        intro zs
        induction zs with
        | nil =>
          intro ys a e hq
          rw [List.append_nil] at e
          refine bM_newest_16 ⟨h.w.k0, R 14, h.w.r14, 97, h.w.k14, vp_in_nI hp (by omega), fun _ => ?_, fun q => ?_⟩
          · rw [nI_1]
            exact ih (p + 1) a (by omega) hq
          · rw [nI_clamp (by omega), hs1, e] at q
            exact absurd Int32.le_rfl q
        | cons z zs ih2 =>
          intro ys a e hq
          have hlt : ys.length < (S.P p).length := by rw [← e]; simp
          obtain ⟨ha, hz⟩ := h.at hp (at_mid e)
          have nx := fun a => ih2 (ys ++ [z]) a (by rw [List.append_assoc]; exact e)
          rw [List.length_append] at nx
          rw [List.cons_append, List.foldl_cons] at hq
          refine bM_newest_16 ⟨h.w.k0, R 14, h.w.r14, 97, h.w.k14, vp_in_nI hp (by omega), fun q => ?_, fun _ => ⟨R 15, h.w.r15, 776, h.w.k15, ?_, R 9, h.w.r9, 4096, h.w.k9, ?_, fun q => ?_, fun q => ⟨?_, R 6, h.w.r6, 4096, h.w.k6, ?_, fun q2 => ?_, fun q2 => ⟨?_, ?_⟩⟩⟩⟩
          · rw [nI_clamp (by omega), hs1, nI_leI (by omega) (by omega)] at q
            omega
          all_goals try rw [n8, nI_clamp (by omega), ha]
          all_goals try rw [n8, nI_clamp (by omega), ha, nI_clamp (by omega), h.nw hz] at q
          all_goals try rw [n8, nI_clamp (by omega), ha, nI_clamp (by omega), h.key hz, lgc0] at q2
          · rw [n8]
            exact vp_in_nI (by omega) (by omega)
          · exact vp_in_nI hz (by omega)
          · rw [nwF, if_pos q] at hq
            rw [nI_1]
            exact nx a hq
          · rw [n8]
            exact vp_in_nI (by omega) (by omega)
          · exact vp_in_nI hz (by omega)
          · rw [nwF, if_neg q, if_neg q2] at hq
            rw [nI_1]
            exact nx a hq
          · rw [n8]
            exact vp_in_nI (by omega) (by omega)
          · rw [nwF, if_neg q, if_pos q2] at hq
            rw [nI_1]
            exact nx _ hq
      have := inn (S.P p) [] a rfl hq
      exact this
  exact out 33 64 (-1) rfl hq
end L2T
