/-! reading a set's page, removing from it -/
def sN (k : Int64) : Nat := (setF k).toNatClampNeg
theorem sN_lt (k : Int64) : sN k < 64 := by
  obtain ⟨s, h1, h2⟩ := setF_lt k
  unfold sN
  rw [h2, nI_clamp (by omega)]
  exact h1
theorem setF_n (k : Int64) : setF k = nI (sN k) := by
  obtain ⟨s, h1, h2⟩ := setF_lt k
  unfold sN
  rw [h2, nI_clamp (by omega)]
/-- without the first item of a key -/
def era (m : XM) (key : Int64) (xs : List Nat) : List Nat := xs.eraseP (fun a => m.2.2.1 a 0 == key)
theorem era_none {m : XM} {key : Int64} {xs : List Nat} (h : ∀ a ∈ xs, m.2.2.1 a 0 ≠ key) : era m key xs = xs := by
  unfold era
  exact List.eraseP_of_forall_not (fun a ha => by simpa using h a ha)
theorem era_some {m : XM} {key : Int64} {z : Nat} {zs : List Nat} : ∀ {ys : List Nat}, (∀ a ∈ ys, m.2.2.1 a 0 ≠ key) → m.2.2.1 z 0 = key → era m key (ys ++ z :: zs) = ys ++ zs
  | [], _, hz => by simp [era, List.eraseP_cons, hz]
  | y :: ys, h, hz => by
    have := era_some (m := m) (key := key) (z := z) (zs := zs) (ys := ys) (fun a ha => h a (List.mem_cons_of_mem _ ha)) hz
    unfold era at *
    rw [List.cons_append, List.eraseP_cons]
    have hy : (m.2.2.1 y 0 == key) = false := by simpa using h y List.mem_cons_self
    rw [hy]
    simp [this]
def has (m : XM) (key : Int64) (xs : List Nat) : Bool := xs.any (fun a => m.2.2.1 a 0 == key)
theorem has_none {m : XM} {key : Int64} {xs : List Nat} (h : ∀ a ∈ xs, m.2.2.1 a 0 ≠ key) : has m key xs = false := by
  unfold has
  rw [List.any_eq_false]
  intro a ha
  simpa using h a ha
theorem has_some {m : XM} {key : Int64} {ys zs : List Nat} {z : Nat} (hz : m.2.2.1 z 0 = key) : has m key (ys ++ z :: zs) = true := by
  unfold has
  rw [List.any_eq_true]
  exact ⟨z, by simp, by simp [hz]⟩
section L2u
variable {l : Launch} {G : xG} {K ar : Nat → Nat} {m0 m : XM} {Q : XR → XM → Prop} {pg : Nat → Nat} {Z : Nat → List Nat} {Y xs : List Nat} {w j a : Nat} {c fg fp : Nat → Int32} {key : Int64}
theorem CS.bors (h : CS K ar m0 pg Z Y w c fg fp m) (hx : ∀ a ∈ xs, m0.1 a = some (oB 1)) : bors m xs = bors m0 xs := by
  have : ∀ (xs : List Nat) (b : Int64), (∀ a ∈ xs, m0.1 a = some (oB 1)) → xs.foldl (fun f a => f ||| m.2.2.1 a 3) b = xs.foldl (fun f a => f ||| m0.2.2.1 a 3) b := by
    intro xs
    induction xs with
    | nil => intro b _; rfl
    | cons x xs ih =>
      intro b hx
      simp only [List.foldl_cons]
      rw [h.key (hx x List.mem_cons_self) 3]
      exact ih _ (fun a ha => hx a (List.mem_cons_of_mem _ ha))
  exact this xs 0 hx
theorem c_readFromSet (hst : l.stackTraces = false) (h : CS K ar m0 pg Z Y w c fg fp m)
    (hn : (bors m0 (Z (sN key)) &&& bitF key) = 0 → Q (.inl (some (vR none))) m)
    (hn2 : ¬ (bors m0 (Z (sN key)) &&& bitF key) = 0 → (∀ a ∈ Z (sN key), m0.2.2.1 a 0 ≠ key) → CS K ar m0 pg Z Y w (up c 9 (c 9 + 1)) fg fp (mI m (K 4) 9 (c 9 + 1)) → Q (.inl (some (vR none))) (mI m (K 4) 9 (c 9 + 1)))
    (hs : ¬ (bors m0 (Z (sN key)) &&& bitF key) = 0 → ∀ ys z zs, Z (sN key) = ys ++ z :: zs → (∀ a ∈ ys, m0.2.2.1 a 0 ≠ key) → m0.2.2.1 z 0 = key → CS K ar m0 pg Z Y w (up c 9 (c 9 + 1)) fg fp (mI m (K 4) 9 (c 9 + 1)) → Q (.inl (some (vR (some z)))) (mI m (K 4) 9 (c 9 + 1))) : CC l G xC_readFromSet [vR (some (K 0)), vL key] m Q := by
  have hs64 := sN_lt key
  have hP := h.1.1
  have hpg := h.1.2.1 (sN key) (by omega)
  have hin := h.inZ (j := sN key) (by omega)
  have hfil : m.2.2.1 (pg (sN key)) 3 = bors m0 (Z (sN key)) := hpg.2.2.2.2.2.2.2.2.trans (h.bors hin)
  refine bC_readFromSet hst (c_mix hst ⟨hP.1, c_setNumber hst ⟨K 2, hP.2.2.2.1, 64, hP.2.2.2.2.1, ?_, pg (sN key), ?_, hpg.1, c_filterBit hst ⟨fun hc => ?_, fun hc => ?_⟩⟩⟩)
  · show vp_in (setF key) 64
    rw [setF_n]
    exact vp_in_nI hs64 (by omega)
  · show gR m (K 2) (setF key).toNatClampNeg = _
    exact hP.2.2.2.2.2.2.2.2.2.2.2.2.2.2.2.2.2.2.2.1 (sN key) hs64
  · have hne : ¬ (bors m0 (Z (sN key)) &&& bitF key) = 0 := by
      rw [← hfil]
      exact fun q => hc (lgc0.mpr q)
    refine ⟨hP.1, K 4, hP.2.2.2.2.2.2.2.1, 11, hP.2.2.2.2.2.2.2.2.1, vp_in_nI (n := 9) (by omega) (by omega), vp_in_nI (n := 9) (by omega) (by omega), ?_⟩
    rintro m23 rfl
    have e9 : gI m (K 4) (9 : Int32).toNatClampNeg + 1 = c 9 + 1 := by rw [show gI m (K 4) (9 : Int32).toNatClampNeg = c 9 from h.2.1 9]
    rw [e9]
    have h2 := h.count 9 (c 9 + 1)
    have hp2 := h2.1.2.1 (sN key) (by omega)
    refine ⟨hpg.1, c_Pfind hst hp2 (fun hno => hn2 hne (fun a ha => ?_) h2) (fun ys z zs e hno hz => hs hne ys z zs e (fun a ha => ?_) ?_ h2)⟩
    · rw [← h2.key (hin a ha) 0]
      exact hno a ha
    · rw [← h2.key (hin a (by rw [e]; exact List.mem_append_left _ ha)) 0]
      exact hno a ha
    · rw [← h2.key (hin z (by rw [e]; simp)) 0]
      exact hz
  · refine hn ?_
    rw [← hfil]
    exact lgc0.mp hc
/-- an old value goes out of its set's page: how, and what is counted -/
def rmZ (m0 : XM) (key : Int64) (Z : Nat → List Nat) : Nat → List Nat := if (bors m0 (Z (sN key)) &&& bitF key) = 0 then Z else up Z (sN key) (era m0 key (Z (sN key)))
def rmC (m0 : XM) (key : Int64) (k : Nat) (Z : Nat → List Nat) (c : Nat → Int32) : Nat → Int32 := if (bors m0 (Z (sN key)) &&& bitF key) = 0 then c else if has m0 key (Z (sN key)) then up (up c 9 (c 9 + 1)) k (up c 9 (c 9 + 1) k + 1) else up c 9 (c 9 + 1)
def rmA (m0 : XM) (key : Int64) (Z : Nat → List Nat) : Int32 := if (bors m0 (Z (sN key)) &&& bitF key) = 0 then 0 else if has m0 key (Z (sN key)) then 1 else 0
theorem c_removeFromSet {k : Nat} (hst : l.stackTraces = false) (h : CS K ar m0 pg Z Y w c fg fp m) (hk : k < 11) (hq : ∀ m', CS K ar m0 pg (rmZ m0 key Z) Y w (rmC m0 key k Z c) fg fp m' → Q (.inl (some (vI (rmA m0 key Z)))) m') : CC l G xC_removeFromSet [vR (some (K 0)), vL key, vI (nI k)] m Q := by
  have hs64 := sN_lt key
  have hP := h.1.1
  refine bC_removeFromSet hst ⟨hP.1, c_readFromSet hst h (fun h0 => ⟨fun _ => ?_, (fun a q => nomatch q)⟩) (fun h1 hno h2 => ⟨fun _ => ?_, (fun a q => nomatch q)⟩) (fun h1 ys z zs e hno hz h2 => ⟨(fun q => nomatch q), fun a _ => ⟨hP.1, c_mix hst (c_setNumber hst ?_)⟩⟩)⟩
  · have := hq m
    rw [show rmZ m0 key Z = Z by simp [rmZ, h0], show rmC m0 key k Z c = c by simp [rmC, h0], show rmA m0 key Z = 0 by simp [rmA, h0]] at this
    exact this h
  · have := hq (mI m (K 4) 9 (c 9 + 1))
    rw [show rmZ m0 key Z = Z by
      unfold rmZ
      rw [if_neg h1, era_none hno]
      funext i
      by_cases q : i = sN key <;> simp [up, q], show rmC m0 key k Z c = up c 9 (c 9 + 1) by simp [rmC, h1, has_none hno], show rmA m0 key Z = 0 by simp [rmA, h1, has_none hno]] at this
    exact this h2
  · have hP2 := h2.1.1
    have hp2 := h2.1.2.1 (sN key) (by omega)
    rw [e] at hp2
    have hin := h.inZ (j := sN key) (by omega)
    refine ⟨K 2, hP2.2.2.2.1, 64, hP2.2.2.2.2.1, ?_, pg (sN key), ?_, hp2.1, ?_⟩
    · show vp_in (setF key) 64
      rw [setF_n]
      exact vp_in_nI hs64 (by omega)
    · exact hP2.2.2.2.2.2.2.2.2.2.2.2.2.2.2.2.2.2.2.2.1 (sN key) hs64
    · have fin : ∀ ys' z' zs' m', ys ++ z :: zs = ys' ++ z' :: zs' → (∀ a ∈ ys', gL (mI m (K 4) 9 (c 9 + 1)) a 0 ≠ key) → gL (mI m (K 4) 9 (c 9 + 1)) z' 0 = key → Fr (PF (pg (sN key)) (ar (pg (sN key)))) (mI m (K 4) 9 (c 9 + 1)) m' → PgOK m' (pg (sN key)) (ar (pg (sN key))) (ys' ++ zs') →
          kd m' (K 0) = some (oB 4) ∧ ∃ a21, gR m' (K 0) 3 = some a21 ∧ ∃ n24, kd m' a21 = some (aR 0 n24) ∧ vp_in (nI k) n24 ∧ vp_in (nI k) n24 ∧ ∀ m27, m27 = mI m' a21 (nI k).toNatClampNeg ((gI m' a21 (nI k).toNatClampNeg) + (1 : Int32)) → Q (.inl (some (vI (1 : Int32)))) m27 := by
        intro ys' z' zs' m' e' hno' hz' f' hp'
        have hky : ∀ a ∈ ys ++ z :: zs, gL (mI m (K 4) 9 (c 9 + 1)) a 0 = m0.2.2.1 a 0 := fun a ha => h2.key (hin a (by rw [e]; exact ha)) 0
        have ee : ys' ++ zs' = era m0 key (Z (sN key)) := by
          rw [e, e']
          exact (era_some (fun a ha => by rw [← hky a (by rw [e']; exact List.mem_append_left _ ha)]; exact hno' a ha) (by rw [← hky z' (by rw [e']; simp)]; exact hz')).symm
        rw [ee] at hp'
        have h3 := h2.page (j := sN key) (by omega) f' hp'
        have hP3 := h3.1.1
        refine ⟨hP3.1, K 4, hP3.2.2.2.2.2.2.2.1, 11, hP3.2.2.2.2.2.2.2.2.1, vp_in_nI hk (by omega), vp_in_nI hk (by omega), ?_⟩
        rintro m27 rfl
        rw [nI_clamp (by omega), show gI m' (K 4) k = _ from h3.2.1 k]
        have h4 := h3.count k (up c 9 (c 9 + 1) k + 1)
        have hh : has m0 key (Z (sN key)) = true := by rw [e]; exact has_some hz
        have := hq (mI m' (K 4) k (up c 9 (c 9 + 1) k + 1))
        rw [show rmZ m0 key Z = up Z (sN key) (era m0 key (Z (sN key))) by simp [rmZ, h1], show rmC m0 key k Z c = up (up c 9 (c 9 + 1)) k (up c 9 (c 9 + 1) k + 1) by simp [rmC, h1, hh], show rmA m0 key Z = 1 by simp [rmA, h1, hh]] at this
        exact this h4
      refine c_Premove hst hp2 (fun hno' => ?_) (fun ys' z' zs' m' e' hno' hz' f' hp' => fin ys' z' zs' m' e' hno' hz' f' hp')
      exact absurd ((h2.key (hin z (by rw [e]; simp)) 0).trans hz) (hno' z (by simp))
end L2u
