/-- only items' flags (their log page, whether they were got) have changed -/
def Fl (m m' : XM) : Prop := m'.1 = m.1 ∧ m'.2.2.1 = m.2.2.1 ∧ m'.2.2.2 = m.2.2.2 ∧ ∀ b k, ¬ (m.1 b = some (oB 1) ∧ (k = 4 ∨ k = 5)) → m'.2.1 b k = m.2.1 b k
section L2e
variable {m m' m'' : XM} {a p pa : Nat} {xs ys zs : List Nat}
theorem Fl.rf : Fl m m := ⟨rfl, rfl, rfl, fun _ _ _ => rfl⟩
theorem Fl.tr (h : Fl m m') (h' : Fl m' m'') : Fl m m'' := ⟨h'.1.trans h.1, h'.2.1.trans h.2.1, h'.2.2.1.trans h.2.2.1, fun b k hb => (h'.2.2.2 b k (by rw [h.1]; exact hb)).trans (h.2.2.2 b k hb)⟩
theorem flI {k : Nat} (v : Int32) (ha : m.1 a = some (oB 1)) (hk : k = 4 ∨ k = 5) : Fl m (mI m a k v) := ⟨rfl, rfl, rfl, fun b j hb => by
  have : ¬ (b = a ∧ j = k) := by
    rintro ⟨rfl, rfl⟩
    exact hb ⟨ha, hk⟩
  simp [gI, gL, gR, mI, this]⟩
theorem Fl.kd (h : Fl m m') (a : Nat) : m'.1 a = m.1 a := by rw [h.1]
theorem Fl.gL (h : Fl m m') (a k : Nat) : m'.2.2.1 a k = m.2.2.1 a k := by rw [h.2.1]
theorem Fl.gR (h : Fl m m') (a k : Nat) : m'.2.2.2 a k = m.2.2.2 a k := by rw [h.2.2.1]
theorem Itm.fl (h : Itm m a) (hf : Fl m m') : Itm m' a := by
  obtain ⟨h1, ⟨v, n, h2, h3, h4⟩, h5, h6⟩ := h
  refine ⟨(hf.kd a).trans h1, ⟨v, n, (hf.gR a 1).trans h2, (hf.kd v).trans h3, h4⟩, ?_, ?_⟩
  · show m'.2.1 a 2 = setF (m'.2.2.1 a 0)
    rw [hf.2.1, hf.2.2.2 a 2 (fun q => by rcases q.2 with h | h <;> cases h)]
    exact h5
  · show m'.2.2.1 a 3 = bitF (m'.2.2.1 a 0)
    rw [hf.2.1]
    exact h6
theorem vlen_fl (hf : Fl m m') : vlen m' a = vlen m a := by
  unfold vlen
  simp only [hf.1, hf.2.2.1]
theorem wsum_fl (hf : Fl m m') : wsum m' xs = wsum m xs := by
  unfold wsum iw
  rw [List.map_congr_left (fun a _ => by rw [vlen_fl hf])]
theorem bors_fl (hf : Fl m m') : bors m' xs = bors m xs := by
  have : (fun (f : Int64) a => f ||| gL m' a 3) = fun f a => f ||| gL m a 3 := by
    funext f a
    rw [show gL m' a 3 = gL m a 3 from hf.gL a 3]
  unfold bors
  rw [this]
theorem PgOK.fl (h : PgOK m p pa xs) (hf : Fl m m') : PgOK m' p pa xs := by
  obtain ⟨g1, g2, g3, g4, g5, g6, g7, g8, g9⟩ := h
  have hp : ∀ k, m'.2.1 p k = m.2.1 p k := fun k => hf.2.2.2 p k (fun q => by
    have := q.1.symm.trans g1
    cases this)
  refine ⟨(hf.kd p).trans g1, (hf.gR p 0).trans g2, (hf.kd pa).trans g3, (hp 1).trans g4, fun i hi => (hf.gR pa i).trans (g5 i hi), fun a ha => (g6 a ha).fl hf, ?_, ?_, ?_⟩
  · rw [wsum_fl hf]; exact (hp 2).trans g7
  · rw [wsum_fl hf]; exact g8
  · rw [bors_fl hf]; exact (hf.gL p 3).trans g9
end L2e
section L2f
variable {l : Launch} {G : xG} {m : XM} {Q : XR → XM → Prop} {a p pa : Nat} {xs ys zs : List Nat} {key : Int64}
theorem c_clearMarks (hst : l.stackTraces = false) (hp : PgOK m p pa xs) (hq : ∀ m', Fl m m' → (∀ b k, m'.2.1 b k = if b ∈ xs ∧ k = 5 then 0 else m.2.1 b k) → Q (.inl none) m') : CC l G xP_clearMarks [vR (some p)] m Q := by
  have hl := hp.len
  refine bP_clearMarks hst ?_
  have loop : ∀ (zs ys : List Nat) (mm : XM), ys ++ zs = xs → Fl m mm → (∀ b k, mm.2.1 b k = if b ∈ ys ∧ k = 5 then 0 else m.2.1 b k) → WW l G xP_clearMarks 2 [some (vR (some p)), some (vI (nI ys.length))] [] mm 0 0 Q := by
    intro zs
    induction zs with
    | nil =>
      intro ys mm e f g
      rw [List.append_nil] at e
      subst e
      have hp' := hp.fl f
      refine bP_clearMarks_2 ⟨hp'.1, fun _ => hq mm f g, fun h => ?_⟩
      rw [show gI mm p 1 = _ from hp'.2.2.2.1] at h
      exact absurd (nI_le (Nat.le_refl _) (by omega)) h
    | cons z zs ih =>
      intro ys mm e f g
      have hp' := hp.fl f
      have hlt : ys.length < xs.length := by rw [← e]; simp
      have hz : Itm mm z := hp'.2.2.2.2.2.1 z (by rw [← e]; simp)
      refine bP_clearMarks_2 ⟨hp'.1, fun h => ?_, fun _ => ⟨pa, hp'.2.1, 8, hp'.2.2.1, vp_in_nI (by omega) (by omega), z, ?_, hz.1, ?_⟩⟩
      · rw [show gI mm p 1 = _ from hp'.2.2.2.1] at h
        exact absurd h (nI_ge hlt (by omega))
      · rw [nI_clamp (by omega)]
        exact (e ▸ hp').at
      · rintro m10 rfl
        rw [nI_1]
        have := ih (ys ++ [z]) (mI mm z 5 0) (by rw [List.append_assoc]; exact e) (f.tr (flI 0 hz.1 (Or.inr rfl))) (fun b k => by
          by_cases hb : b = z ∧ k = 5
          · simp [gI, gL, gR, mI, hb.1, hb.2]
          · simp only [gI, gL, gR, mI, if_neg hb, g b k, List.mem_append, List.mem_singleton]
            by_cases hk : k = 5
            · have : b ≠ z := fun q => hb ⟨q, hk⟩
              simp [this]
            · simp [hk])
        simpa using this
  exact loop xs [] m rfl Fl.rf (fun b k => by simp)
/-- the items that stay when those of a mark go until there is room: kept so far, still to look at -/
def drp (m : XM) (need : Nat) (mk : Int32) : List Nat → List Nat → List Nat
  | ys, [] => ys
  | ys, z :: zs => if wsum m (ys ++ z :: zs) + need ≤ 32 then ys ++ z :: zs else if m.2.1 z 5 = mk then drp m need mk ys zs else drp m need mk (ys ++ [z]) zs
theorem drp_sub (m : XM) (need : Nat) (mk : Int32) : ∀ (zs ys : List Nat) (a : Nat), a ∈ drp m need mk ys zs → a ∈ ys ∨ a ∈ zs
  | [], ys, a, h => Or.inl h
  | z :: zs, ys, a, h => by
    unfold drp at h
    split at h
    · exact List.mem_append.mp h
    · split at h
      · rcases drp_sub m need mk zs ys a h with h | h
        · exact Or.inl h
        · exact Or.inr (List.mem_cons_of_mem _ h)
      · rcases drp_sub m need mk zs (ys ++ [z]) a h with h | h
        · rcases List.mem_append.mp h with h | h
          · exact Or.inl h
          · exact Or.inr (by rw [List.mem_singleton.mp h]; exact List.mem_cons_self)
        · exact Or.inr (List.mem_cons_of_mem _ h)
theorem c_dropFor {need : Nat} {mk : Int32} (hst : l.stackTraces = false) (hp : PgOK m p pa xs) (hneed : need < 2 ^ 30) (hq : ∀ m', Fr (PF p pa) m m' → PgOK m' p pa (drp m need mk [] xs) → Q (.inl (some (vI (nI xs.length - nI (drp m need mk [] xs).length)))) m') : CC l G xP_dropFor [vR (some p), vI (nI need), vI mk] m Q := by
  have hl := hp.len
  have hnp := hp.nPF
  have hit := hp.2.2.2.2.2.1
  refine bP_dropFor hst ⟨hp.1, ?_⟩
  rw [show gI m p 1 = _ from hp.2.2.2.1]
  have loop : ∀ (zs ys : List Nat) (mm : XM) (i : Nat), i + zs.length = xs.length → ys.length ≤ i → (∀ a ∈ ys ++ zs, a ∈ xs) → drp m need mk ys zs = drp m need mk [] xs → Fr (PF p pa) m mm → PgOK mm p pa (ys ++ zs) →
      WW l G xP_dropFor 11 [some (vR (some p)), some (vI (nI need)), some (vI mk), some (vI (nI xs.length)), some (vI (nI ys.length)), some (vI (nI i))] [] mm 0 0 Q := by
    intro zs
    induction zs with
    | nil =>
      intro ys mm i e hy hsub hd f hpm
      rw [List.append_nil] at hpm
      have hd' : ys = drp m need mk [] xs := hd
      refine bP_dropFor_11 ⟨fun _ => ⟨hpm.1, ?_⟩, fun h => ?_⟩
      · rw [show gI mm p 1 = _ from hpm.2.2.2.1, hd']
        exact hq mm f (hd' ▸ hpm)
      · simp at e
        exact absurd (nI_le (by omega) (by omega)) h
    | cons z zs ih =>
      intro ys mm i e hy hsub hd f hpm
      have hlm := hpm.len
      simp at e hlm
      have hws : wsum mm (ys ++ z :: zs) = wsum m (ys ++ z :: zs) := wsum_fr f (fun a ha => hnp a (hsub a ha))
      refine bP_dropFor_11 ⟨fun h => absurd h (nI_ge (by omega) (by omega)), fun _ => ⟨hpm.1, c_hasRoomFor hst hpm hneed (fun hr => ⟨fun _ => ⟨hpm.1, ?_⟩, fun h => absurd h (by decide)⟩) (fun hr => ⟨fun h => absurd rfl h, fun _ => ?_⟩)⟩⟩
      · rw [hws] at hr
        have hd' : ys ++ z :: zs = drp m need mk [] xs := by
          rw [← hd]
          unfold drp
          rw [if_pos hr]
        rw [show gI mm p 1 = _ from hpm.2.2.2.1, hd']
        exact hq mm f (hd' ▸ hpm)
      · rw [hws] at hr
        have hzx : z ∈ xs := hsub z (by simp)
        have hflag : mm.2.1 z 5 = m.2.1 z 5 := f.gI (hnp z hzx) 5
        refine ⟨hpm.1, pa, hpm.2.1, 8, hpm.2.2.1, vp_in_nI (by omega) (by omega), z, ?_, (f.kd z).trans (hit z hzx).1, fun h => ?_, fun h => ?_⟩
        · rw [nI_clamp (by omega)]
          exact hpm.at
        · rw [nI_1, nI_1]
          have := ih (ys ++ [z]) mm (i + 1) (by omega) (by simp; omega) (by rw [List.append_assoc]; exact hsub) (by
            rw [← hd]
            conv => rhs; unfold drp
            rw [if_neg (by omega), if_neg (by rw [← hflag]; exact h)]) f (by rw [List.append_assoc]; exact hpm)
          simpa using this
        · refine c_removeAt hst hpm (fun m2 f2 hp2 => ?_)
          show WW _ _ _ _ _ _ _ _ _ _
          rw [nI_1]
          exact ih ys m2 (i + 1) (by omega) (by omega) (fun a ha => hsub a (by
            rcases List.mem_append.mp ha with h | h
            · exact List.mem_append_left _ h
            · exact List.mem_append_right _ (List.mem_cons_of_mem _ h))) (by
            rw [← hd]
            conv => rhs; unfold drp
            rw [if_neg (by omega), if_pos (by rw [← hflag]; exact h)]) (f.tr f2) hp2
  exact loop xs [] m 0 (by simp) (Nat.le_refl _) (fun a ha => by simpa using ha) rfl Fr.rf (by simpa using hp)
end L2f
