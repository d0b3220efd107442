section L2c
variable {l : Launch} {G : xG} {m : XM} {Q : XR → XM → Prop} {a p pa : Nat} {xs ys zs : List Nat} {key : Int64}
/-- what stays of a page while it is changed -/
def PgB (m mm : XM) (p pa s w : Nat) : Prop := Fr (PF p pa) m mm ∧ gR mm p 0 = some pa ∧ gI mm p 1 = nI s ∧ gI mm p 2 = nI w
theorem PgB.ok {mm : XM} (hB : PgB m mm p pa xs.length (wsum m xs)) (hk : kd m p = some (oB 3)) (hk2 : kd m pa = some (aR 3 8)) (hx : ∀ a ∈ xs, Itm m a) (hn : ∀ a ∈ xs, ¬ PF p pa a) (hw : wsum m xs ≤ 32) (ha : ∀ i, i < xs.length → gR mm pa i = xs[i]?) (hb : gL mm p 3 = bors m xs) : PgOK mm p pa xs := by
  obtain ⟨f, g1, g2, g3⟩ := hB
  refine ⟨(f.kd p).trans hk, g1, (f.kd pa).trans hk2, g2, ha, fun a h => (hx a h).fr f (hn a h), ?_, ?_, ?_⟩
  · rw [wsum_fr f hn]; exact g3
  · rw [wsum_fr f hn]; exact hw
  · rw [bors_fr f hn]; exact hb
theorem c_removeAt {z : Nat} (hst : l.stackTraces = false) (hp : PgOK m p pa (ys ++ z :: zs)) (hq : ∀ m', Fr (PF p pa) m m' → PgOK m' p pa (ys ++ zs) → Q (.inl none) m') : CC l G xP_removeAt [vR (some p), vI (nI ys.length)] m Q := by
  have hl := hp.len
  have hlen : (ys ++ z :: zs).length = ys.length + 1 + zs.length := by simp; omega
  rw [hlen] at hl
  have hz := hp.at
  have hne := hp.ne
  have hi : Itm m z := hp.2.2.2.2.2.1 z (by simp)
  have hcl : ∀ j, j ≤ 8 → (nI j).toNatClampNeg = j := fun j hj => nI_clamp (by omega)
  have hxs : ∀ a ∈ ys ++ zs, a ∈ ys ++ z :: zs := by
    intro a ha
    rcases List.mem_append.mp ha with h | h
    · exact List.mem_append_left _ h
    · exact List.mem_append_right _ (List.mem_cons_of_mem _ h)
  have hit : ∀ a ∈ ys ++ zs, Itm m a := fun a ha => hp.2.2.2.2.2.1 a (hxs a ha)
  have hnp : ∀ a ∈ ys ++ zs, ¬ PF p pa a := fun a ha => hp.nPF a (hxs a ha)
  have hws : wsum m (ys ++ z :: zs) = iw m z + wsum m (ys ++ zs) := by
    rw [wsum_app, wsum_cons, wsum_app]; omega
  have hw32 := hp.2.2.2.2.2.2.2.1
  have hs : (ys ++ zs).length = ys.length + zs.length := by simp
  -- the second loop: the filter anew
  have loop2 : ∀ (z2 y2 : List Nat) (mm : XM), y2 ++ z2 = ys ++ zs → PgB m mm p pa (ys ++ zs).length (wsum m (ys ++ zs)) → (∀ i, i < (ys ++ zs).length → gR mm pa i = (ys ++ zs)[i]?) → gL mm p 3 = bors m y2 →
      WW l G xP_removeAt 75 [some (vR (some p)), some (vI (nI ys.length)), some (vI (nI y2.length))] [] mm 0 0 Q := by
    intro z2
    induction z2 with
    | nil =>
      intro y2 mm e hB ha hb
      rw [List.append_nil] at e
      subst e
      refine bP_removeAt_75 ⟨(hB.1.kd p).trans hp.1, fun _ => ?_, fun h => ?_⟩
      · exact hq mm hB.1 (hB.ok hp.1 hp.2.2.1 hit hnp (by omega) ha hb)
      · rw [show gI mm p 1 = _ from hB.2.2.1] at h
        exact absurd (nI_le (Nat.le_refl _) (by omega)) h
    | cons b z2 ih =>
      intro y2 mm e hB ha hb
      have hlt : y2.length < (ys ++ zs).length := by rw [← e]; simp
      have hb2 : b ∈ ys ++ zs := by rw [← e]; simp
      refine bP_removeAt_75 ⟨(hB.1.kd p).trans hp.1, fun h => ?_, fun _ => ?_⟩
      · rw [show gI mm p 1 = _ from hB.2.2.1] at h
        exact absurd h (nI_ge hlt (by omega))
      · refine ⟨pa, hB.2.1, 8, (hB.1.kd pa).trans hp.2.2.1, vp_in_nI (by omega) (by omega), b, ?_, (hB.1.kd b).trans (hit b hb2).1, ?_⟩
        · rw [hcl _ (by omega), ha _ hlt, ← e]
          simp
        · rintro m10 rfl
          rw [nI_1]
          have := ih (y2 ++ [b]) (mL mm p 3 (gL mm p 3 ||| gL mm b 3)) (by rw [List.append_assoc]; exact e) ⟨hB.1.tr (frL 3 _ (Or.inl rfl)), hB.2⟩ ha (by
            rw [bors_snoc, ← hb, ← (hB.1.gL (hnp b hb2) 3)]
            simp [gI, gL, gR, mL])
          simpa using this
  -- the first loop: the later ones move down
  have loop1 : ∀ (k i : Nat) (mm : XM), i + k = ys.length + zs.length → ys.length ≤ i → PgB m mm p pa (ys ++ zs).length (wsum m (ys ++ zs)) → (∀ j, j < i → gR mm pa j = (ys ++ zs)[j]?) → (∀ j, i ≤ j → j ≤ ys.length + zs.length → gR mm pa j = (ys ++ z :: zs)[j]?) →
      WW l G xP_removeAt 30 [some (vR (some p)), some (vI (nI ys.length)), some (vI (nI i))] [] mm 0 0 Q := by
    intro k
    induction k with
    | zero =>
      intro i mm e hi1 hB h1 h2
      refine bP_removeAt_30 ⟨(hB.1.kd p).trans hp.1, fun _ => ?_, fun h => ?_⟩
      · refine ⟨pa, hB.2.1, 8, (hB.1.kd pa).trans hp.2.2.1, ?_, ?_⟩
        · rw [show gI mm p 1 = _ from hB.2.2.1]
          exact vp_in_nI (by omega) (by omega)
        · rintro m7 rfl m8 rfl
          rw [show gI mm p 1 = _ from hB.2.2.1, hcl _ (by omega)]
          refine loop2 (ys ++ zs) [] _ rfl ⟨(hB.1.tr (frR _ _ (Or.inr rfl))).tr (frL _ _ (Or.inl rfl)), ?_, hB.2.2⟩ (fun i hi => ?_) ?_
          · show (mR mm pa _ none).2.2.2 p 0 = some pa
            rw [← show gR mm p 0 = _ from hB.2.1]
            simp [gI, gL, gR, mR, hne]
          · show (mR mm pa _ none).2.2.2 pa i = _
            rw [← h1 i (by omega)]
            have : i ≠ (ys ++ zs).length := by omega
            simp [gI, gL, gR, mR]
            omega
          · simp [gI, gL, gR, mL, bors]
      · rw [show gI mm p 1 = _ from hB.2.2.1, hs] at h
        exact absurd (nI_le (by omega) (by omega)) h
    | succ k ih =>
      intro i mm e hi1 hB h1 h2
      have hr : (ys ++ z :: zs)[i + 1]? = (ys ++ zs)[i]? := by
        rw [List.getElem?_append_right (by omega), List.getElem?_append_right (by omega), show i + 1 - ys.length = (i - ys.length) + 1 by omega, List.getElem?_cons_succ]
      have hlt : i < (ys ++ zs).length := by omega
      obtain ⟨b, hb⟩ : ∃ b, (ys ++ zs)[i]? = some b := ⟨_, List.getElem?_eq_getElem hlt⟩
      have hbm : b ∈ ys ++ zs := List.mem_of_getElem? hb
      refine bP_removeAt_30 ⟨(hB.1.kd p).trans hp.1, fun h => ?_, fun _ => ?_⟩
      · rw [show gI mm p 1 = _ from hB.2.2.1, hs] at h
        exact absurd h (nI_ge (by omega) (by omega))
      · refine ⟨pa, hB.2.1, 8, (hB.1.kd pa).trans hp.2.2.1, ?_, vp_in_nI (by omega) (by omega), b, ?_, (hB.1.kd b).trans (hit b hbm).1, ?_⟩
        · rw [nI_1]; exact vp_in_nI (by omega) (by omega)
        · rw [nI_1, hcl _ (by omega), h2 (i + 1) (by omega) (by omega), hr]
          exact hb
        · rintro m18 rfl
          rw [nI_1, hcl _ (by omega)]
          refine ih (i + 1) _ (by omega) (by omega) ⟨hB.1.tr (frR _ _ (Or.inr rfl)), ?_, hB.2.2⟩ (fun j hj => ?_) (fun j hj1 hj2 => ?_)
          · rw [← show gR mm p 0 = _ from hB.2.1]
            simp [gI, gL, gR, mR, hne]
          · by_cases hji : j = i
            · subst hji
              rw [hb]
              simp [gI, gL, gR, mR]
            · rw [← h1 j (by omega)]
              simp [gI, gL, gR, mR, hji]
          · rw [← h2 j (by omega) hj2]
            have : j ≠ i := by omega
            simp [gI, gL, gR, mR, this]
  refine bP_removeAt hst ⟨hp.1, pa, hp.2.1, 8, hp.2.2.1, vp_in_nI (by omega) (by omega), z, by rw [hcl _ (by omega)]; exact hz, hi.1, c_words hst hi ⟨hp.1, ?_⟩⟩
  rintro m13 rfl m14 rfl
  refine loop1 zs.length ys.length _ rfl (Nat.le_refl _) ⟨(frI _ _ (Or.inl rfl)).tr (frI _ _ (Or.inl rfl)), hp.2.1, ?_, ?_⟩ (fun j hj => ?_) (fun j hj1 hj2 => ?_)
  · rw [hs]
    simp only [gI, gL, gR, mI]
    rw [show m.2.1 p 1 = _ from hp.2.2.2.1, hlen]
    simp
    rw [show ys.length + 1 + zs.length = (ys.length + zs.length) + 1 by omega]
    exact nI_pred _
  · simp only [gI, gL, gR, mI]
    rw [show m.2.1 p 2 = _ from hp.2.2.2.2.2.2.1, hws]
    simp
    rw [pk_sub (by omega)]
    congr 1
    omega
  · show m.2.2.2 pa j = _
    rw [show m.2.2.2 pa j = _ from hp.2.2.2.2.1 j (by omega), List.getElem?_append_left hj, List.getElem?_append_left hj]
  · exact hp.2.2.2.2.1 j (by omega)
theorem c_Premove (hst : l.stackTraces = false) (hp : PgOK m p pa xs) (hn : (∀ a ∈ xs, gL m a 0 ≠ key) → Q (.inl none) m)
    (hs : ∀ ys z zs m', xs = ys ++ z :: zs → (∀ a ∈ ys, gL m a 0 ≠ key) → gL m z 0 = key → Fr (PF p pa) m m' → PgOK m' p pa (ys ++ zs) → Q (.inl none) m') : CC l G xP_remove [vR (some p), vL key] m Q := by
  have hl := hp.len
  refine bP_remove hst ⟨hp.1, c_placeOf hst hp (fun hno => ⟨fun _ => hn hno, fun h => absurd rfl h⟩) (fun ys z zs e hno hz => ⟨fun h => ?_, fun _ => ?_⟩)⟩
  · have hlen : ys.length < xs.length := by rw [e]; simp
    have : (nI ys.length).toInt = -1 := by rw [h]; rfl
    rw [nI_toInt (by omega)] at this
    omega
  · exact ⟨hp.1, c_removeAt hst (e ▸ hp) (fun m' f g => hs ys z zs m' e hno hz f g)⟩
end L2c
section L2d
variable {l : Launch} {G : xG} {m : XM} {Q : XR → XM → Prop} {a p pa : Nat} {xs ys zs : List Nat} {key : Int64}
theorem c_Padd (hst : l.stackTraces = false) (hp : PgOK m p pa xs) (hi : Itm m a) (hroom : wsum m xs + iw m a ≤ 32) (hq : ∀ m', Fr (PF p pa) m m' → PgOK m' p pa (xs ++ [a]) → Q (.inl none) m') : CC l G xP_add [vR (some p), vR (some a)] m Q := by
  have h4 := wsum_len hp.2.2.2.2.2.1
  obtain ⟨v, -, -, hv1, -⟩ := hi.vl
  have hiw : 4 ≤ iw m a := by unfold iw; omega
  have hcl : (nI xs.length).toNatClampNeg = xs.length := nI_clamp (by omega)
  have hsz : gI m p 1 = nI xs.length := hp.2.2.2.1
  have hne := hp.ne
  have hna := hi.nPF hp
  have hnp := hp.nPF
  refine bP_add hst ⟨hp.1, pa, hp.2.1, 8, hp.2.2.1, by rw [hsz]; exact vp_in_nI (by omega) (by omega), a, rfl, hi.1, ?_⟩
  rintro m10 rfl m11 rfl
  rw [hsz, hcl, nI_1]
  have f1 : Fr (PF p pa) m (mI (mR m pa xs.length (some a)) p 1 (nI (xs.length + 1))) := (frR _ _ (Or.inr rfl)).tr (frI _ _ (Or.inl rfl))
  refine c_words hst (hi.fr f1 hna) ⟨hp.1, ?_⟩
  rintro m15 rfl
  refine ⟨hi.1, ?_⟩
  rintro m17 rfl
  have f2 := (f1.tr (frI (F := PF p pa) (a := p) 2 (gI (mI (mR m pa xs.length (some a)) p 1 (nI (xs.length + 1))) p 2 + nI (iw (mI (mR m pa xs.length (some a)) p 1 (nI (xs.length + 1))) a)) (Or.inl rfl))).tr (frL (F := PF p pa) (a := p) 3 (gL (mI (mR m pa xs.length (some a)) p 1 (nI (xs.length + 1))) p 3 ||| gL (mI (mR m pa xs.length (some a)) p 1 (nI (xs.length + 1))) a 3) (Or.inl rfl))
  have hxa : ∀ b ∈ xs ++ [a], Itm m b := by
    intro b hb
    rcases List.mem_append.mp hb with h | h
    · exact hp.2.2.2.2.2.1 b h
    · rw [List.mem_singleton.mp h]; exact hi
  have hna2 : ∀ b ∈ xs ++ [a], ¬ PF p pa b := by
    intro b hb
    rcases List.mem_append.mp hb with h | h
    · exact hnp b h
    · rw [List.mem_singleton.mp h]; exact hna
  refine hq _ f2 (PgB.ok ⟨f2, ?_, ?_, ?_⟩ hp.1 hp.2.2.1 hxa hna2 (by rw [wsum_app, wsum_cons, wsum_nil]; omega) (fun i hi' => ?_) ?_)
  · show (mR m pa xs.length (some a)).2.2.2 p 0 = some pa
    rw [← show gR m p 0 = _ from hp.2.1]
    simp [gI, gL, gR, mR, hne]
  · simp [gI, gL, gR, mI, mL]
  · rw [iw_fr f1 hna]
    simp [gI, gL, gR, mI, mL, mR]
    rw [show m.2.1 p 2 = _ from hp.2.2.2.2.2.2.1, nI_add, wsum_app, wsum_cons, wsum_nil]
    rfl
  · show (mR m pa xs.length (some a)).2.2.2 pa i = _
    simp at hi'
    by_cases h : i = xs.length
    · subst h
      simp [gI, gL, gR, mR]
    · rw [List.getElem?_append_left (by omega), ← hp.2.2.2.2.1 i (by omega)]
      simp [gI, gL, gR, mR, h]
  · rw [bors_snoc, ← show gL m p 3 = _ from hp.2.2.2.2.2.2.2.2]
    simp [gI, gL, gR, mI, mL, mR]
/-- a page that is emptied -/
theorem c_Pwipe (hst : l.stackTraces = false) (h1 : kd m p = some (oB 3)) (h2 : gR m p 0 = some pa) (h3 : kd m pa = some (aR 3 8)) (hq : ∀ m', Fr (PF p pa) m m' → PgOK m' p pa [] → Q (.inl none) m') : CC l G xP_wipe [vR (some p)] m Q := by
  have hne : p ≠ pa := fun e => by rw [e, h3] at h1; cases h1
  refine bP_wipe hst ?_
  have loop : ∀ (k i : Nat) (mm : XM), i + k = 8 → Fr (PF p pa) m mm → gR mm p 0 = some pa → WW l G xP_wipe 2 [some (vR (some p)), some (vI (nI i))] [] mm 0 0 Q := by
    intro k
    induction k with
    | zero =>
      intro i mm e f g
      refine bP_wipe_2 ⟨fun _ => ⟨(f.kd p).trans h1, ?_⟩, fun h => ?_⟩
      · rintro m2 rfl m3 rfl m4 rfl
        have f2 : Fr (PF p pa) m (mL (mI (mI mm p 1 0) p 2 0) p 3 0) := ((f.tr (frI _ _ (Or.inl rfl))).tr (frI _ _ (Or.inl rfl))).tr (frL _ _ (Or.inl rfl))
        refine hq _ f2 ⟨(f.kd p).trans h1, g, (f.kd pa).trans h3, ?_, fun i hi => absurd hi (Nat.not_lt_zero _), (fun a ha => nomatch ha), ?_, ?_, ?_⟩
        · simp [gI, gL, gR, mI, mL, nI_0]
        · simp [gI, gL, gR, mI, mL, wsum, nI_0]
        · simp [wsum]
        · simp [gI, gL, gR, mL, bors]
      · rw [show (8 : Int32) = nI 8 from rfl] at h
        exact absurd (nI_le (by omega) (by omega)) h
    | succ k ih =>
      intro i mm e f g
      refine bP_wipe_2 ⟨fun h => ?_, fun _ => ⟨(f.kd p).trans h1, pa, g, 8, (f.kd pa).trans h3, vp_in_nI (by omega) (by omega), ?_⟩⟩
      · rw [show (8 : Int32) = nI 8 from rfl] at h
        exact absurd h (nI_ge (by omega) (by omega))
      · rintro m11 rfl
        rw [nI_1]
        refine ih (i + 1) _ (by omega) (f.tr (frR _ _ (Or.inr rfl))) ?_
        rw [← g]
        simp [gI, gL, gR, mR, hne]
  exact loop 8 0 m rfl Fr.rf h2
end L2d
