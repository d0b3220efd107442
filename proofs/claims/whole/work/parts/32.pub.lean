/-! the calls that change little: word, count, setOf, where, flash, delete -/
def aCnt (A : AS) (x : Int32) : Int32 := if x < 0 then -1 else if ¬ x ≤ 12 then -1 else if x = 0 then nI (A.w / 4) else if x = 11 then nI A.Y.length else if x = 12 then nI (eS (A.Z 96)) else A.c x.toNatClampNeg
def aWh (A : AS) (key : Int64) : Int32 := if aHas key A.Y then 1 else if aHas key (A.Z (sN key)) then 2 else 0
def eword (e : Ent) (i : Nat) : Int32 := if i = 0 then nI e.v.length else if i = 1 then (jushr e.k (32 : Int32)).toInt32 else if i = 2 then e.k.toInt32 else e.v.getD (i - 3) 0
def apw : List Ent → Nat → Int32
  | [], _ => 0
  | e :: xs, i => if i < ew e then eword e i else apw xs (i - ew e)
def aDA (key : Int64) (A : AS) : Int32 := if aHas key A.Y then 1 else aRmA key A.Z
section L2K
variable {l : Launch} {G : xG} {Q : XR → XM → Prop} {K ar : Nat → Nat} {m0 m m' m'' : XM} {N E : Nat → Prop} {pg : Nat → Nat} {Z : Nat → List Nat} {Y xs ys : List Nat} {w j a s : Nat} {c fg fp : Nat → Int32} {A B : AS} {b b' : Nat → Int32} {fo : Option (List Int32)} {op : Int32} {key : Int64} {T : Nat → Ent}
theorem CQ.xt (h : CQ K N A b fo op m) (hx : Xt K E m m') (hb : ∀ i, i < 8 → m'.2.1 (K 1) i = b' i) (hn : ∀ a, m'.1 a = some (oB 1) → m.1 a = some (oB 1)) : CQ K N A b' fo op m' := by
  have hk := h.kd0
  obtain ⟨⟨ar, pg, Z, Y, c, fg, fp, h1⟩, h2, h3, h4, h5, h6, h7⟩ := h
  obtain ⟨e0, e1, e2, e3⟩ := hx.at hk (show 4 ≤ 4 by decide)
  refine ⟨⟨ar, pg, Z, Y, c, _, _, hx.cr h1⟩, h2, hb, ?_, ?_, ⟨fun a ha v hv => ?_, fun x hN => ?_⟩, h7⟩
  · cases fo with
    | none =>
      show m'.2.2.2 (K 0) 6 = none
      rw [e3]
      exact h4
    | some v =>
      obtain ⟨a, q1, q2, q3⟩ := h4
      obtain ⟨r1, r2, -⟩ := hx.item q2
      exact ⟨a, by rw [e3]; exact q1, r1, r2.trans q3⟩
  · rw [e1]
    exact h5
  · have ha' := hn a ha
    obtain ⟨-, -, -, r3⟩ := hx.at ha' (show 1 ≤ 4 by decide)
    rw [r3] at hv
    exact h6.1 a ha' v hv
  · rw [hx.1 x (h6.2 x hN)]
    exact h6.2 x hN
theorem CQ.xfr (h : CQ K N A b fo op m) (hf : Fr E m m') (hE : ∀ x, E x → N x ∧ ¬ clsK K x (m.1 x)) (hb : ∀ i, i < 8 → m'.2.1 (K 1) i = b' i) : CQ K N A b' fo op m' :=
  h.xt (E := E) ⟨fun x _ => hf.kd x, fun x _ hx => hf.2 x hx, fun x hx => (hE x hx).2, fun a ha v hv q => h.2.2.2.2.2.1.1 a ha v hv (hE v q).1⟩ hb (fun a ha => by rw [← hf.1]; exact ha)
theorem c_Cword {x y : Int32} (hst : l.stackTraces = false) (h : CQ K N A b fo op m) (h0 : (x < 0 ∨ ¬ x < 8) → Q (.inr "java/lang/IndexOutOfBoundsException") m)
    (h1 : ¬ x < 0 → x < 8 → ∀ m', Ce K m m' → CQ K N A (up b x.toNatClampNeg y) fo op m' → Q (.inl (some (vI (b x.toNatClampNeg)))) m') : CC l G xC_word [vR (some (K 0)), vI x, vI y] m Q := by
  have g0 : gR m (K 0) 0 = some (K 1) := by
    obtain ⟨ar, pg, Z, Y, c, fg, fp, h1⟩ := h.1
    exact h1.1.1.1.2.1
  refine bC_word hst ⟨fun q => ⟨by omega, by omega, h0 (Or.inl q)⟩, fun q => ⟨fun q2 => ⟨h.kd0, K 1, g0, 8, h.kd1, ?_, ?_, ?_⟩, fun q2 => ⟨by omega, by omega, h0 (Or.inr q2)⟩⟩⟩
  all_goals obtain ⟨n, hn, e⟩ := nI_of q
  all_goals have hcl : x.toNatClampNeg = n := by rw [e]; exact nI_clamp hn
  all_goals
    have h8 : n < 8 := by
        rw [e, show (8 : Int32) = nI 8 from rfl, nI_ltI hn (by omega)] at q2
        exact q2
  · rw [e]
    exact vp_in_nI h8 (by omega)
  · rw [e]
    exact vp_in_nI h8 (by omega)
  · intro m8 hm
    have hf : Fr (fun z => z = K 1) m m8 := by rw [hm]; exact frI _ _ rfl
    have := h1 q q2 m8 ⟨fun z _ => hf.kd z, fun z _ _ hz => hf.2 z hz⟩ (h.xfr hf (fun z hz => by
      rw [hz]
      exact ⟨h.2.2.2.2.2.2, by rw [h.kd1]; exact ncls1⟩) (fun i hi => by
      rw [hm]
      by_cases q : i = x.toNatClampNeg
      · simp [mI, up, q]
      · simp [mI, up, q]
        exact h.2.2.1 i hi))
    rw [show gI m (K 1) x.toNatClampNeg = b x.toNatClampNeg from h.2.2.1 _ (by rw [hcl]; exact h8)]
    exact this
theorem c_CsetOf (hst : l.stackTraces = false) (hq : Q (.inl (some (vI (setF key)))) m) : CC l G xC_setOf [vR (some (K 0)), vL key] m Q := bC_setOf hst (c_mix hst (c_setNumber hst hq))
theorem c_Ccount {x : Int32} (hst : l.stackTraces = false) (h : CQ K N A b fo op m) (hq : Q (.inl (some (vI (aCnt A x)))) m) : CC l G xC_count [vR (some (K 0)), vI x] m Q := by
  obtain ⟨l1, l2, l3, l4, l5, l6, l7⟩ := h.log
  obtain ⟨ar, pg, Z, Y, c, fg, fp, h1⟩ := h.1
  obtain ⟨a1, a2, a3, a4, a5, a6, a7, a8, a9, a10, a11, a12, a13, a14, a15, a16, a17, a18, a19, a20, a21⟩ := id h1.1.1.1
  unfold aCnt at hq
  refine bC_count hst ⟨fun q => ?_, fun q => ⟨fun q2 => ⟨fun q3 => ⟨fun q4 => ⟨fun q5 => ?_, fun q5 => ?_⟩, fun q4 => ?_⟩, fun q3 => ?_⟩, fun q2 => ?_⟩⟩
  · rw [if_pos q] at hq
    exact hq
  · rw [if_neg q, if_neg (fun r => r q2), if_neg q3, if_neg q4, if_neg q5] at hq
    obtain ⟨n, hn, e⟩ := nI_of q
    have hcl : x.toNatClampNeg = n := by rw [e]; exact nI_clamp hn
    have h11 : n < 11 := by
      have : n ≤ 12 := by
        rw [e, show (12 : Int32) = nI 12 from rfl, nI_leI hn (by omega)] at q2
        exact q2
      have n1 : n ≠ 11 := fun r => q4 (by rw [e, r]; rfl)
      have n2 : n ≠ 12 := fun r => q5 (by rw [e, r]; rfl)
      omega
    rw [hcl] at hq ⊢
    refine ⟨a1, K 4, a8, 11, a9, by rw [e]; exact vp_in_nI h11 (by omega), ?_⟩
    rw [show gI m (K 4) n = A.c n from (h1.1.2.1 n).trans (h1.2.1 n h11)]
    exact hq
  · rw [if_neg q, if_neg (fun r => r q2), if_neg q3, if_neg q4, if_pos q5] at hq
    have hp := h1.1.1.2.1 96 (by omega)
    refine ⟨a1, K 3, a6, a7, pg 96, a17, hp.1, ?_⟩
    have : eS (A.Z 96) = wsum m (Z 96) := by
      rw [h1.2.2.2.1 96 (by omega) (by omega), wsum_map (T := tL m) (fun _ => ew_iw)]
    rw [this] at hq
    rw [show gI m (pg 96) 2 = nI (wsum m (Z 96)) from hp.2.2.2.2.2.2.1]
    exact hq
  · rw [if_neg q, if_neg (fun r => r q2), if_neg q3, if_pos q4] at hq
    refine ⟨a1, K 3, l1, l2, K 8, l3, l4, ?_⟩
    rw [l5]
    exact hq
  · rw [if_neg q, if_neg (fun r => r q2), if_pos q3] at hq
    exact ⟨a1, K 3, l1, l2, c_fullSegments hst l2 l6 (by omega) hq⟩
  · rw [if_neg q, if_pos q2] at hq
    exact hq
theorem aHas_no (h : ∀ a ∈ xs, m.2.2.1 a 0 ≠ key) (hk : ∀ a, (T a).k = m.2.2.1 a 0) : aHas key (xs.map T) = false := by rw [← has_map hk]; exact has_none h
theorem aHas_yes {z : Nat} {zs : List Nat} (hz : m.2.2.1 z 0 = key) (hk : ∀ a, (T a).k = m.2.2.1 a 0) : aHas key ((ys ++ z :: zs).map T) = true := by rw [← has_map hk]; exact has_some hz
theorem c_Cwhere (hst : l.stackTraces = false) (h : CQ K N A b fo op m) (h0 : op = 0 → Q (.inr "java/lang/IllegalStateException") m) (h1 : ¬ op = 0 → Q (.inl (some (vI (aWh A key)))) m) : CC l G xC_where [vR (some (K 0)), vL key] m Q := by
  obtain ⟨l1, l2, l3, l4, l5, l6, l7⟩ := h.log
  obtain ⟨ar, pg, Z, Y, c, fg, fp, hR⟩ := h.1
  obtain ⟨a1, a2, a3, a4, a5, a6, a7, a8, a9, a10, a11, a12, a13, a14, a15, a16, a17, a18, a19, a20, a21⟩ := id hR.1.1.1
  have hs := sN_lt key
  have hpg := hR.1.1.2.1 (sN key) (by omega)
  refine bC_where hst ⟨a1, 0, 0, rfl, rfl, c_Crefuse hst a1 h.2.2.2.2.1 (fun q => ⟨a1, K 3, l1, l2, K 8, l3, l4, c_Ifind hst hR.1.1.2.2.1 (fun hno => ⟨fun _ => ⟨a1, c_mix hst (c_setNumber hst ⟨K 2, a4, 64, a5, ?_, pg (sN key), ?_, hpg.1, c_Pfind hst hpg (fun hno2 => ⟨fun _ => ?_, (fun a r => nomatch r)⟩) (fun ys z zs e hno2 hz => ⟨(fun r => nomatch r), fun _ _ => ?_⟩)⟩)⟩, (fun a r => nomatch r)⟩) (fun ys z zs e hno hz => ⟨(fun r => nomatch r), fun _ _ => ?_⟩)⟩) h0⟩
  · show vp_in (setF key) 64
    rw [setF_n]
    exact vp_in_nI hs (by omega)
  · show gR m (K 2) (setF key).toNatClampNeg = _
    exact a20 (sN key) hs
  all_goals
    have hq := h1 q
    unfold aWh at hq
    rw [hR.2.2.2.2.1, hR.2.2.1 (sN key) hs] at hq
  · rw [aHas_no (m := m) hno (fun _ => rfl), aHas_no (m := m) hno2 (fun _ => rfl)] at hq
    exact hq
  · rw [aHas_no (m := m) hno (fun _ => rfl), e, aHas_yes (m := m) hz (fun _ => rfl)] at hq
    exact hq
  · rw [e, aHas_yes (m := m) hz (fun _ => rfl)] at hq
    exact hq
theorem iword_e (hi : Itm m a) {i : Nat} {g : Int32} {p : Nat} (h : i < iw m a) : iword m a i = eword (mE (m.2.2.1 a 0) (vlist m a) g p) i := by
  have hl : (vlist m a).length = vlen m a := by unfold vlist; simp
  unfold iword eword
  by_cases h0 : i = 0
  · rw [if_pos h0, if_pos h0]
    show _ = nI (vlist m a).length
    rw [hl]
  · rw [if_neg h0, if_neg h0]
    by_cases h1 : i = 1
    · rw [if_pos h1, if_pos h1]
      rfl
    · rw [if_neg h1, if_neg h1]
      by_cases h2 : i = 2
      · rw [if_pos h2, if_pos h2]
        rfl
      · rw [if_neg h2, if_neg h2]
        show _ = (vlist m a).getD (i - 3) 0
        have : i - 3 < vlen m a := by unfold iw at h; omega
        rw [List.getD_eq_getElem?_getD]
        unfold vlist
        rw [List.getElem?_map, List.getElem?_range this]
        rfl
theorem pword_map {g : Nat → Int32} {p : Nat → Nat} : ∀ (xs : List Nat) (i : Nat), (∀ a ∈ xs, Itm m a) → pword m xs i = apw (xs.map (fun a => mE (m.2.2.1 a 0) (vlist m a) (g a) (p a))) i
  | [], i, _ => rfl
  | x :: xs, i, h => by
    have hw : ew (mE (m.2.2.1 x 0) (vlist m x) (g x) (p x)) = iw m x := ew_iw
    rw [List.map_cons, pword, apw, hw]
    split
    · next q => exact iword_e (h x List.mem_cons_self) q
    · exact pword_map xs _ (fun a ha => h a (List.mem_cons_of_mem _ ha))
theorem c_Cflash {x y : Int32} (hst : l.stackTraces = false) (h : CQ K N A b fo op m) (h0 : (x < 0 ∨ 96 ≤ x ∨ y < 0 ∨ ¬ y < 32) → Q (.inr "java/lang/IndexOutOfBoundsException") m)
    (h1 : ¬ x < 0 → ¬ 96 ≤ x → ¬ y < 0 → y < 32 → Q (.inl (some (vI (apw (A.Z x.toNatClampNeg) y.toNatClampNeg)))) m) : CC l G xC_flash [vR (some (K 0)), vI x, vI y] m Q := by
  obtain ⟨ar, pg, Z, Y, c, fg, fp, hR⟩ := h.1
  obtain ⟨a1, a2, a3, a4, a5, a6, a7, a8, a9, a10, a11, a12, a13, a14, a15, a16, a17, a18, a19, a20, a21⟩ := id hR.1.1.1
  refine bC_flash hst ⟨fun q => ⟨by omega, by omega, h0 (Or.inl q)⟩, fun q => ⟨fun q2 => ⟨by omega, by omega, h0 (Or.inr (Or.inl q2))⟩, fun q2 => ⟨fun q3 => ⟨by omega, by omega, h0 (Or.inr (Or.inr (Or.inl q3)))⟩, fun q3 => ⟨fun q4 => ?_, fun q4 => ⟨by omega, by omega, h0 (Or.inr (Or.inr (Or.inr q4)))⟩⟩⟩⟩⟩
  have hq := h1 q q2 q3 q4
  obtain ⟨n, hn, e⟩ := nI_of q
  obtain ⟨k, hk, e'⟩ := nI_of q3
  have hcl : x.toNatClampNeg = n := by rw [e]; exact nI_clamp hn
  have hcl' : y.toNatClampNeg = k := by rw [e']; exact nI_clamp hk
  have n96 : n < 96 := by
    rw [e, show (96 : Int32) = nI 96 from rfl, nI_leI (by omega) hn] at q2
    omega
  have k32 : k < 32 := by
    rw [e', show (32 : Int32) = nI 32 from rfl, nI_ltI hk (by omega)] at q4
    exact q4
  rw [hcl, hcl'] at hq
  have hpg := hR.1.1.2.1 n (by omega)
  subst e
  subst e'
  refine ⟨fun q5 => ⟨a1, K 3, a6, a7, K 7, a14, 32, a15, ?_, pg n, ?_, hpg.1, c_PwordAt hst hpg (by omega) ?_⟩, fun q5 => ⟨a1, K 2, a4, 64, a5, ?_, pg n, ?_, hpg.1, c_PwordAt hst hpg (by omega) ?_⟩⟩
  all_goals rw [show (64 : Int32) = nI 64 from rfl, nI_leI (by omega) hn] at q5
  · rw [show (64 : Int32) = nI 64 from rfl, pk_sub q5]
    exact vp_in_nI (by omega) (by omega)
  · rw [show (64 : Int32) = nI 64 from rfl, pk_sub q5, nI_clamp (by omega)]
    have := a21 (n - 64) (by omega)
    rw [show 64 + (n - 64) = n by omega] at this
    exact this
  · rw [hR.2.2.2.1 n q5 (by omega), show tL m = fun a => mE (m.2.2.1 a 0) (vlist m a) 0 0 from rfl, ← pword_map (g := fun _ => 0) (p := fun _ => 0) (Z n) k (hR.1.itZ (j := n) (by omega))] at hq
    exact hq
  · exact vp_in_nI (by omega) (by omega)
  · rw [hcl]
    exact a20 n (by omega)
  · rw [hR.2.2.1 n (by omega), show tS m fg = fun a => mE (m.2.2.1 a 0) (vlist m a) (fg a) 0 from rfl, ← pword_map (g := fg) (p := fun _ => 0) (Z n) k (hR.1.itZ (j := n) (by omega))] at hq
    exact hq
end L2K
