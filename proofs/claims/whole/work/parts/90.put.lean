/-! put -/
section L2P
variable {l : Launch} {G : xG} {Q : XR → XM → Prop} {K ar : Nat → Nat} {m0 m m' m'' : XM} {N E : Nat → Prop} {pg : Nat → Nat} {Z : Nat → List Nat} {Y xs ys zs : List Nat} {w j a s z t : Nat} {c fg fp : Nat → Int32} {A B : AS} {b b' : Nat → Int32} {fo : Option (List Int32)} {op : Int32} {key : Int64}
theorem CQ.xn (h : CQ K N A b fo op m) (hx : Xt K E m m') (hb : ∀ i, i < 8 → m'.2.1 (K 1) i = b' i) (hn : ∀ a, m'.1 a = some (oB 1) → m.1 a = some (oB 1) ∨ ∀ v, m'.2.2.2 a 1 = some v → ¬ N v) : CQ K N A b' fo op m' := by
  have hk := h.kd0
  obtain ⟨⟨ar, pg, Z, Y, c, fg, fp, h1⟩, h2, h3, h4, h5, h6, h7⟩ := h
  obtain ⟨e0, e1, e2, e3⟩ := hx.at hk (show 4 ≤ 4 by decide)
  refine ⟨⟨ar, pg, Z, Y, c, _, _, hx.cr h1⟩, h2, hb, ?_, ?_, ⟨fun a ha v hv => ?_, fun x hN => ?_⟩, h7⟩
  · cases fo with
    | none =>
      show m'.2.2.2 (K 0) 6 = none
      rw [e3]
      exact h4
    | some v =>
      obtain ⟨a, q1, q2, q3⟩ := h4
      obtain ⟨r1, r2, -⟩ := hx.item q2
      exact ⟨a, by rw [e3]; exact q1, r1, r2.trans q3⟩
  · rw [e1]
    exact h5
  · rcases hn a ha with ha' | hn'
    · obtain ⟨-, -, -, r3⟩ := hx.at ha' (show 1 ≤ 4 by decide)
      rw [r3] at hv
      exact h6.1 a ha' v hv
    · exact hn' v hv
  · rw [hx.1 x (h6.2 x hN)]
    exact h6.2 x hN
theorem c_put44 {v : List Int32} {m2 : XM} {x3 : Int32} {bc bs : Nat} (hst : l.stackTraces = false) (hi2 : Itm m2 a) (hv2 : vlist m2 a = v) (hk2 : m2.2.2.1 a 0 = key) (hA : AI A) (hw : A.w + 200 < 2 ^ 29)
    (hq : ∀ m' pg' Z' Y' c' fg' fp', Cf K m2 m' → CR K ar m' pg' Z' Y' c' fg' fp' (aPut key v A) m' → Q (.inl none) m') :
    ∀ k i m pg Z Y c fg fp B, i + k = 32 → CR K ar m pg Z Y c fg fp B m → AI B → Cf K m2 m → roo (3 + v.length) k B = roo (3 + v.length) 32 A → B.w ≤ A.w + 4 * i → a ∉ Y → (∀ s, s < 64 → a ∉ Z s) → WW l G xC_put 44 [some (vR (some (K 0))), some (vL key), none, some (vI x3), some (vR (some a)), some (vI (nI i))] [] m bc bs Q := by
  have hl : v.length = vlen m2 a := by rw [← hv2, vlist_len]
  have hl8 : 1 ≤ v.length ∧ v.length ≤ 8 := by
    obtain ⟨u, -, -, u3, u4⟩ := hi2.vl
    omega
  have hroom := roo_room (n := 3 + v.length) hA (by omega)
  have hAI := (aPut_AI (key := key) hA hl8).1
  have fin : ∀ m pg Z Y c fg fp B, CR K ar m pg Z Y c fg fp B m → Cf K m2 m → B = roo (3 + v.length) 32 A → a ∉ Y → (∀ s, s < 64 → a ∉ Z s) → gR m (K 0) 2 = some (K 3) ∧ kd m (K 3) = some (oB 2) ∧ CC l G xG_append [vR (some (K 3)), vR (some a)] m (kV (fun m5 => Q (.inl none) m5) Q) := by
    intro m pg Z Y c fg fp B hR hcf hB hy hz
    obtain ⟨b1, b2, b3, b4, b5, b6, b7, -⟩ := id hR.1.1.1
    have hi := hcf.it hi2
    have hv : vlist m a = v := (hcf.vl hi2).1.trans hv2
    have hk : m.2.2.1 a 0 = key := (hcf.vl hi2).2.trans hk2
    have he : tL m a = mE key v 0 0 := by unfold tL; rw [hv, hk]
    have hent : ent (tL m a) B = aPut key v A := by rw [he, hB]; rfl
    have hiw : iw m a = 3 + v.length := by
      unfold iw
      rw [← vlist_len, hv]
    refine ⟨b6, b7, c_app hst hR (by rw [hent]; exact hAI) hi hz (by rw [hiw, hB]; exact hroom) (fun m' h' => ?_)⟩
    rw [hent] at h'
    exact hq m' _ _ _ _ _ _ (hcf.tr h'.1.2.2.2.cf) h'.rebase
  intro k
  induction k with
  | zero =>
    intro i m pg Z Y c fg fp B e hR hB hcf hro hBw hy hz
    have e' : i = 32 := by omega
    subst e'
    obtain ⟨f1, f2, f3⟩ := fin m pg Z Y c fg fp B hR hcf hro hy hz
    exact bC_put_44 ⟨fun _ => ⟨hR.kd0, K 3, f1, f2, f3⟩, fun q => absurd Int32.le_rfl q⟩
  | succ k ih =>
    intro i m pg Z Y c fg fp B e hR hB hcf hro hBw hy hz
    obtain ⟨b1, b2, b3, b4, b5, b6, b7, b8, b9, b10, b11, b12, b13, b14, b15, b16, b17, b18, b19, b20, b21⟩ := id hR.1.1.1
    have hi := hcf.it hi2
    have hv : vlist m a = v := (hcf.vl hi2).1.trans hv2
    have hiw : iw m a = 3 + v.length := by
      unfold iw
      rw [← vlist_len, hv]
    have hws : wsum m (Z 96) = eS (B.Z 96) := by
      rw [hR.2.2.2.1 96 (by omega) (by omega), wsum_map (T := tL m) (fun _ => ew_iw)]
    refine bC_put_44 ⟨fun q => ?_, fun _ => ⟨hR.kd0, K 3, b6, b7, c_GhasRoomFor hst b7 b17 (hR.1.1.2.1 96 (by omega)) hi (fun hr => ⟨fun _ => ?_, fun q => absurd q (by decide)⟩) (fun hr => ⟨fun q => absurd rfl q, fun _ => ⟨hR.kd0, ?_⟩⟩)⟩⟩
    · rw [show (32 : Int32) = nI 32 from rfl, nI_leI (by omega) (by omega)] at q
      omega
    · rw [hws, hiw] at hr
      rw [roo_has hr] at hro
      obtain ⟨f1, f2, f3⟩ := fin m pg Z Y c fg fp B hR hcf hro hy hz
      exact ⟨hR.kd0, K 3, f1, f2, f3⟩
    · rw [hws, hiw] at hr
      refine c_writeOpenPage hst hR hB (by omega) (fun m' pg' Z' Y' c' fg' fp' hcf' hR' hout => ?_)
      show WW _ _ _ _ _ _ _ _ _ _
      rw [nI_1]
      obtain ⟨w1, w2, w3⟩ := wop_AI hB
      have hro' : roo (3 + v.length) k (wop B) = roo (3 + v.length) 32 A := by
        rw [← hro, roo, if_neg (by omega)]
      exact ih (i + 1) m' pg' Z' Y' c' fg' fp' (wop B) (by omega) hR' w1 (hcf.tr hcf') hro' (by omega) (hout a hy hz).1 (hout a hy hz).2
theorem c_Cput {x : Int32} (hst : l.stackTraces = false) (h : CQ K N A b fo op m) (hw : A.w + 200 < 2 ^ 29) (h0 : op = 0 → Q (.inr "java/lang/IllegalStateException") m) (h0' : ¬ op = 0 → (x < 1 ∨ ¬ x ≤ 8) → Q (.inr "java/lang/IllegalArgumentException") m)
    (h1 : ¬ op = 0 → ¬ x < 1 → x ≤ 8 → ∀ m', Ce K m m' → CQ K N (aPut key (bl b x.toNatClampNeg) A) b fo op m' → Q (.inl none) m') : CC l G xC_put [vR (some (K 0)), vL key, vI x] m Q := by
  obtain ⟨ar, pg, Z, Y, c, fg, fp, hR⟩ := id h.1
  have a1 := hR.kd0
  have g0 : gR m (K 0) 0 = some (K 1) := hR.1.1.1.2.1
  have k1 := hR.kd1
  refine bC_put hst ⟨a1, 3, 20, rfl, rfl, c_Crefuse hst a1 h.2.2.2.2.1 (fun q => ⟨fun q1 => ⟨by omega, by omega, h0' q (Or.inl q1)⟩, fun q1 => ⟨fun q2 => ⟨2, 14, rfl, rfl, ?_⟩, fun q2 => ⟨by omega, by omega, h0' q (Or.inr q2)⟩⟩⟩) h0⟩
  obtain ⟨n, hn, e⟩ := nI_of (x := x) (fun r => q1 (Int32.lt_trans r (by decide)))
  have hcl : x.toNatClampNeg = n := by rw [e]; exact nI_clamp hn
  have n1 : 1 ≤ n := by
    rw [e, show (1 : Int32) = nI 1 from rfl, nI_ltI hn (by omega)] at q1
    omega
  have n8 : n ≤ 8 := by
    rw [e, show (8 : Int32) = nI 8 from rfl, nI_leI hn (by omega)] at q2
    exact q2
  have hq := h1 q q1 q2
  rw [hcl] at hq
  intro a ha m13 hm13
  have n0 : K 0 ≠ a := fun r => by rw [← r, show kd m (K 0) = _ from a1] at ha; cases ha
  have nK1 : K 1 ≠ a := fun r => by rw [← r, show kd m (K 1) = _ from k1] at ha; cases ha
  have d1 : ∀ y, y ≠ a → m13.1 y = m.1 y ∧ m13.2.1 y = m.2.1 y ∧ m13.2.2.1 y = m.2.2.1 y ∧ m13.2.2.2 y = m.2.2.2 y := fun y hy => by
    rw [hm13]
    exact ⟨by simp [mN, hy], by funext i; simp [mN, hy], by funext i; simp [mN, hy], by funext i; simp [mN, hy]⟩
  have da : m13.1 a = some (oB 1) := by rw [hm13]; simp [mN]
  refine ⟨(d1 _ n0).1.trans a1, 1, 6, rfl, rfl, ?_⟩
  rw [show gR m13 (K 0) 0 = some (K 1) by rw [show gR m13 (K 0) 0 = gR m (K 0) 0 from congrFun (d1 _ n0).2.2.2 0]; exact g0, e]
  refine bJ_copyOf hst ((d1 _ nK1).1.trans k1) (by omega) n8 (fun u m20 hu hku d2 hval => ?_)
  have nua : u ≠ a := fun r => by rw [r, show kd m13 a = _ from da] at hu; cases hu
  have hum : m.1 u = none := by rw [← (d1 u nua).1]; exact hu
  have da20 : m20.1 a = some (oB 1) := (d2 a (fun r => nua r.symm)).1.trans da
  refine c_Tinit hst da20 hku n1 n8 (fun m22 f22 i22 kk22 kr22 k4 k5 => ?_)
  show WW _ _ _ _ _ _ _ _ _ _
  have old : ∀ y, m.1 y ≠ none → m22.1 y = m.1 y ∧ m22.2.1 y = m.2.1 y ∧ m22.2.2.1 y = m.2.2.1 y ∧ m22.2.2.2 y = m.2.2.2 y := fun y hy => by
    have ya : y ≠ a := fun r => hy (by rw [r]; exact ha)
    have yu : y ≠ u := fun r => hy (by rw [r]; exact hum)
    obtain ⟨p1, p2, p3, p4⟩ := d1 y ya
    obtain ⟨r1, r2, r3, r4⟩ := d2 y yu
    obtain ⟨s2, s3, s4⟩ := f22.2 y ya
    exact ⟨(f22.kd y).trans (r1.trans p1), s2.trans (r2.trans p2), s3.trans (r3.trans p3), s4.trans (r4.trans p4)⟩
  have hx : Xt K (fun _ => False) m m22 := ⟨fun y hy => (old y hy).1, fun y hy _ => (old y hy).2, (fun _ r => r.elim), fun _ _ _ _ r => r⟩
  have k22 : ∀ y, m22.1 y = if y = u then some (aR 0 n) else if y = a then some (oB 1) else m.1 y := fun y => by
    rw [f22.kd y]
    by_cases yu : y = u
    · rw [if_pos yu, yu]
      exact hku
    · rw [if_neg yu, (d2 y yu).1]
      by_cases ya : y = a
      · rw [if_pos ya, ya]
        exact da
      · rw [if_neg ya]
        exact (d1 y ya).1
  have hce : Ce K m m22 := ⟨fun y hy => (old y hy).1, fun y hy _ _ => (old y hy).2⟩
  have hQ22 : CQ K N A b fo op m22 := h.xn hx (fun i hi => by
    rw [(old (K 1) (by rw [k1]; exact Option.some_ne_none _)).2.1]
    exact h.2.2.1 i hi) (fun y hy => by
    rw [k22] at hy
    by_cases yu : y = u
    · rw [if_pos yu] at hy
      cases hy
    · rw [if_neg yu] at hy
      by_cases ya : y = a
      · refine Or.inr fun v hv hN => ?_
        rw [ya, show m22.2.2.2 a 1 = some u from kr22] at hv
        cases hv
        exact h.2.2.2.2.2.1.2 u hN hum
      · rw [if_neg ya] at hy
        exact Or.inl hy)
  have hR22 := hx.cr hR
  have hvl : vlist m22 a = bl b n := by
    have hln : vlen m22 a = n := by
      unfold vlen
      rw [show m22.2.2.2 a 1 = some u from kr22]
      simp only [k22, if_pos]
    unfold vlist bl
    rw [hln]
    apply List.map_congr_left
    intro i hi
    have hi' := List.mem_range.mp hi
    unfold vals
    rw [show m22.2.2.2 a 1 = some u from kr22]
    show m22.2.1 u i = b i
    rw [(f22.2 u nua).1, show m20.2.1 u i = m13.2.1 (K 1) i from hval i hi', (d1 _ nK1).2.1]
    exact h.2.2.1 i (by omega)
  have hbl : (bl b n).length = n := by unfold bl; simp
  refine c_put44 (v := bl b n) (A := A) (m2 := m22) hst i22 hvl kk22 h.2.1 hw (fun m' pg' Z' Y' c' fg' fp' hcf hR' => ?_) 32 0 m22 pg Z Y c _ _ A rfl hR22 h.2.1 Cf.rf rfl (by omega) (fun r => ?_) (fun s hs r => ?_)
  · refine hq m' (hce.tr hcf.ce) (hQ22.cf hcf ⟨ar, pg', Z', Y', c', fg', fp', hR'⟩ (aPut_AI h.2.1 (by rw [hbl]; omega)).1)
  · have := (hR.1.itY a r).1
    rw [ha] at this
    cases this
  · have := (hR.1.itZ (j := s) (by omega) a r).1
    rw [ha] at this
    cases this
end L2P
