/-! a new cache -/
def Nx (F : Nat → Prop) (m m' : XM) : Prop := (∀ x, m.1 x ≠ none → m'.1 x = m.1 x) ∧ (∀ x, m.1 x ≠ none → ¬ F x → m'.2.1 x = m.2.1 x ∧ m'.2.2.1 x = m.2.2.1 x ∧ m'.2.2.2 x = m.2.2.2 x) ∧ ∀ x, m'.1 x = some (oB 1) → m.1 x = some (oB 1)
section L2Q
variable {l : Launch} {G : xG} {Q : XR → XM → Prop} {F F' : Nat → Prop} {m m' m'' : XM} {a p pa : Nat} {k : XKd}
theorem Nx.rf : Nx F m m := ⟨fun _ _ => rfl, fun _ _ _ => ⟨rfl, rfl, rfl⟩, fun _ h => h⟩
theorem Nx.tr (h : Nx F m m') (h' : Nx F m' m'') : Nx F m m'' := by
  refine ⟨fun x hx => ?_, fun x hx hF => ?_, fun x hx => h.2.2 x (h'.2.2 x hx)⟩
  · rw [h'.1 x (by rw [h.1 x hx]; exact hx), h.1 x hx]
  · obtain ⟨q1, q2, q3⟩ := h.2.1 x hx hF
    obtain ⟨r1, r2, r3⟩ := h'.2.1 x (by rw [h.1 x hx]; exact hx) hF
    exact ⟨r1.trans q1, r2.trans q2, r3.trans q3⟩
theorem Nx.mono (h : Nx F m m') (hF : ∀ x, m.1 x ≠ none → F x → F' x) : Nx F' m m' := ⟨h.1, fun x hx hn => h.2.1 x hx (fun q => hn (hF x hx q)), h.2.2⟩
theorem Nx.new (ha : m.1 a = none) (hk : k ≠ oB 1) : Nx F m (mN m a k) := by
  have hne : ∀ x, m.1 x ≠ none → x ≠ a := fun x hx q => hx (by rw [q]; exact ha)
  refine ⟨fun x hx => by simp [mN, hne x hx], fun x hx _ => ⟨?_, ?_, ?_⟩, fun x hx => ?_⟩
  · funext i; simp [mN, hne x hx]
  · funext i; simp [mN, hne x hx]
  · funext i; simp [mN, hne x hx]
  · by_cases q : x = a
    · rw [q] at hx
      simp [mN] at hx
      exact absurd hx hk
    · simpa [mN, q] using hx
theorem Nx.fr (h : Fr F m m') : Nx F m m' := ⟨fun x _ => h.kd x, fun x _ hF => h.2 x hF, fun x hx => by rw [← h.kd x]; exact hx⟩
theorem Nx.kd (h : Nx F m m') (ha : m.1 a = some k) : m'.1 a = some k := by rw [h.1 a (by rw [ha]; exact Option.some_ne_none _)]; exact ha
theorem Nx.at (h : Nx F m m') (ha : m.1 a = some k) (hF : ¬ F a) : m'.2.1 a = m.2.1 a ∧ m'.2.2.1 a = m.2.2.1 a ∧ m'.2.2.2 a = m.2.2.2 a := h.2.1 a (by rw [ha]; exact Option.some_ne_none _) hF
theorem Nx.non (h : Nx F m m') (ha : m'.1 a = none) : m.1 a = none := by
  cases e : m.1 a with
  | none => rfl
  | some k => rw [h.kd e] at ha; cases ha
theorem PgOK.nx (h : PgOK m p pa []) (hx : Nx F m m') (h1 : ¬ F p) (h2 : ¬ F pa) : PgOK m' p pa [] := by
  obtain ⟨g1, g2, g3, g4, g5, g6, g7, g8, g9⟩ := h
  obtain ⟨e1, e2, e3⟩ := hx.at g1 h1
  refine ⟨hx.kd g1, ?_, hx.kd g3, ?_, (fun i hi => nomatch hi), (fun a ha => nomatch ha), ?_, g8, ?_⟩
  · show m'.2.2.2 p 0 = _
    rw [e3]; exact g2
  · show m'.2.1 p 1 = _
    rw [e1]; exact g4
  · show m'.2.1 p 2 = _
    rw [e1]; exact g7
  · show m'.2.2.1 p 3 = _
    rw [e2]; exact g9
theorem c_Pinit (hst : l.stackTraces = false) (h : kd m p = some (oB 3)) (hq : ∀ m' pa, m.1 pa = none → Nx (fun x => x = p) m m' → PgOK m' p pa [] → Q (.inl none) m') : CC l G xP_init [vR (some p)] m Q := by
  refine bP_init hst ⟨0, 0, rfl, rfl, fun pa hpa m7 hm7 => ?_⟩
  have np : p ≠ pa := fun q => by rw [← q, h] at hpa; cases hpa
  have h7 : m7.1 p = some (oB 3) := by rw [hm7]; simp [mN, np]; exact h
  refine ⟨h7, fun m10 hm10 m11 hm11 m12 hm12 m13 hm13 => hq m13 pa hpa ?_ ?_⟩
  · have n1 : Nx (fun x => x = p) m m7 := by rw [hm7]; exact Nx.new hpa (by decide)
    have n2 : Fr (fun x => x = p) m7 m13 := by
      rw [hm13, hm12, hm11, hm10]
      exact Fr.tr (F := fun x => x = p) (Fr.tr (F := fun x => x = p) (Fr.tr (F := fun x => x = p) (frR (F := fun x => x = p) _ _ rfl) (frI (F := fun x => x = p) _ _ rfl)) (frI (F := fun x => x = p) _ _ rfl)) (frL (F := fun x => x = p) _ _ rfl)
    exact n1.tr (Nx.fr n2)
  · rw [hm13, hm12, hm11, hm10, hm7]
    refine ⟨?_, ?_, ?_, ?_, (fun i hi => nomatch hi), (fun a ha => nomatch ha), ?_, Nat.zero_le _, ?_⟩
    · simp [kd, mL, mI, mR, mN, np]; exact h
    · simp [gR, mL, mI, mR]
    · simp [kd, mL, mI, mR, mN]
    · simp [gI, mL, mI, mR]; rfl
    · simp [gI, mL, mI, mR, wsum]; rfl
    · simp [gL, mL, mI, mR, bors]
/-- n new pages in an array -/
def NP (m m' : XM) (aa : Nat) (P PA : Nat → Nat) (i : Nat) : Prop := (∀ j, j < i → gR m' aa j = some (P j) ∧ PgOK m' (P j) (PA j) [] ∧ m.1 (P j) = none ∧ m.1 (PA j) = none) ∧ ∀ j k, j < i → k < i → (P j = P k → j = k) ∧ (PA j = PA k → j = k)
theorem c_newPages {n : Nat} (hst : l.stackTraces = false) (hn : n ≤ 64) (hq : ∀ m' aa P PA, m.1 aa = none → m'.1 aa = some (aR 4 n) → Nx (fun _ => False) m m' → NP m m' aa P PA n → Q (.inl (some (vR (some aa)))) m') : CC l G xC_newPages [vI (nI n)] m Q := by
  have hcl : (nI n).toNatClampNeg = n := nI_clamp (by omega)
  refine bC_newPages hst ⟨?_, by rw [hcl]; omega, 128, 832 - n, rfl, by rw [hcl]; omega, fun aa haa m9 hm9 => ?_⟩
  · rw [show (0 : Int32) = nI 0 from rfl, nI_ltI (by omega) (by omega)]
    omega
  rw [hcl] at hm9
  have k9 : m9.1 aa = some (aR 4 n) := by rw [hm9]; simp [mN]
  have x9 : Nx (fun _ => False) m m9 := by rw [hm9]; exact Nx.new haa (by simp)
  have loop : ∀ k i m' P PA bc bs, i + k = n → 2 * k ≤ bc → 12 * k ≤ bs → m'.1 aa = some (aR 4 n) → Nx (fun x => x = aa) m9 m' → NP m9 m' aa P PA i → WW l G xC_newPages 7 [some (vI (nI n)), some (vR (some aa)), some (vI (nI i))] [] m' bc bs Q := by
    intro k
    induction k with
    | zero =>
      intro i m' P PA bc bs e _ _ hk hx hp
      have e' : i = n := by omega
      subst e'
      refine bC_newPages_7 ⟨fun _ => hq m' aa P PA haa hk ?_ ?_, fun q => absurd Int32.le_rfl q⟩
      · refine ⟨fun x h => ?_, fun x h _ => ?_, fun x h => ?_⟩
        · rw [hx.1 x (by rw [x9.1 x h]; exact h), x9.1 x h]
        · obtain ⟨q1, q2, q3⟩ := x9.2.1 x h (fun r => r)
          obtain ⟨r1, r2, r3⟩ := hx.2.1 x (by rw [x9.1 x h]; exact h) (fun q => h (by rw [q]; exact haa))
          exact ⟨r1.trans q1, r2.trans q2, r3.trans q3⟩
        · exact x9.2.2 x (hx.2.2 x h)
      · exact ⟨fun j hj => ⟨(hp.1 j hj).1, (hp.1 j hj).2.1, x9.non (hp.1 j hj).2.2.1, x9.non (hp.1 j hj).2.2.2⟩, hp.2⟩
    | succ k ih =>
      intro i m' P PA bc bs e hbc hbs hk hx hp
      refine bC_newPages_7 ⟨fun q => ?_, fun _ => ⟨bc - 1, bs - 4, by omega, by omega, fun p hpn m7 hm7 => ⟨bc - 2, bs - 12, by omega, by omega, ?_⟩⟩⟩
      · rw [nI_leI (by omega) (by omega)] at q
        omega
      have k7 : m7.1 p = some (oB 3) := by rw [hm7]; simp [mN]
      have x7 : Nx (fun x => x = aa) m' m7 := by rw [hm7]; exact Nx.new hpn (by simp)
      have npa : p ≠ aa := fun q => by rw [q, show kd m' aa = _ from hk] at hpn; cases hpn
      refine c_Pinit hst k7 (fun m13 pa hpa x13 p13 => ?_)
      have x13' : Nx (fun x => x = aa) m' m13 := ⟨fun x h => by rw [x13.1 x (by rw [x7.1 x h]; exact h), x7.1 x h], fun x h hF => by
        obtain ⟨q1, q2, q3⟩ := x7.2.1 x h hF
        obtain ⟨r1, r2, r3⟩ := x13.2.1 x (by rw [x7.1 x h]; exact h) (fun q => h (by rw [q]; exact hpn))
        exact ⟨r1.trans q1, r2.trans q2, r3.trans q3⟩, fun x h => x7.2.2 x (x13.2.2 x h)⟩
      have k13 : m13.1 aa = some (aR 4 n) := x13'.kd hk
      have hpa' : m'.1 pa = none := x7.non hpa
      have npp : pa ≠ p := fun q => by rw [q, k7] at hpa; cases hpa
      have npaa : pa ≠ aa := fun q => by rw [q, hk] at hpa'; cases hpa'
      refine ⟨aa, rfl, n, k13, vp_in_nI (by omega) (by omega), p13.1, ?_⟩
      intro m20 hm20
      rw [nI_clamp (by omega)] at hm20
      have f20 : Fr (fun x => x = aa) m13 m20 := by rw [hm20]; exact frR _ _ rfl
      have x20 : Nx (fun x => x = aa) m' m20 := x13'.tr (Nx.fr f20)
      rw [nI_1]
      refine ih (i + 1) m20 (up P i p) (up PA i pa) _ _ (by omega) (by omega) (by omega) ((f20.kd aa).trans k13) (hx.tr x20) ⟨fun j hj => ?_, fun j k hj hk => ?_⟩
      · by_cases q : j = i
        · subst q
          rw [up_same, up_same]
          refine ⟨by rw [hm20]; simp [gR, mR], p13.fr f20 npa npaa (fun a ha => nomatch ha), hx.non hpn, hx.non hpa'⟩
        · obtain ⟨q1, q2, q3, q4⟩ := hp.1 j (by omega)
          have njaa : P j ≠ aa := fun r => by have := q2.1; rw [r, show kd m' aa = _ from hk] at this; cases this
          have njaa' : PA j ≠ aa := fun r => by have := q2.2.2.1; rw [r, show kd m' aa = _ from hk] at this; cases this
          simp only [up, if_neg q]
          refine ⟨?_, q2.nx x20 njaa njaa', q3, q4⟩
          rw [hm20]
          have n13 : m13.2.2.2 aa = m'.2.2.2 aa := by
            have h7 : m7.2.2.2 aa = m'.2.2.2 aa := by rw [hm7]; funext t; simp [mN, Ne.symm npa]
            rw [(x13.2.1 aa (by rw [x7.kd hk]; exact Option.some_ne_none _) (fun r => npa r.symm)).2.2, h7]
          simp [gR, mR, q, n13]
          exact q1
      · have ne1 : ∀ j, j < i → P j ≠ p := fun j hj r => by
          have := (hp.1 j hj).2.1.1
          rw [r, hpn] at this
          cases this
        have ne2 : ∀ j, j < i → PA j ≠ pa := fun j hj r => by
          have := (hp.1 j hj).2.1.2.2.1
          rw [r, show kd m' pa = _ from hpa'] at this
          cases this
        unfold up
        by_cases q : j = i
        · by_cases r : k = i
          · exact ⟨fun _ => by omega, fun _ => by omega⟩
          · simp only [if_pos q, if_neg r]
            exact ⟨fun s => absurd s.symm (ne1 k (by omega)), fun s => absurd s.symm (ne2 k (by omega))⟩
        · by_cases r : k = i
          · simp only [if_neg q, if_pos r]
            exact ⟨fun s => absurd s (ne1 j (by omega)), fun s => absurd s (ne2 j (by omega))⟩
          · simp only [if_neg q, if_neg r]
            exact hp.2 j k (by omega) (by omega)
  exact loop n 0 m9 (fun _ => 0) (fun _ => 0) 128 (832 - n) (by omega) (by omega) (by omega) k9 Nx.rf ⟨(fun j hj => absurd hj (by omega)), (fun j k hj => absurd hj (by omega))⟩
theorem c_Iinit (hst : l.stackTraces = false) (h : kd m a = some (oB 0)) (hq : ∀ m' ia ps, m.1 ia = none → m.1 ps = none → Nx (fun x => x = a) m m' → IxOK m' a ia ps [] → Q (.inl none) m') : CC l G xI_init [vR (some a)] m Q := by
  refine bI_init hst ⟨1, 64, rfl, rfl, fun ia hia m7 hm7 => ?_⟩
  have na : a ≠ ia := fun q => by rw [← q, h] at hia; cases hia
  have h7 : m7.1 a = some (oB 0) := by rw [hm7]; simp [mN, na]; exact h
  refine ⟨h7, fun m10 hm10 => ⟨0, 0, rfl, rfl, fun ps hps m17 hm17 m21 hm21 m22 hm22 => ?_⟩⟩
  have x7 : Nx (fun x => x = a) m m7 := by rw [hm7]; exact Nx.new hia (by decide)
  have hps' : m.1 ps = none := x7.non hps
  have k7i : m7.1 ia = some (aR 3 264) := by rw [hm7]; simp [mN]
  have nps : a ≠ ps := fun q => by rw [← q, show kd m7 a = _ from h7] at hps; cases hps
  have npi : ia ≠ ps := fun q => by rw [← q, show kd m7 ia = _ from k7i] at hps; cases hps
  have x10 : Nx (fun x => x = a) m7 m10 := by rw [hm10]; exact Nx.fr (frR _ _ rfl)
  have x17 : Nx (fun x => x = a) m10 m17 := by
    rw [hm17]
    exact Nx.new (by rw [hm10]; exact hps) (by decide)
  have x22 : Nx (fun x => x = a) m17 m22 := by
    rw [hm22, hm21]
    exact Nx.fr (Fr.tr (F := fun x => x = a) (frR (F := fun x => x = a) _ _ rfl) (frI (F := fun x => x = a) _ _ rfl))
  refine hq m22 ia ps hia hps' (((x7.tr x10).tr x17).tr x22) ?_
  rw [hm22, hm21, hm17, hm10, hm7]
  refine ⟨?_, ?_, ?_, ?_, ?_, ?_, by decide, (fun i hi => nomatch hi), (fun x hx => nomatch hx), fun s hs => ?_⟩
  · simp [kd, mI, mR, mN, na, nps]; exact h
  · simp [gR, mI, mR, mN, nps]
  · simp [kd, mI, mR, mN, npi]
  · simp [gR, mI, mR, mN]
  · simp [kd, mI, mR, mN]
  · simp [gI, mI, mR, mN]; rfl
  · have : ps ≠ a := fun q => nps q.symm
    simp [gI, mI, mR, mN, this, cnt]
    rfl
theorem IxOK.nx {ia ps : Nat} (h : IxOK m a ia ps []) (hx : Nx F m m') (h1 : ¬ F a) (h2 : ¬ F ia) (h3 : ¬ F ps) : IxOK m' a ia ps [] := by
  obtain ⟨g1, g2, g3, g4, g5, g6, g7, g8, g9, g10⟩ := h
  obtain ⟨e1, e2, e3⟩ := hx.at g1 h1
  refine ⟨hx.kd g1, ?_, hx.kd g3, ?_, hx.kd g5, ?_, g7, (fun i hi => nomatch hi), (fun x hx => nomatch hx), fun s hs => ?_⟩
  · show m'.2.2.2 a 0 = _
    rw [e3]; exact g2
  · show m'.2.2.2 a 1 = _
    rw [e3]; exact g4
  · show m'.2.1 a 2 = _
    rw [e1]; exact g6
  · show m'.2.1 ps s = _
    rw [(hx.at g5 h3).1]
    exact g10 s hs
end L2Q
