/-! the reference moves those of a set -/
def Lk (S S' : RS) : Prop := lgs S' = lgs S ∧ ∀ n ∈ lgs S, S'.k n = S.k n ∧ S'.l n = S.l n ∧ S'.v n = S.v n ∧ S'.cm n = S.cm n ∧ S'.gt n = S.gt n
def Hp (S S' : RS) : Prop := ∀ n ∈ S.h, (∀ p, p < 97 → n ∉ S.P p) → ∀ p, p < 97 → n ∉ S'.P p
section L3B
variable {l : Launch} {G : xG} {Q : XR → XM → Prop} {R : Nat → Nat} {m0 m m' : XM} {S S' S1 S2 : RS} {X X' : RX} {A B : AS} {ix g xs ys zs : List Nat} {pn : Nat → Nat} {n p s i x : Nat} {key : Int64} {c : Nat → Int32}
theorem Hp.rf : Hp S S := fun _ _ h => h
theorem Hp.tr (hk : Hk S S1) (h : Hp S S1) (h' : Hp S1 S2) : Hp S S2 := fun n hn q => h' n (by rw [hk.1]; exact hn) (h n hn q)
theorem Hp.sub (h : ∀ q n, q < 97 → n ∈ S'.P q → n ∈ S.P q) : Hp S S' := fun n _ q p hp r => q p hp (h p n hp r)
theorem Lk.rf : Lk S S := ⟨rfl, fun _ _ => ⟨rfl, rfl, rfl, rfl, rfl⟩⟩
theorem Lk.tr (h : Lk S S1) (h' : Lk S1 S2) : Lk S S2 := by
  refine ⟨h'.1.trans h.1, fun n hn => ?_⟩
  obtain ⟨a1, a2, a3, a4, a5⟩ := h.2 n hn
  obtain ⟨b1, b2, b3, b4, b5⟩ := h'.2 n (by rw [h.1]; exact hn)
  exact ⟨b1.trans a1, b2.trans a2, b3.trans a3, b4.trans a4, b5.trans a5⟩
theorem Lk.cp {v : Nat} (hv : ∀ p, p < 97 → v ∉ S.P p) : Lk S (cpS S n v) := by
  refine ⟨rfl, fun y hy => ?_⟩
  obtain ⟨q, -, q2, q3⟩ := lgs_mem.mp hy
  have hne : y ≠ v := fun r => hv q q2 (r ▸ q3)
  have u : ∀ {α : Type} (f : Nat → α) (z : α), up f v z y = f y := fun f z => by simp [up, hne]
  exact ⟨u _ _, u _ _, u _ _, rfl, u _ _⟩
theorem Lk.pset (hs : s < 64) : Lk S (S.sP (up S.P s xs)) := ⟨lgs_set (fun q hq hq' => by rw [up, if_neg (by omega)]), fun _ _ => ⟨rfl, rfl, rfl, rfl, rfl⟩⟩
theorem c_mv26 (hst : l.stackTraces = false) (hs : s < 64) (hk : ((S.P s).map S.k).Nodup) (hg : ∀ x ∈ S.g, sN (S.k x) = s)
    (hq : ∀ m', MR R m0 ((S.snw (clF S.nw S.g)).sP (up S.P s (S.g.foldl (fun xs x => eraK S (S.k x) xs) (S.P s)))) X m' → CC l G xM_dropFirst [vR (some (R 0)), vI (nI s), vI (0 : Int32), vI (5 : Int32)] m' (kV (fun m2 => kd m2 (R 0) = some (oB 5) ∧ CC l G xM_dropFirst [vR (some (R 0)), vI (nI s), vI (1 : Int32), vI (6 : Int32)] m2 (kV (fun m4 => WW l G xM_moveAll 93 [some (vR (some (R 0))), some (vI (nI s)), some (vI (nI S.g.length)), none] [] m4 0 0 Q) Q)) Q)) :
    ∀ zs ys mm, ys ++ zs = S.g → MR R m0 ((S.snw (clF S.nw ys)).sP (up S.P s (ys.foldl (fun xs x => eraK S (S.k x) xs) (S.P s)))) X mm → WW l G xM_moveAll 26 [some (vR (some (R 0))), some (vI (nI s)), some (vI (nI ys.length)), none] [] mm 0 0 Q := by
  intro zs
  induction zs with
  | nil =>
    intro ys mm e hR
    rw [List.append_nil] at e
    subst e
    refine bM_moveAll_26 ⟨hR.w.k0, fun _ => hq mm hR, fun q => ?_⟩
    have e18 : gI mm (R 0) 18 = nI S.g.length := hR.gg.1
    rw [e18] at q
    exact absurd Int32.le_rfl q
  | cons z zs ih =>
    intro ys mm e hR
    obtain ⟨g1, g2, g3, g4⟩ := hR.gg
    have g1' : gI mm (R 0) 18 = nI S.g.length := g1
    have g2' : S.g.length ≤ 264 := g2
    have hlt : ys.length < S.g.length := by rw [← e]; simp
    have hzg : z ∈ S.g := by rw [← e]; simp
    have hz4 : z < 4096 := g4 z hzg
    have hat : gI mm (R 19) ys.length = nI z := g3 _ z (at_mid e)
    refine bM_moveAll_26 ⟨hR.w.k0, fun q => ?_, fun _ => ⟨R 19, hR.w.r19, 300, hR.w.k19, vp_in_nI (by omega) (by omega), R 9, hR.w.r9, 4096, hR.w.k9, ?_, fun m15 hm15 => ?_⟩⟩
    · rw [g1', nI_leI (by omega) (by omega)] at q
      omega
    · rw [nI_clamp (by omega), hat]
      exact vp_in_nI hz4 (by omega)
    rw [nI_clamp (by omega), hat, nI_clamp (by omega)] at hm15
    have h15 := hR.sNw hz4 0
    rw [← hm15] at h15
    have hat15 : gI m15 (R 19) ys.length = nI z := h15.gg.2.2.1 _ z (at_mid e)
    have hky : gL mm (R 6) z = S.k z := hR.key hz4
    refine ⟨vp_in_nI (by omega) (by omega), R 6, hR.w.r6, 4096, hR.w.k6, ?_, ?_⟩
    · rw [nI_clamp (by omega), hat15]
      exact vp_in_nI hz4 (by omega)
    rw [nI_clamp (by omega), hat15, nI_clamp (by omega), hky]
    generalize hxs : ys.foldl (fun xs x => eraK S (S.k x) xs) (S.P s) = xs at *
    have hsub : xs.Sublist (S.P s) := by
      rw [← hxs]
      have : ∀ (ys xs : List Nat), (ys.foldl (fun xs x => eraK S (S.k x) xs) xs).Sublist xs := by
        intro ys
        induction ys with
        | nil => intro xs; exact List.Sublist.refl _
        | cons y ys ih => intro xs; exact (ih _).trans eraK_sub
      exact this ys _
    have hxk : (xs.map S.k).Nodup := hk.sublist (hsub.map S.k)
    have hsz : sN (S.k z) = s := hg z hzg
    have hnx : clF S.nw (ys ++ [z]) = up (clF S.nw ys) z 0 := by
      unfold clF
      rw [List.foldl_append]
      rfl
    have hnf : (ys ++ [z]).foldl (fun xs x => eraK S (S.k x) xs) (S.P s) = eraK S (S.k z) xs := by
      rw [List.foldl_append, hxs]
      rfl
    have nx := fun m' => ih (ys ++ [z]) m' (by rw [List.append_assoc]; exact e)
    rw [hnx, hnf, List.length_append] at nx
    refine c_MinSet hst h15 ?_
    have hPs : (((S.snw (clF S.nw ys)).sP (up S.P s xs)).snw (up ((S.snw (clF S.nw ys)).sP (up S.P s xs)).nw z 0)).P (sN (S.k z)) = xs := by
      rw [hsz]
      exact up_same
    have hkk : (((S.snw (clF S.nw ys)).sP (up S.P s xs)).snw (up ((S.snw (clF S.nw ys)).sP (up S.P s xs)).nw z 0)).k = S.k := rfl
    rw [hPs, hkk]
    rcases lsI_spec (f := fun n => S.k n == S.k z) xs 0 (-1) with ⟨e1, e2⟩ | ⟨j, y, e1, e2, e3⟩
    · rw [e2]
      refine ⟨fun _ => ?_, fun q => absurd (by decide) q⟩
      rw [nI_1]
      refine nx m15 ?_
      rw [eraK_no (fun y hy => by have := e1 y hy; simpa using this)]
      exact h15
    · have hjl := (List.getElem?_eq_some_iff.mp e1).1
      have hPs' : (((S.snw (clF S.nw ys)).sP (up S.P s xs)).snw (up ((S.snw (clF S.nw ys)).sP (up S.P s xs)).nw z 0)).P s = xs := up_same
      have hx8 : xs.length ≤ 8 := by
        have := (h15.sz (p := s) (by omega)).2
        rw [hPs'] at this
        exact this
      rw [e3, Nat.zero_add]
      refine ⟨fun q => absurd q (nI_nn (by omega)), fun _ => ⟨h15.w.k0, c_MtakeOut (p := s) hst h15 (by omega) (by rw [hPs']; exact hjl) (fun m25 h25 => ?_)⟩⟩
      show WW _ _ _ _ _ _ _ _ _ _
      rw [nI_1]
      refine nx m25 ?_
      rw [hPs', eraK_ix xs j y hxk e1 (by simpa using e2)] at h25
      have h25' : MR R m0 ((S.snw (up (clF S.nw ys) z 0)).sP (up (up S.P s xs) s (eraK S (S.k z) xs))) X m25 := h25
      rw [up_up] at h25'
      exact h25'
theorem c_mv194 (hst : l.stackTraces = false) (hs : s < 64) (hgl : ∀ n ∈ S.g, n ∈ lgs S) (hlen : (A.Z s).length + S.g.length ≤ 8)
    (hq : ∀ S' m', MR R m0 S' X m' → RA S' (mA (up A.Z s (A.Z s ++ S.g.map (eL S))) A.Y A.w (cA A.c 1 1) A.t) ix pn → Hk S S' → Lk S S' → Hp S S' → Q (.inl none) m') :
    ∀ zs ys S1 mm, ys ++ zs = S.g → MR R m0 S1 X mm → RA S1 (mA (up A.Z s (A.Z s ++ ys.map (eL S))) A.Y A.w A.c A.t) ix pn → S1.g = S.g → Hk S S1 → Lk S S1 → Hp S S1 → WW l G xM_moveAll 194 [some (vR (some (R 0))), some (vI (nI s)), some (vI (nI ys.length)), none] [] mm 0 0 Q := by
  intro zs
  induction zs with
  | nil =>
    intro ys S1 mm e hR hA eg hH hL hHp
    rw [List.append_nil] at e
    subst e
    have e18 : gI mm (R 0) 18 = nI S.g.length := by rw [hR.gg.1, eg]
    refine bM_moveAll_194 ⟨hR.w.k0, fun _ => ⟨R 23, hR.w.r23, 13, hR.w.k23, vp_in_nI (n := 1) (by omega) (by omega), vp_in_nI (n := 1) (by omega) (by omega), fun m8 hm8 => ?_⟩, fun q => ?_⟩
    · rw [show (1 : Int32).toNatClampNeg = 1 from rfl, hR.cn (by omega)] at hm8
      have h8 := hR.sCnt (n := 1) (by omega) (S1.c 1 + 1)
      rw [← hm8] at h8
      exact hq _ m8 h8 (hA.cnt 1 (by omega) (by omega)) ⟨hH.1, hH.2⟩ ⟨hL.1, hL.2⟩ hHp
    · rw [e18] at q
      exact absurd Int32.le_rfl q
  | cons z zs ih =>
    intro ys S1 mm e hR hA eg hH hL hHp
    obtain ⟨g1, g2, g3, g4⟩ := hR.gg
    rw [eg] at g1 g2 g3 g4
    have hlt : ys.length < S.g.length := by rw [← e]; simp
    have hzg : z ∈ S.g := by rw [← e]; simp
    have hz4 : z < 4096 := g4 z hzg
    have hat : gI mm (R 19) ys.length = nI z := g3 _ z (at_mid e)
    obtain ⟨d1, d2, d3, -, -⟩ := hL.2 z (hgl z hzg)
    have hPl : (S1.P s).length = (A.Z s).length + ys.length := by
      have := congrArg List.length (hA.2.1 s hs)
      rw [show (mA (up A.Z s (A.Z s ++ ys.map (eL S))) A.Y A.w A.c A.t).Z s = A.Z s ++ ys.map (eL S) from up_same, List.length_map, List.length_append, List.length_map] at this
      exact this.symm
    refine bM_moveAll_194 ⟨hR.w.k0, fun q => ?_, fun _ => ⟨R 19, hR.w.r19, 300, hR.w.k19, vp_in_nI (by omega) (by omega), ?_⟩⟩
    · rw [g1, nI_leI (by omega) (by omega)] at q
      omega
    · rw [nI_clamp (by omega), hat]
      refine c_Mcopy hst hR hz4 (fun v m14 hv f1 f2 f3 h14 => ⟨h14.w.k0, ?_⟩)
      refine c_Mappend hst h14 (by omega) hv (show (S1.P s).length < 8 by omega) (fun m17 h17 => ?_)
      show WW _ _ _ _ _ _ _ _ _ _
      have hA2 := (hA.cp (n := z) f1).ap (n := v) hs f1
      have hez : eZ (cpS S1 z v) v = eL S z := by
        rw [cp_e]
        unfold eL
        rw [d1, vlS_eq d2 d3]
      rw [hez] at hA2
      have hA3 : RA ((cpS S1 z v).sP (up (cpS S1 z v).P s ((cpS S1 z v).P s ++ [v]))) (mA (up A.Z s (A.Z s ++ (ys ++ [z]).map (eL S))) A.Y A.w A.c A.t) ix pn := by
        have e4 : up (up A.Z s (A.Z s ++ ys.map (eL S))) s (up A.Z s (A.Z s ++ ys.map (eL S)) s ++ [eL S z]) = up A.Z s (A.Z s ++ (ys ++ [z]).map (eL S)) := by
          rw [up_up, up_same, List.map_append, List.append_assoc]
          rfl
        rw [← e4]
        exact hA2
      have := ih (ys ++ [z]) _ m17 (by rw [List.append_assoc]; exact e) h17 hA3 eg (hH.tr ((Hk.cp (n := z) f3).tr ⟨rfl, fun _ _ => ⟨rfl, rfl, rfl, rfl⟩⟩)) (hL.tr ((Lk.cp (n := z) f1).tr (Lk.pset hs))) (fun n hn q p hp r => by
        have h1 := hHp n hn q
        have hnv : n ≠ v := fun t => f3 (by rw [hH.1, ← t]; exact hn)
        have r' : n ∈ up S1.P s (S1.P s ++ [v]) p := r
        by_cases e5 : p = s
        · rw [e5, up_same] at r'
          rcases List.mem_append.mp r' with t | t
          · exact h1 s (by omega) t
          · simp at t
            exact hnv t
        · simp only [up, if_neg e5] at r'
          exact h1 p hp r')
      rw [List.length_append] at this
      rw [nI_1]
      exact this
end L3B
