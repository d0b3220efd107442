/-! the reference puts anew -/
section L3K
variable {l : Launch} {G : xG} {Q : XR → XM → Prop} {R : Nat → Nat} {m0 m m' : XM} {S S' S1 S2 : RS} {X X' : RX} {A B : AS} {ix g xs ys zs rest hs0 : List Nat} {pn : Nat → Nat} {n p s i x v w0 : Nat} {key : Int64} {c c0 : Nat → Int32} {E : List Ent}
theorem cA10 {j : Nat} : cA (cA c0 10 (nI j)) 10 1 = cA c0 10 (nI (j + 1)) := by
  unfold cA
  rw [up_up, up_same, Int32.add_assoc, nI_1]
theorem ew_eL : ew (eL S n) = S.l n + 3 := by
  show 3 + (vlS S n).length = _
  rw [vlS_len]
  omega
theorem c_pa21 (hst : l.stackTraces = false) (h : MR R m0 S X m) (hA : RA S (mA B.Z B.Y B.w c B.t) ix pn) (hky : (B.Y.map Ent.k).Nodup) (hn4 : n < 4096) (hn : ∀ p, p < 97 → n ∉ S.P p) (hl : (S.P 96).length < 8) (ht : S.t + 1 < 2 ^ 29)
    (hq : ∀ S' ix' pn' m', MR R m0 S' X m' → RA S' (mA (ent (eL S n) B).Z (ent (eL S n) B).Y (ent (eL S n) B).w (cA c 10 1) (ent (eL S n) B).t) ix' pn' → S'.h = S.h → (∀ y, y ≠ n → S'.k y = S.k y ∧ S'.l y = S.l y ∧ S'.v y = S.v y ∧ S'.cm y = S.cm y) → (∀ p y, p < 97 → y ∈ S'.P p → y ∈ S.P p ∨ y = n) → Q (.inl none) m') : WW l G xM_putAnew 21 [some (vR (some (R 0))), some (vI (nI n))] [] m 0 0 Q := by
  refine bM_putAnew_21 ⟨h.w.k0, c_MenterR hst h hA hky hn4 hn hl ht (fun S' ix' pn' m' h' hA' eh eg hd hP => ?_)⟩
  refine ⟨h'.w.k0, R 23, h'.w.r23, 13, h'.w.k23, vp_in_nI (n := 10) (by omega) (by omega), vp_in_nI (n := 10) (by omega) (by omega), fun m10 hm10 => ?_⟩
  rw [show (10 : Int32).toNatClampNeg = 10 from rfl, h'.cn (by omega)] at hm10
  have h10 := h'.sCnt (n := 10) (by omega) (S'.c 10 + 1)
  rw [← hm10] at h10
  have hA10 := hA'.cnt (k := 10) 1 (by omega) (by omega)
  exact hq _ ix' pn' m10 h10 hA10 (by rw [RS.h_sc]; exact eh) (fun y hy => by rw [RS.k_sc, RS.l_sc, RS.v_sc, RS.cm_sc]; exact hd y hy) (fun p y hp hy => by rw [RS.P_sc] at hy; exact hP p y hp hy)
theorem c_MputAnew (hst : l.stackTraces = false) (h : MR R m0 S X m) (hA : RA S (mA B.Z B.Y B.w c B.t) ix pn) (hB : AI B) (hn4 : n < 4096) (hn : ∀ p, p < 97 → n ∉ S.P p) (hl1 : 1 ≤ S.l n) (ht : S.t + 1 < 2 ^ 29) (hwr : ¬ (eS (B.Z 96) + ew (eL S n) ≤ 32) → (∀ e ∈ B.Y, B.w ≤ e.p + 31 ∧ e.p ≤ B.w) ∧ B.w + 1 < 2 ^ 29)
    (hq : ∀ S' ix' pn' m', MR R m0 S' X m' → RA S' (mA (anx B (eL S n)).Z (anx B (eL S n)).Y (anx B (eL S n)).w (cA c 10 1) (anx B (eL S n)).t) ix' pn' → S'.h = S.h → (∀ y, y ≠ n → S'.k y = S.k y ∧ S'.l y = S.l y ∧ S'.v y = S.v y ∧ S'.cm y = S.cm y) → (∀ y, (∀ p, p < 97 → y ∉ S.P p) → y ≠ n → ∀ p, p < 97 → y ∉ S'.P p) → Q (.inl none) m') : CC l G xM_putAnew [vR (some (R 0)), vI (nI n)] m Q := by
  have hZ96 : eS (B.Z 96) = wS S (S.P 96) := by
    have := hA.2.2.1 96 (by omega) (by omega)
    rw [mA_Z] at this
    rw [this]
    exact (wS_eS (fun _ => rfl)).symm
  have hwp := h.wp (p := 96) (by omega)
  have hl8 := h.l8 n hn4
  refine bM_putAnew hst ⟨h.w.k0, c_MwordsOf (p := 96) hst h (by omega) ⟨h.w.k0, c_Mneed hst h hn4 ?_⟩⟩
  show (nI (wS S (S.P 96)) + nI (S.l n + 3) ≤ 32 → _) ∧ (¬ nI (wS S (S.P 96)) + nI (S.l n + 3) ≤ 32 → _)
  rw [nI_add, show (32 : Int32) = nI 32 from rfl, nI_leI (by omega) (by omega)]
  refine ⟨fun q => ?_, fun q => ⟨h.w.k0, ?_⟩⟩
  · have hroom : eS (B.Z 96) + ew (eL S n) ≤ 32 := by rw [hZ96, ew_eL]; exact q
    have hlen : (S.P 96).length < 8 := by
      have e := congrArg List.length (hA.2.2.1 96 (by omega) (by omega))
      rw [mA_Z, List.length_map] at e
      have := eS_len (xs := B.Z 96) (fun e he => ((hB.wz 96 (by omega)).2 e he).1)
      rw [ew_eL] at hroom
      omega
    refine c_pa21 hst h hA hB.ky hn4 hn hlen ht (fun S' ix' pn' m' h' hA' eh hd hP => hq S' ix' pn' m' h' ?_ eh hd (fun y hy hne p hp r => ?_))
    · unfold anx
      rw [if_pos hroom]
      exact hA'
    · rcases hP p y hp r with t | t
      · exact hy p hp t
      · exact hne t
  · have hroom : ¬ eS (B.Z 96) + ew (eL S n) ≤ 32 := by rw [hZ96, ew_eL]; exact q
    obtain ⟨w1, w2⟩ := hwr hroom
    have hww : B.w = S.w := hA.2.2.2.2.2.2.2.1
    refine c_MwriteOpen hst h (by rw [← hww]; exact w2) (fun m8 h8 => ?_)
    show WW _ _ _ _ _ _ _ _ _ _
    have hA8 := hA.wo w1
    have eP : (woS S).P = woP S := by unfold woS; rw [RS.P_sc, RS.P_sw, RS.P_sP]
    have hD : (woS S).k = S.k ∧ (woS S).l = S.l ∧ (woS S).v = S.v ∧ (woS S).cm = S.cm ∧ (woS S).h = S.h ∧ (woS S).t = S.t := by
      unfold woS
      refine ⟨?_, ?_, ?_, ?_, ?_, ?_⟩
      · rw [RS.k_sc, RS.k_sw, RS.k_sP]
      · rw [RS.l_sc, RS.l_sw, RS.l_sP]
      · rw [RS.v_sc, RS.v_sw, RS.v_sP]
      · rw [RS.cm_sc, RS.cm_sw, RS.cm_sP]
      · rw [RS.h_sc, RS.h_sw, RS.h_sP]
      · rw [RS.t_sc, RS.t_sw, RS.t_sP]
    obtain ⟨dk, dl, dv, dc, dh, dt⟩ := hD
    have hsubP : ∀ p y, p < 97 → y ∈ (woS S).P p → ∃ r, r < 97 ∧ y ∈ S.P r := fun p y hp hy => by
      rw [eP] at hy
      unfold woP at hy
      by_cases e1 : p = 96
      · rw [e1, up_same] at hy
        cases hy
      · rw [upN e1] at hy
        by_cases e2 : p = 64 + S.w % 32
        · rw [e2, up_same] at hy
          exact ⟨96, by omega, hy⟩
        · rw [upN e2] at hy
          exact ⟨p, hp, hy⟩
    have eLn : eL (woS S) n = eL S n := by rw [eL_of dl dv dk]
    refine c_pa21 (B := wro B) hst h8 hA8 hB.ky hn4 (fun p hp r => by obtain ⟨t, t1, t2⟩ := hsubP p n hp r; exact hn t t1 t2) (by rw [eP]; unfold woP; rw [up_same]; decide) (by rw [dt]; exact ht) (fun S' ix' pn' m' h' hA' eh hd hP => hq S' ix' pn' m' h' ?_ (by rw [eh, dh]) (fun y hy => ?_) (fun y hy hne p hp r => ?_))
    · unfold anx
      rw [if_neg hroom, ← eLn]
      exact hA'
    · obtain ⟨a1, a2, a3, a4⟩ := hd y hy
      rw [dk] at a1
      rw [dl] at a2
      rw [dv] at a3
      rw [dc] at a4
      exact ⟨a1, a2, a3, a4⟩
    · rcases hP p y hp r with t | t
      · obtain ⟨u, u1, u2⟩ := hsubP p y hp t
        exact hy u u1 u2
      · exact hne t
theorem RA.shS {z : List Nat} (h : RA S A ix pn) : RA (S.sh z) A ix pn := h.same RS.P_sh (fun _ _ _ _ => ⟨rfl, rfl, rfl, rfl, rfl, rfl, rfl⟩) rfl rfl rfl
theorem anx_eL {x : Ent} (h : eL S n = e0 x) : anx B (eL S n) = anx B x := by
  have h' : e0 (eL S n) = e0 x := by
    rw [h]
    rfl
  unfold anx
  rw [ew_e0 h', ent_e0 h']
theorem c_mr54 {x1 : Int32} {hs : List Nat} {B0 : AS} (hst : l.stackTraces = false) (hE4 : w0 % 4 = 0) (hw0 : w0 + 5 < 2 ^ 29) (hso : E.Pairwise (fun a b => a.p ≤ b.p)) (hpE : ∀ x ∈ E, w0 ≤ x.p + 32 ∧ x.p + 32 < w0 + 4) (hlE : ∀ x ∈ E, 1 ≤ x.v.length ∧ x.v.length ≤ 8) (hsE : ∀ n, eS (E.filter (fun y => y.p == n)) ≤ 32) (hhl : hs.length ≤ 64) (hhn : hs.Nodup) (hh4 : ∀ n ∈ hs, n < 4096)
    (hq : ∀ S' ix' pn' m', MR R m0 S' X m' → RA S' (mA (E.foldl anx B0).Z (E.foldl anx B0).Y (E.foldl anx B0).w (cA c0 10 (nI hs.length)) (E.foldl anx B0).t) ix' pn' → Q (.inl none) m') :
    ∀ zs ys E2 E1 S mm ix pn B, E1 ++ E2 = E → ys ++ zs = hs → zs.map (eL S) = E2.map e0 → MR R m0 S X mm → S.h = hs → RA S (mA B.Z B.Y B.w (cA c0 10 (nI ys.length)) B.t) ix pn → BJ w0 E1 B → B = E1.foldl anx B0 → (∀ n ∈ zs, ∀ p, p < 97 → n ∉ S.P p) → S.t + zs.length < 2 ^ 29 → WW l G xM_makeRoom 54 [some (vR (some (R 0))), some (vI x1), some (vI (nI hs.length)), some (vI (nI ys.length))] [] mm 0 0 Q := by
  intro zs
  induction zs with
  | nil =>
    intro ys E2 E1 S mm ix pn B e1 e2 hm hR eh hA hJ hB hf ht
    have eE : E2 = [] := by
      cases E2 with
      | nil => rfl
      | cons a t => simp at hm
    rw [eE, List.append_nil] at e1
    rw [List.append_nil] at e2
    subst e1
    subst e2
    refine bM_makeRoom_54 ⟨fun _ => ⟨hR.w.k0, fun m2 hm2 => ?_⟩, fun q => absurd Int32.le_rfl q⟩
    have h2 := hR.h0
    rw [← hm2] at h2
    rw [hB] at hA
    exact hq _ ix pn m2 h2 hA.shS
  | cons z zs ih =>
    intro ys E2 E1 S mm ix pn B e1 e2 hm hR eh hA hJ hB hf ht
    obtain ⟨x, E2', rfl⟩ : ∃ x E2', E2 = x :: E2' := by
      cases E2 with
      | nil => simp at hm
      | cons x t => exact ⟨x, t, rfl⟩
    rw [List.map_cons, List.map_cons, List.cons.injEq] at hm
    obtain ⟨hm1, hm2⟩ := hm
    have hlt : ys.length < hs.length := by rw [← e2]; simp
    have hzh : z ∈ hs := by rw [← e2]; simp
    have hz4 := hh4 z hzh
    have hhg := hR.hh
    rw [eh] at hhg
    have hat : gI mm (R 21) ys.length = nI z := hhg.2.2.1 _ z (at_mid e2)
    have hxE : x ∈ E := by rw [← e1]; simp
    have hxl := hlE x hxE
    have e1' : (E1 ++ [x]) ++ E2' = E := by rw [List.append_assoc]; exact e1
    have hJ' : BJ w0 (E1 ++ [x]) (anx B x) := by
      refine anx_J hJ hE4 (fun y hy => ?_) (hpE x hxE) hxl ?_
      · rw [← e1, List.pairwise_append] at hso
        exact hso.2.2 y hy x List.mem_cons_self
      · refine Nat.le_trans (eS_sub (List.Sublist.filter _ ?_)) (hsE x.p)
        rw [← e1']
        exact List.sublist_append_left _ _
    have hzn : ∀ y ∈ zs, y ≠ z := fun y hy r => by
      rw [← e2, List.nodup_append] at hhn
      have := (List.nodup_cons.mp hhn.2.1).1
      exact this (r ▸ hy)
    have hxeq := anx_eL (B := B) hm1
    have hvl : S.l z = x.v.length := by
      have : (vlS S z).length = x.v.length := congrArg (fun e : Ent => e.v.length) hm1
      rw [vlS_len] at this
      exact this
    refine bM_makeRoom_54 ⟨fun q => ?_, fun _ => ⟨hR.w.k0, R 21, hR.w.r21, 300, hR.w.k21, vp_in_nI (by omega) (by omega), ?_⟩⟩
    · rw [nI_leI (by omega) (by omega)] at q
      omega
    rw [nI_clamp (by omega), hat]
    refine c_MputAnew hst hR hA hJ.1 hz4 (hf z List.mem_cons_self) (by omega) (by simp at ht; omega) (fun q => ?_) (fun S' ix' pn' m' h' hA' eh' hd hP => ?_)
    · have hw' : (anx B x).w = B.w + 1 := by
        rw [← hxeq]
        unfold anx
        rw [if_neg q]
        rfl
      have hb := hJ'.2.2.2.1
      rw [hw'] at hb
      refine ⟨fun e he => ?_, by omega⟩
      have a1 := hJ.2.1 e he
      have a2 := (hJ.1.iy e he).2.1
      exact ⟨by omega, a2⟩
    · show WW _ _ _ _ _ _ _ _ _ _
      rw [hxeq, cA10] at hA'
      have eY1 : ys.length + 1 = (ys ++ [z]).length := by simp
      rw [eY1] at hA'
      have ht' : S'.t = (anx B x).t := hA'.2.2.2.2.2.2.2.2.1.symm
      have ht0 : B.t = S.t := hA.2.2.2.2.2.2.2.2.1
      have := ih (ys ++ [z]) E2' (E1 ++ [x]) S' m' ix' pn' (anx B x) e1' (by rw [List.append_assoc]; exact e2) ?_ h' (by rw [eh', eh]) hA' hJ' (by rw [List.foldl_append, ← hB]; rfl) (fun y hy p hp => hP y (hf y (List.mem_cons_of_mem _ hy)) (hzn y hy) p hp) ?_
      · rw [List.length_append] at this
        rw [nI_1]
        exact this
      · rw [← hm2]
        apply List.map_congr_left
        intro y hy
        obtain ⟨a1, a2, a3, -⟩ := hd y (hzn y hy)
        unfold eL
        rw [a1, vlS_eq a2 a3]
      · rw [ht', anx_t, ht0]
        simp at ht
        omega
end L3K
