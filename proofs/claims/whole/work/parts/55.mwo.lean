/-! the reference writes the open page out; one is entered -/
section L3H
variable {l : Launch} {G : xG} {Q : XR → XM → Prop} {R : Nat → Nat} {m0 m m' : XM} {S S' S1 S2 : RS} {X X' : RX} {A B : AS} {ix g xs ys zs : List Nat} {pn : Nat → Nat} {n p s i x v : Nat} {key : Int64} {c : Nat → Int32}
theorem upN {α : Type} {f : Nat → α} {k j : Nat} {v : α} (h : j ≠ k) : up f k v j = f j := by simp [up, h]
theorem RS.PP {a b : Nat → List Nat} : (S.sP a).sP b = S.sP b := by
  simp only [RS.sP, RS.P, RS.k, RS.l, RS.v, RS.nw, RS.gt, RS.cm, RS.mk, RS.w, RS.t, RS.c, RS.g, RS.h, mS]
  rfl
def woP (S : RS) : Nat → List Nat := up (up S.P (64 + S.w % 32) (S.P 96)) 96 []
def woS (S : RS) : RS := ((S.sP (woP S)).sw (S.w + 1)).sc (if (S.w + 1) % 4 = 0 then up S.c 0 (S.c 0 + 1) else S.c)
theorem c_MwriteOpen (hst : l.stackTraces = false) (h : MR R m0 S X m) (hw : S.w + 1 < 2 ^ 29) (hq : ∀ m', MR R m0 (woS S) X m' → Q (.inl none) m') : CC l G xM_writeOpen [vR (some (R 0))] m Q := by
  have hq32 : 64 + S.w % 32 < 96 := by have := Nat.mod_lt S.w (show 0 < 32 by omega); omega
  have ex : (64 : Int32) + ((gI m (R 0) 16) - (gI m (R 0) 16) / (32 : Int32) * (32 : Int32)) = nI (64 + S.w % 32) := by
    rw [h.wr.1, show (32 : Int32) = nI 32 from rfl, pk_rem (by omega) (by omega) (by omega), show (64 : Int32) = nI 64 from rfl, nI_add]
  refine bM_writeOpen hst ⟨h.w.k0, R 14, h.w.r14, 97, h.w.k14, by rw [ex]; exact vp_in_nI (by omega) (by omega), fun m7 hm7 => ?_⟩
  rw [ex, nI_clamp (by omega)] at hm7
  rw [ex]
  have h7 := h.sSz (p := 64 + S.w % 32) (n := 0) (by omega) (Nat.zero_le _)
  rw [show nI 0 = (0 : Int32) from rfl, ← hm7, List.take_zero] at h7
  generalize hqq : 64 + S.w % 32 = q at *
  have hs96 := (h.sz (p := 96) (by omega)).2
  have loop : ∀ zs ys mm, ys ++ zs = S.P 96 → MR R m0 (S.sP (up S.P q ys)) X mm → WW l G xM_writeOpen 20 [some (vR (some (R 0))), some (vI (nI q)), some (vI (nI ys.length))] [] mm 0 0 Q := by
    intro zs
    induction zs with
    | nil =>
      intro ys mm e hR
      rw [List.append_nil] at e
      have eP96 : (S.sP (up S.P q ys)).P 96 = S.P 96 := by rw [RS.P_sP, up, if_neg (by omega)]
      have hs1 := (hR.sz (p := 96) (by omega)).1
      rw [eP96] at hs1
      refine bM_writeOpen_20 ⟨hR.w.k0, R 14, hR.w.r14, 97, hR.w.k14, vp_in_nI (n := 96) (by omega) (by omega), fun _ => ⟨vp_in_nI (n := 96) (by omega) (by omega), fun m8 hm8 m9 hm9 => ?_⟩, fun r => ?_⟩
      · rw [show (96 : Int32).toNatClampNeg = 96 from rfl] at hm8
        have h8 := hR.sSz (p := 96) (n := 0) (by omega) (Nat.zero_le _)
        rw [show nI 0 = (0 : Int32) from rfl, ← hm8, List.take_zero, RS.P_sP, RS.PP, e] at h8
        rw [h8.wr.1, RS.w_sP, show (1 : Int32) = nI 1 from rfl, nI_add] at hm9
        have h9 := h8.sW (v := S.w + 1) hw
        rw [← hm9] at h9
        have ew : gI m9 (R 0) 16 = nI (S.w + 1) := by rw [h9.wr.1, RS.w_sw]
        have em : (gI m9 (R 0) 16) - (gI m9 (R 0) 16) / (4 : Int32) * (4 : Int32) = nI ((S.w + 1) % 4) := by
          rw [ew, show (4 : Int32) = nI 4 from rfl, pk_rem (by omega) (by omega) (by omega)]
        have ewo : woP S = up (up S.P q (S.P 96)) 96 [] := by unfold woP; rw [hqq]
        rw [← ewo] at h9
        refine ⟨fun r => hq m9 ?_, fun r => ⟨R 23, hR.w.r23, 13, hR.w.k23, vp_in_nI (n := 0) (by omega) (by omega), vp_in_nI (n := 0) (by omega) (by omega), fun m16 hm16 => hq m16 ?_⟩⟩
        · rw [em, show (0 : Int32) = nI 0 from rfl, nI_eq (by have := Nat.mod_lt (S.w + 1) (show 0 < 4 by omega); omega) (by omega)] at r
          unfold woS
          rw [if_neg r]
          have := RS.sc_self (S := (S.sP (woP S)).sw (S.w + 1))
          rw [RS.c_sw, RS.c_sP] at this
          rw [this]
          exact h9
        · rw [em, show (0 : Int32) = nI 0 from rfl, nI_eq (by have := Nat.mod_lt (S.w + 1) (show 0 < 4 by omega); omega) (by omega)] at r
          rw [show (0 : Int32).toNatClampNeg = 0 from rfl, h9.cn (by omega), RS.c_sw, RS.c_sP] at hm16
          unfold woS
          rw [if_pos r, hm16]
          have := h9.sCnt (n := 0) (by omega) (S.c 0 + 1)
          rw [RS.c_sw, RS.c_sP] at this
          exact this
      · rw [show (96 : Int32).toNatClampNeg = 96 from rfl, hs1, e] at r
        exact absurd Int32.le_rfl r
    | cons z zs ih =>
      intro ys mm e hR
      have eP96 : (S.sP (up S.P q ys)).P 96 = S.P 96 := by rw [RS.P_sP, up, if_neg (by omega)]
      have ePq : (S.sP (up S.P q ys)).P q = ys := by rw [RS.P_sP, up_same]
      have hs1 := (hR.sz (p := 96) (by omega)).1
      rw [eP96] at hs1
      have hlt : ys.length < (S.P 96).length := by rw [← e]; simp
      obtain ⟨ha, hz⟩ := hR.at (p := 96) (n := z) (i := ys.length) (by omega) (by rw [eP96]; exact at_mid e)
      refine bM_writeOpen_20 ⟨hR.w.k0, R 14, hR.w.r14, 97, hR.w.k14, vp_in_nI (n := 96) (by omega) (by omega), fun r => ?_, fun _ => ⟨R 15, hR.w.r15, 776, hR.w.k15, ?_, ?_⟩⟩
      · rw [show (96 : Int32).toNatClampNeg = 96 from rfl, hs1, nI_leI (by omega) (by omega)] at r
        omega
      · rw [show (768 : Int32) = nI 768 from rfl, nI_add]
        exact vp_in_nI (by omega) (by omega)
      · rw [show (768 : Int32) = nI 768 from rfl, nI_add, nI_clamp (by omega), show 768 + ys.length = 8 * 96 + ys.length by omega, ha]
        refine c_Mappend hst hR (by omega) hz (by rw [ePq]; omega) (fun m23 h23 => ?_)
        rw [ePq, RS.P_sP, up_up, RS.PP] at h23
        show WW _ _ _ _ _ _ _ _ _ _
        have := ih (ys ++ [z]) m23 (by rw [List.append_assoc]; exact e) h23
        rw [List.length_append] at this
        rw [nI_1]
        exact this
  exact loop (S.P 96) [] m7 rfl h7
theorem RA.wo (hA : RA S A ix pn) (hs : ∀ e ∈ A.Y, A.w ≤ e.p + 31 ∧ e.p ≤ A.w) : RA (woS S) (wro A) ix pn := by
  obtain ⟨h1, h2, h3, h4, h5, h6, h7, h8, h9, h10, h11⟩ := hA
  have eP : (woS S).P = up (up S.P (64 + A.w % 32) (S.P 96)) 96 [] := by
    unfold woS woP
    rw [RS.P_sc, RS.P_sw, RS.P_sP, h8]
  have hm := Nat.mod_lt A.w (show 0 < 32 by omega)
  generalize hq : 64 + A.w % 32 = q at *
  have hin : ∀ r y, y ∈ (woS S).P r → (r = q ∧ y ∈ S.P 96) ∨ (r ≠ q ∧ r ≠ 96 ∧ y ∈ S.P r) := fun r y hy => by
    rw [eP] at hy
    by_cases e1 : r = 96
    · rw [e1, up_same] at hy
      cases hy
    · rw [up, if_neg e1] at hy
      by_cases e2 : r = q
      · rw [e2, up_same] at hy
        exact Or.inl ⟨e2, hy⟩
      · rw [up, if_neg e2] at hy
        exact Or.inr ⟨e2, e1, hy⟩
  have data : (woS S).k = S.k ∧ (woS S).l = S.l ∧ (woS S).v = S.v ∧ (woS S).mk = S.mk ∧ (woS S).gt = S.gt ∧ (woS S).cm = S.cm ∧ (woS S).nw = S.nw ∧ (woS S).t = S.t ∧ (woS S).w = S.w + 1 := by
    unfold woS
    refine ⟨?_, ?_, ?_, ?_, ?_, ?_, ?_, ?_, ?_⟩
    · rw [RS.k_sc, RS.k_sw, RS.k_sP]
    · rw [RS.l_sc, RS.l_sw, RS.l_sP]
    · rw [RS.v_sc, RS.v_sw, RS.v_sP]
    · rw [RS.mk_sc, RS.mk_sw, RS.mk_sP]
    · rw [RS.gt_sc, RS.gt_sw, RS.gt_sP]
    · rw [RS.cm_sc, RS.cm_sw, RS.cm_sP]
    · rw [RS.nw_sc, RS.nw_sw, RS.nw_sP]
    · rw [RS.t_sc, RS.t_sw, RS.t_sP]
    · rw [RS.w_sc, RS.w_sw]
  obtain ⟨dk, dl, dv, dm, dg, dc, dn, dt, dw⟩ := data
  have eZ' : eZ (woS S) = eZ S := eZ_of dl dv dk dm
  have eL' : eL (woS S) = eL S := eL_of dl dv dk
  have eY' : eY (woS S) pn = eY S pn := eY_of dl dv dk dg
  have ec : (woS S).c = if (S.w + 1) % 4 = 0 then up S.c 0 (S.c 0 + 1) else S.c := by unfold woS; rw [RS.c_sc]
  have hpn : ∀ n ∈ ix, A.w ≤ pn n + 31 ∧ pn n ≤ A.w := fun n hn => hs (eY S pn n) (by rw [h4]; exact List.mem_map_of_mem hn)
  have hnq : ∀ n ∈ ix, n ∉ S.P q := fun n hn r => by
    have := hpn n hn
    have hp := (h7 n hn).1
    have hpl := pl_lt (w := A.w) (p := pn n)
    have e : pl A.w (pn n) = q := Classical.byContradiction fun t => h1.2 _ _ (by omega) (by omega) t n hp r
    unfold pl at e
    split at e
    · omega
    · omega
  refine ⟨⟨fun r hr => ?_, fun r t hr ht hne y hy hy' => ?_⟩, fun s hs' => ?_, fun p hp hp' => ?_, ?_, fun n => ?_, ?_, fun n hn => ?_, ?_, ?_, ?_, fun k hk hk' => ?_⟩
  · rw [eP]
    by_cases e1 : r = 96
    · rw [e1, up_same]
      exact List.nodup_nil
    · rw [up, if_neg e1]
      by_cases e2 : r = q
      · rw [e2, up_same]
        exact h1.1 96 (by omega)
      · rw [up, if_neg e2]
        exact h1.1 r hr
  · rcases hin r y hy with ⟨a1, a2⟩ | ⟨a1, a2, a3⟩
    · rcases hin t y hy' with ⟨b1, b2⟩ | ⟨b1, b2, b3⟩
      · exact hne (a1.trans b1.symm)
      · exact h1.2 96 t (by omega) ht (fun e => b2 e.symm) y a2 b3
    · rcases hin t y hy' with ⟨b1, b2⟩ | ⟨b1, b2, b3⟩
      · exact h1.2 r 96 hr (by omega) a2 y a3 b2
      · exact h1.2 r t hr ht hne y a3 b3
  · rw [eP, eZ']
    show up (up A.Z (64 + A.w % 32) (A.Z 96)) 96 [] s = _
    rw [hq, upN (by omega), upN (by omega), upN (by omega), upN (by omega)]
    exact h2 s hs'
  · rw [eP, eL']
    show up (up A.Z (64 + A.w % 32) (A.Z 96)) 96 [] p = _
    rw [hq]
    by_cases e1 : p = 96
    · rw [e1, up_same, up_same]
      rfl
    · rw [upN e1, upN e1]
      by_cases e2 : p = q
      · rw [e2, up_same, up_same]
        exact h3 96 (by omega) (by omega)
      · rw [upN e2, upN e2]
        exact h3 p hp hp'
  · rw [eY']
    exact h4
  · rw [dn, h5 n, lgs_mem, lgs_mem]
    constructor
    · rintro ⟨⟨r, a1, a2, a3⟩, a4⟩
      refine ⟨?_, a4⟩
      have hix := (h5 n).mpr ⟨lgs_mem.mpr ⟨r, a1, a2, a3⟩, a4⟩
      by_cases e1 : r = 96
      · refine ⟨q, by omega, by omega, ?_⟩
        rw [eP, up, if_neg (by omega), up_same, ← e1]
        exact a3
      · have e2 : r ≠ q := fun e => hnq n hix (e ▸ a3)
        refine ⟨r, a1, a2, ?_⟩
        rw [eP, up, if_neg e1, up, if_neg e2]
        exact a3
    · rintro ⟨⟨r, a1, a2, a3⟩, a4⟩
      refine ⟨?_, a4⟩
      rcases hin r n a3 with ⟨-, b2⟩ | ⟨-, -, b3⟩
      · exact ⟨96, by omega, by omega, b2⟩
      · exact ⟨r, a1, a2, b3⟩
  · rw [dc]
    exact h6
  · obtain ⟨a1, a2⟩ := h7 n hn
    have hp := hpn n hn
    rw [dc, dt]
    refine ⟨?_, a2⟩
    show n ∈ (woS S).P (pl (A.w + 1) (pn n))
    have e1 : pl (A.w + 1) (pn n) = 64 + pn n % 32 := by unfold pl; rw [if_neg (by omega)]
    rw [e1, eP]
    by_cases e2 : pn n = A.w
    · rw [e2, hq, up, if_neg (by omega), up_same]
      rw [e2] at a1
      unfold pl at a1
      rw [if_pos rfl] at a1
      exact a1
    · unfold pl at a1
      rw [if_neg e2] at a1
      have hm2 := Nat.mod_lt (pn n) (show 0 < 32 by omega)
      have e3 : 64 + pn n % 32 ≠ q := fun e => hnq n hn (e ▸ a1)
      rw [up, if_neg (by omega), up, if_neg e3]
      exact a1
  · rw [dw, ← h8]
    rfl
  · rw [dt]
    exact h9
  · rw [ec]
    show _ = nI ((A.w + 1) / 4)
    rw [h8] at h10 ⊢
    by_cases e1 : (S.w + 1) % 4 = 0
    · rw [if_pos e1, up_same, h10, nI_1]
      congr 1
      omega
    · rw [if_neg e1, h10]
      congr 1
      omega
  · rw [ec]
    show _ = A.c k
    split
    · rw [up, if_neg (by omega)]
      exact h11 k hk hk'
    · exact h11 k hk hk'
end L3H
