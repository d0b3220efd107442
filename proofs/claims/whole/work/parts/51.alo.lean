/-! the reference: an old value goes, one alone of its set -/
section L3D
variable {l : Launch} {G : xG} {Q : XR → XM → Prop} {R : Nat → Nat} {m0 m m' : XM} {S S' S1 S2 : RS} {X X' : RX} {A B : AS} {ix g xs ys zs : List Nat} {pn : Nat → Nat} {n p s i x : Nat} {key : Int64} {c : Nat → Int32}
theorem RS.sc_sc {a b : Nat → Int32} : (S.sc a).sc b = S.sc b := rfl
theorem cp_P {v : Nat} : (cpS S n v).P = S.P := by
  unfold cpS
  rw [RS.P_smk, RS.P_sgt, RS.P_snw, RS.P_sv, RS.P_sl, RS.P_sk]
theorem cp_k {v : Nat} : (cpS S n v).k = up S.k v (S.k n) := by
  unfold cpS
  rw [RS.k_smk, RS.k_sgt, RS.k_snw, RS.k_sv, RS.k_sl, RS.k_sk]
theorem cp_l {v : Nat} : (cpS S n v).l = up S.l v (S.l n) := by
  unfold cpS
  rw [RS.l_smk, RS.l_sgt, RS.l_snw, RS.l_sv, RS.l_sl]
theorem cp_v {v : Nat} : (cpS S n v).v = up S.v v (S.v n) := by
  unfold cpS
  rw [RS.v_smk, RS.v_sgt, RS.v_snw, RS.v_sv]
theorem cp_nw {v : Nat} : (cpS S n v).nw = up S.nw v 0 := by
  unfold cpS
  rw [RS.nw_smk, RS.nw_sgt, RS.nw_snw]
theorem cp_gt {v : Nat} : (cpS S n v).gt = up S.gt v 0 := by
  unfold cpS
  rw [RS.gt_smk, RS.gt_sgt]
theorem cp_cm {v : Nat} : (cpS S n v).cm = S.cm := by
  unfold cpS
  rw [RS.cm_smk, RS.cm_sgt, RS.cm_snw, RS.cm_sv, RS.cm_sl, RS.cm_sk]
theorem cp_mk {v : Nat} : (cpS S n v).mk = up S.mk v 0 := by
  unfold cpS
  rw [RS.mk_smk]
theorem cp_w {v : Nat} : (cpS S n v).w = S.w := by
  unfold cpS
  rw [RS.w_smk, RS.w_sgt, RS.w_snw, RS.w_sv, RS.w_sl, RS.w_sk]
theorem cp_t {v : Nat} : (cpS S n v).t = S.t := by
  unfold cpS
  rw [RS.t_smk, RS.t_sgt, RS.t_snw, RS.t_sv, RS.t_sl, RS.t_sk]
theorem cp_c {v : Nat} : (cpS S n v).c = S.c := by
  unfold cpS
  rw [RS.c_smk, RS.c_sgt, RS.c_snw, RS.c_sv, RS.c_sl, RS.c_sk]
theorem cp_g {v : Nat} : (cpS S n v).g = S.g := by
  unfold cpS
  rw [RS.g_smk, RS.g_sgt, RS.g_snw, RS.g_sv, RS.g_sl, RS.g_sk]
theorem cp_h {v : Nat} : (cpS S n v).h = S.h := by
  unfold cpS
  rw [RS.h_smk, RS.h_sgt, RS.h_snw, RS.h_sv, RS.h_sl, RS.h_sk]
theorem bt_lt (k : Int64) : ∃ u, u < 64 ∧ bt k = nI u := by
  unfold bt
  generalize mixF k = y
  refine ⟨y.toUInt64.toNat % 64, Nat.mod_lt _ (by omega), ?_⟩
  rw [← small64 _ (Nat.mod_lt _ (by omega))]
  congr 1
  apply i64_u.mpr
  rw [← UInt64.toNat_inj]
  show (y.toUInt64 &&& (63 : UInt64)).toNat = (UInt64.ofNat (y.toUInt64.toNat % 64)).toNat
  rw [UInt64.toNat_and, UInt64.toNat_ofNat', Nat.mod_eq_of_lt (a := y.toUInt64.toNat % 64) (by omega)]
  exact Nat.and_two_pow_sub_one_eq_mod y.toUInt64.toNat 6
theorem bitF_bt (k : Int64) : bitF k = jshl (1 : Int64) (bt k) := rfl
theorem and_bit {y : Int64} {u : Nat} (hu : u < 64) : (y &&& jshl (1 : Int64) (nI u)) = 0 ↔ (bN y).testBit u = false := by
  rw [i64_u, ← UInt64.toNat_inj]
  show (y.toUInt64 &&& (jshl (1 : Int64) (nI u)).toUInt64).toNat = 0 ↔ _
  rw [UInt64.toNat_and, sh1 u hu]
  unfold bN
  constructor
  · intro r
    have := congrArg (fun z => z.testBit u) r
    simp only [Nat.testBit_and, Nat.testBit_two_pow_self, Bool.and_true, Nat.zero_testBit] at this
    exact this
  · intro r
    apply Nat.eq_of_testBit_eq
    intro i
    rw [Nat.testBit_and, Nat.testBit_two_pow, Nat.zero_testBit]
    by_cases q : u = i
    · rw [← q, r]
      rfl
    · simp [q]
theorem bor_bit {u : Nat} : ∀ (xs : List Ent) (b : Int64), (bN (xs.foldl (fun f e => f ||| bitF e.k) b)).testBit u = ((bN b).testBit u || xs.any (fun e => bt e.k == nI u)) ∨ 64 ≤ u
  | [], b => by simp
  | x :: xs, b => by
    by_cases hu : 64 ≤ u
    · exact Or.inr hu
    · rcases bor_bit (u := u) xs (b ||| bitF x.k) with h | h
      · left
        obtain ⟨w, hw, e⟩ := bt_lt x.k
        rw [List.foldl_cons, h, bN_or, bitF_bt, e, bN_one hw, List.any_cons, e]
        have : (nI w == nI u) = decide (w = u) := by
          rw [Bool.eq_iff_iff]
          simp only [beq_iff_eq, decide_eq_true_eq]
          exact nI_eq (by omega) (by omega)
        rw [this, Bool.or_assoc]
      · exact absurd h hu
theorem rd_iff (hA : RA S A ix pn) : rdB S key = true ↔ ¬ (aBor (A.Z (sN key)) &&& bitF key) = 0 := by
  have hs := sN_lt key
  obtain ⟨u, hu, e⟩ := bt_lt key
  have h0 : (bN (0 : Int64)).testBit u = false := by
    show (0 : Nat).testBit u = false
    simp
  have h1 : (bN (aBor (A.Z (sN key)))).testBit u = (A.Z (sN key)).any (fun e => bt e.k == nI u) := by
    rcases bor_bit (u := u) (A.Z (sN key)) 0 with h | h
    · rw [h0, Bool.false_or] at h
      exact h
    · omega
  rw [bitF_bt, e, and_bit hu, h1, hA.2.1 _ hs, List.any_map]
  unfold rdB
  rw [e]
  show (S.P (sN key)).any (fun n => bt (S.k n) == nI u) = true ↔ ¬ (S.P (sN key)).any (fun n => bt (S.k n) == nI u) = false
  simp
theorem eraI_map {T : Nat → Ent} : ∀ (xs : List Nat) (i : Nat), (xs.eraseIdx i).map T = (xs.map T).eraseIdx i
  | [], i => by simp
  | x :: xs, 0 => by simp
  | x :: xs, i + 1 => by simp [eraI_map xs i]
theorem RA.kn (hA : RA S A ix pn) (hs : s < 64) (hn : ((A.Z s).map Ent.k).Nodup) : ((S.P s).map S.k).Nodup := by
  rw [hA.2.1 s hs, List.map_map] at hn
  exact hn
theorem c_MremoveR {k : Nat} (hst : l.stackTraces = false) (h : MR R m0 S X m) (hA : RA S A ix pn) (hk1 : 1 ≤ k) (hk : k < 11) (hn : ((A.Z (sN key)).map Ent.k).Nodup)
    (hq : ∀ S' m', MR R m0 S' X m' → RA S' (mA (aRmZ key A.Z) A.Y A.w (aRmC key k A.Z A.c) A.t) ix pn → Dk S S' → (∀ q, 64 ≤ q → q < 97 → S'.P q = S.P q) → S'.g = S.g → (∀ q n, q < 97 → n ∈ S'.P q → n ∈ S.P q) → Q (.inl (some (vI (aRmA key A.Z)))) m') : CC l G xM_removeOld [vR (some (R 0)), vL key, vI (nI k)] m Q := by
  have hs := sN_lt key
  have hr := rd_iff (key := key) hA
  have hkn := hA.kn hs hn
  have hZ := hA.2.1 _ hs
  have hno : ∀ {b : Bool}, (b = true ↔ ¬ (aBor (A.Z (sN key)) &&& bitF key) = 0) → b = false → (aBor (A.Z (sN key)) &&& bitF key) = 0 := fun h e => by
    rw [e] at h
    exact Classical.byContradiction fun r => absurd (h.mpr r) (by decide)
  refine c_MremoveOld hst h (by omega) (fun r => ?_) (fun r hx m' h' => ?_) (fun r i z hi hz m' h' => ?_)
  · have b0 := hno hr r
    have := hq S m h
    rw [show aRmZ key A.Z = A.Z by unfold aRmZ; rw [if_pos b0], show aRmC key k A.Z A.c = A.c by unfold aRmC; rw [if_pos b0], show aRmA key A.Z = 0 by unfold aRmA; rw [if_pos b0]] at this
    exact this hA ⟨rfl, rfl, rfl, rfl, rfl, rfl⟩ (fun _ _ _ => rfl) rfl (fun _ _ _ hn => hn)
  · have b0 := hr.mp r
    have hha : aHas key (A.Z (sN key)) = false := by
      rw [hZ]
      unfold aHas
      rw [List.any_eq_false]
      intro e he
      obtain ⟨n, hn, rfl⟩ := List.mem_map.mp he
      rw [eZ_k]
      simpa using hx n hn
    have := hq _ m' h'
    rw [show aRmZ key A.Z = A.Z by
      unfold aRmZ
      rw [if_neg b0, show aEra key (A.Z (sN key)) = A.Z (sN key) from List.eraseP_of_forall_not (fun e he => by
        unfold aHas at hha
        rw [List.any_eq_false] at hha
        exact hha e he), up_self], show aRmC key k A.Z A.c = cA A.c 9 1 by unfold aRmC; rw [if_neg b0, hha]; rfl, show aRmA key A.Z = 0 by unfold aRmA; rw [if_neg b0, hha]; rfl] at this
    exact this (hA.cnt 1 (by omega) (by omega)) Dk.sc (fun _ _ _ => by rw [RS.P_sc]) RS.g_sc (fun _ _ _ hn => by rw [RS.P_sc] at hn; exact hn)
  · have b0 := hr.mp r
    have hha : aHas key (A.Z (sN key)) = true := by
      rw [hZ]
      unfold aHas
      rw [List.any_eq_true]
      exact ⟨eZ S z, List.mem_map_of_mem (List.mem_of_getElem? hi), by simp [eZ_k, hz]⟩
    have he := eraK_ix (S := S) (key := key) (S.P (sN key)) i z hkn hi hz
    rw [he] at h'
    have hA1 := (hA.sub (xs := eraK S key (S.P (sN key))) hs eraK_sub).cnt2 (k := 9) 1 (by omega) (by omega)
    have hA2 := hA1.cnt2 (k := k) 1 hk1 hk
    rw [eraK_map, ← hZ, RS.c_sc, RS.c_sP, RS.sc_sc] at hA2
    have := hq _ m' h'
    rw [show aRmZ key A.Z = up A.Z (sN key) (aEra key (A.Z (sN key))) by unfold aRmZ; rw [if_neg b0], show aRmC key k A.Z A.c = cA (cA A.c 9 1) k 1 by unfold aRmC; rw [if_neg b0, hha]; rfl, show aRmA key A.Z = 1 by unfold aRmA; rw [if_neg b0, hha]; rfl] at this
    refine this ?_ (Dk.sP.tr Dk.sc) (fun q hq hq' => by rw [RS.P_sc, RS.P_sP, up, if_neg (by omega)]) (by rw [RS.g_sc, RS.g_sP]) (fun q n hq hn => by
      rw [RS.P_sc, RS.P_sP] at hn
      by_cases e5 : q = sN key
      · rw [e5, up_same] at hn
        rw [e5]
        exact eraK_sub.subset hn
      · simp only [up, if_neg e5] at hn
        exact hn)
    exact hA2
/-- one alone of its set -/
theorem c_Malone (hst : l.stackTraces = false) (h : MR R m0 S X m) (hA : RA S A ix pn) (hs : s < 64) (hx : ix.filter (fun n => sN (S.k n) == s) = [x]) (hn : ((A.Z s).map Ent.k).Nodup) (hhl : S.h.length < 64) (hg : S.g = [x])
    (h0 : S.gt x = 0 → ∀ S' m', MR R m0 S' X m' → RA S' (mA (aRmZ (S.k x) A.Z) (A.Y.filter (fun y => !(sN y.k == s))) A.w (aRmC (S.k x) 2 A.Z (cA A.c 8 1)) A.t) (ix.filter (fun n => !(sN (S.k n) == s))) pn → Hk S S' → Lk S S' → Hp S S' → Q (.inl none) m')
    (h1 : S.gt x ≠ 0 → ∀ S' v m', MR R m0 S' X m' → RA S' (mA A.Z (A.Y.filter (fun y => !(sN y.k == s))) A.w A.c A.t) (ix.filter (fun n => !(sN (S.k n) == s))) pn → S'.h = S.h ++ [v] → (∀ n ∈ S.h, S'.k n = S.k n ∧ S'.l n = S.l n ∧ S'.v n = S.v n ∧ S'.cm n = S.cm n) → v ∉ S.h → S'.P = S.P → (∀ p, p < 97 → v ∉ S.P p) → S'.k v = S.k x → S'.l v = S.l x → S'.v v = S.v x → S'.cm v = S.cm x → Lk S S' → Q (.inl none) m') : CC l G xM_alone [vR (some (R 0)), vI (nI s), vI (nI x)] m Q := by
  have hxf : x ∈ ix.filter (fun n => sN (S.k n) == s) := by rw [hx]; simp
  obtain ⟨hxi, hxs'⟩ := List.mem_filter.mp hxf
  have hxs : sN (S.k x) = s := by simpa using hxs'
  have hxl := ((hA.2.2.2.2.1 x).mp hxi).1
  have hx4 := h.lt hxl
  have hcx : (nI x).toNatClampNeg = x := nI_clamp (by omega)
  have hY := hA.2.2.2.1
  have hixf : ix.filter (fun n => !([x] : List Nat).contains n) = ix.filter (fun n => !(sN (S.k n) == s)) := by
    apply List.filter_congr
    intro n hn'
    congr 1
    rw [Bool.eq_iff_iff]
    constructor
    · intro r
      have : n = x := by simpa using r
      rw [this, hxs]
      simp
    · intro r
      have : n ∈ ix.filter (fun n => sN (S.k n) == s) := List.mem_filter.mpr ⟨hn', r⟩
      rw [hx] at this
      simpa using this
  have hA1 := hA.mv (g := [x]) (xs := S.P s) hs (List.Sublist.refl _) (fun n hn' => by simp at hn'; rw [hn']; exact hxi)
  rw [up_self, ← hA.2.1 s hs, up_self, hixf, ← nY_ix hY] at hA1
  refine bM_alone hst ⟨h.w.k0, R 9, h.w.r9, 4096, h.w.k9, vp_in_nI hx4 (by omega), fun m7 hm7 => ?_⟩
  rw [hcx] at hm7
  have h7 := h.sNw hx4 0
  rw [← hm7] at h7
  have hA7 : RA (S.snw (up S.nw x 0)) (mA A.Z (A.Y.filter (fun y => !(sN y.k == s))) A.w A.c A.t) (ix.filter (fun n => !(sN (S.k n) == s))) pn := by
    have e : (S.snw (clF S.nw [x])).sP S.P = S.snw (up S.nw x 0) := by
      rw [show clF S.nw [x] = up S.nw x 0 from rfl]
      have := RS.sP_self (S := S.snw (up S.nw x 0))
      rw [RS.P_snw] at this
      exact this
    rw [e] at hA1
    exact hA1
  generalize hS7 : S.snw (up S.nw x 0) = S7 at h7 hA7
  have K7 : Dk S S7 := by rw [← hS7]; exact Dk.snw
  have eP7 : S7.P = S.P := by rw [← hS7, RS.P_snw]
  have eg7 : S7.g = S.g := by rw [← hS7, RS.g_snw]
  refine ⟨R 10, h.w.r10, 4096, h.w.k10, vp_in_nI hx4 (by omega), fun q => ?_, fun q => ?_⟩
  · rw [hcx, h7.gt hx4, K7.2.2.2.2.1] at q
    refine ⟨R 23, h.w.r23, 13, h.w.k23, vp_in_nI (n := 8) (by omega) (by omega), vp_in_nI (n := 8) (by omega) (by omega), fun m19 hm19 => ⟨R 6, h.w.r6, 4096, h.w.k6, vp_in_nI hx4 (by omega), ?_⟩⟩
    rw [show (8 : Int32).toNatClampNeg = 8 from rfl, h7.cn (by omega)] at hm19
    have h19 := h7.sCnt (n := 8) (by omega) (S7.c 8 + 1)
    rw [← hm19] at h19
    have hA19 := hA7.cnt2 (k := 8) 1 (by omega) (by omega)
    rw [hcx, h.key hx4]
    refine c_MremoveR (k := 2) hst h19 hA19 (by omega) (by omega) (by rw [mA_Z, hxs]; exact hn) (fun S' m' h' hA' hK hQ hG hSub => ?_)
    rw [mA_Z, mA_Y, mA_w, mA_c] at hA'
    have K' : Dk S S' := (K7.tr Dk.sc).tr hK
    refine h0 q S' m' h' hA' K'.hk (K'.lk (fun q hq hq' => ?_)) (Hp.sub (fun q n hq hn => by have := hSub q n hq hn; rw [RS.P_sc, eP7] at this; exact this))
    rw [hQ q hq hq', RS.P_sc, eP7]
  · rw [hcx, h7.gt hx4, K7.2.2.2.2.1] at q
    refine c_Mcopy hst h7 hx4 (fun v m27 hv f1 f2 f3 h27 => ?_)
    have hcv : (nI v).toNatClampNeg = v := nI_clamp (by omega)
    have hcmx := h27.cm hx4
    have ecm : (cpS S7 x v).cm = S7.cm := cp_cm
    refine ⟨h27.w.k0, R 11, h27.w.r11, 4096, h27.w.k11, vp_in_nI hx4 (by omega), vp_in_nI hv (by omega), fun m36 hm36 => ?_⟩
    rw [hcx, hcv, hcmx.1, ecm] at hm36
    rw [ecm] at hcmx
    have h36 := h27.sCm hv hcmx.2
    rw [← hm36, ecm] at h36
    have hh36 := h36.hh
    have eh : ((cpS S7 x v).scm (up S7.cm v (S7.cm x))).h = S.h := by rw [RS.h_scm, cp_h, K7.2.2.2.2.2]
    rw [eh] at hh36
    obtain ⟨b1, b2, b3, b4⟩ := hh36
    refine ⟨R 21, h27.w.r21, 300, h27.w.k21, ?_, fun m42 hm42 m43 hm43 => ?_⟩
    · rw [b1]
      exact vp_in_nI (by omega) (by omega)
    rw [b1, nI_clamp (by omega)] at hm42
    have h42 := h36.s21 (j := S.h.length) hv
    rw [← hm42] at h42
    have e42 : gI m42 (R 0) 20 = nI S.h.length := by
      rw [h42.hh.1, RS.h_sh, List.length_set, eh]
    rw [e42, nI_1, show S.h.length + 1 = (S.h ++ [v]).length by simp] at hm43
    have h43 := h42.sH (S.h ++ [v]) (by simp; omega) (fun t y ht => by
      rw [hm42]
      by_cases r : t = S.h.length
      · subst r
        simp at ht
        subst ht
        simp [gI, mI]
      · have htl := (List.getElem?_eq_some_iff.mp ht).1
        simp at htl
        rw [List.getElem?_append_left (by omega)] at ht
        simp only [gI, mI, r, and_false, if_false]
        exact b3 t y ht) (fun y hy => by
      rcases List.mem_append.mp hy with r | r
      · exact b4 y r
      · simp at r
        rw [r]
        exact hv)
    rw [← hm43] at h43
    have fr : ∀ p, p < 97 → v ∉ S.P p := fun p hp => by rw [← eP7]; exact f1 p hp
    have f3' : v ∉ S.h := by
      have := K7.2.2.2.2.2
      rw [← this]
      exact f3
    have u : ∀ {α : Type} (f : Nat → α) (z : α) (y : Nat), y ≠ v → up f v z y = f y := fun f z y hy => by simp [up, hy]
    generalize hS9 : (((cpS S7 x v).scm (up S7.cm v (S7.cm x))).sh (((cpS S7 x v).scm (up S7.cm v (S7.cm x))).h.set S.h.length v)).sh (S.h ++ [v]) = S9 at h43
    have k9 : S9.k = up S.k v (S.k x) := by rw [← hS9, RS.k_sh, RS.k_sh, RS.k_scm, cp_k, K7.1]
    have l9 : S9.l = up S.l v (S.l x) := by rw [← hS9, RS.l_sh, RS.l_sh, RS.l_scm, cp_l, K7.2.1]
    have v9 : S9.v = up S.v v (S.v x) := by rw [← hS9, RS.v_sh, RS.v_sh, RS.v_scm, cp_v, K7.2.2.1]
    have cm9 : S9.cm = up S.cm v (S.cm x) := by rw [← hS9, RS.cm_sh, RS.cm_sh, RS.cm_scm, K7.2.2.2.1]
    have gt9 : S9.gt = up S.gt v 0 := by rw [← hS9, RS.gt_sh, RS.gt_sh, RS.gt_scm, cp_gt, K7.2.2.2.2.1]
    have P9 : S9.P = S.P := by rw [← hS9, RS.P_sh, RS.P_sh, RS.P_scm, cp_P, eP7]
    have h9 : S9.h = S.h ++ [v] := by rw [← hS9, RS.h_sh]
    have hAf : RA S9 (mA A.Z (A.Y.filter (fun y => !(sN y.k == s))) A.w A.c A.t) (ix.filter (fun n => !(sN (S.k n) == s))) pn := by
      refine hA7.same (by rw [P9, eP7]) (fun p hp y hy => ?_) (by rw [← hS9, RS.w_sh, RS.w_sh, RS.w_scm, cp_w]) (by rw [← hS9, RS.t_sh, RS.t_sh, RS.t_scm, cp_t]) (by rw [← hS9, RS.c_sh, RS.c_sh, RS.c_scm, cp_c])
      have hne : y ≠ v := fun r => f1 p hp (r ▸ hy)
      refine ⟨?_, ?_, ?_, ?_, ?_, ?_, ?_⟩
      · rw [k9, u _ _ y hne, K7.1]
      · rw [l9, u _ _ y hne, K7.2.1]
      · rw [v9, u _ _ y hne, K7.2.2.1]
      · rw [← hS9, RS.mk_sh, RS.mk_sh, RS.mk_scm, cp_mk, u _ _ y hne]
      · rw [gt9, u _ _ y hne, K7.2.2.2.2.1]
      · rw [cm9, u _ _ y hne, K7.2.2.2.1]
      · rw [← hS9, RS.nw_sh, RS.nw_sh, RS.nw_scm, cp_nw, u _ _ y hne]
    have hne : ∀ n ∈ S.h, n ≠ v := fun n hn' r => f3' (r ▸ hn')
    refine h1 q S9 v m43 h43 hAf h9 (fun n hn' => ?_) f3' P9 fr (by rw [k9, up_same]) (by rw [l9, up_same]) (by rw [v9, up_same]) (by rw [cm9, up_same]) ⟨?_, fun n hn' => ?_⟩
    · rw [k9, l9, v9, cm9, u _ _ n (hne n hn'), u _ _ n (hne n hn'), u _ _ n (hne n hn'), u _ _ n (hne n hn')]
      exact ⟨rfl, rfl, rfl, rfl⟩
    · unfold lgs
      rw [P9]
    · obtain ⟨q, -, q2, q3⟩ := lgs_mem.mp hn'
      have hnv : n ≠ v := fun r => fr q q2 (r ▸ q3)
      rw [k9, l9, v9, cm9, gt9, u _ _ n hnv, u _ _ n hnv, u _ _ n hnv, u _ _ n hnv, u _ _ n hnv]
      exact ⟨rfl, rfl, rfl, rfl, rfl⟩
end L3D
