set_option maxRecDepth 100000 in
set_option maxHeartbeats 4000000 in
theorem bC_init {l : Launch} {G : xG} {m : XM} {Q : XR → XM → Prop} {a0 : Nat} (hst : l.stackTraces = false)
    (h : ∃ bc1 bs2, 268 = bc1 + 1 ∧ 2326 = bs2 + 8 ∧ ∀ a5, kd m a5 = none → ∀ m7, m7 = mN m a5 (aR 0 8) → kd m7 a0 = some (oB 4) ∧ ∀ m10, m10 = mR m7 a0 0 (some a5) → ∃ bc11 bs12, bc1 = bc11 + 129 ∧ bs2 = bs12 + 832 ∧ CC l G xC_newPages [vI (64 : Int32)] m10 (kR (fun v16 m15 => kd m15 a0 = some (oB 4) ∧ ∀ m18, m18 = mR m15 a0 1 v16 → ∃ bc19 bs20, bc11 = bc19 + 1 ∧ bs12 = bs20 + 4 ∧ ∀ a23, kd m15 a23 = none → ∀ m25, m25 = mN m18 a23 (oB 2) → ∃ bc28 bs29, bc19 = bc28 + 134 ∧ bs20 = bs29 + 1175 ∧ CC l G xG_init [vR (some a23)] m25 (kN (fun m32 => kd m32 a0 = some (oB 4) ∧ ∀ m34, m34 = mR m32 a0 2 (some a23) → ∃ bc35 bs36, bc28 = bc35 + 1 ∧ bs29 = bs36 + 11 ∧ ∀ a39, kd m32 a39 = none → ∀ m41, m41 = mN m34 a39 (aR 0 11) → ∀ m44, m44 = mR m41 a0 3 (some a39) → ∃ bc45 bs46, bc35 = bc45 + 1 ∧ bs36 = bs46 + 264 ∧ ∀ a49, kd m41 a49 = none → ∀ m51, m51 = mN m44 a49 (aR 3 264) → ∀ m55, m55 = mR m51 a0 4 (some a49) → ∃ bc56 bs57, bc45 = bc56 + 1 ∧ bs46 = bs57 + 32 ∧ ∀ a60, kd m51 a60 = none → ∀ m62, m62 = mN m55 a60 (aR 3 32) → ∀ m67, m67 = mR m62 a0 5 (some a60) → ∀ m68, m68 = mR m67 a0 6 none → ∀ m69, m69 = mI m68 a0 7 (1 : Int32) → Q (.inl none) m69))) Q)) :
    CC l G xC_init [vR (some a0)] m Q := by
  refine x_entry (by decide +kernel) rfl hst (Nat.le_of_ble_eq_true rfl) (L0 := [some (vR (some a0))]) rfl ?_
  refine x_aload_n dC_init_0 rfl (n := 1) rfl ?_
  refine x_objInit dC_init_1 w_57 w_58 w_59 (by decide) (by decide) (n := 4) rfl ?_
  refine x_aload_n dC_init_4 rfl (n := 5) rfl ?_
  refine x_bipush (v := 8) dC_init_5 (by decide) (n := 7) rfl ?_
  obtain ⟨bc1, bs2, b3, b4, h⟩ := h
  refine x_newa (atype := .int) (t := 0) (N := 8) dC_init_7 w_87 (by decide) (by decide) (by decide) (n := 9) rfl (by decide) b3 b4 fun a5 f6 => ?_
  replace h := h a5 f6 _ rfl
  have k8 := kdNs m a5 (aR 0 8)
  obtain ⟨k9, h⟩ := h
  replace h := h _ rfl
  refine x_putR rfl dC_init_9 pC_9 k9 (fun o => by cases o <;> rfl) (fun o => by cases o <;> rfl) (n := 12) rfl ?_
  refine x_aload_n dC_init_12 rfl (n := 13) rfl ?_
  refine x_bipush (v := 64) dC_init_13 (by decide) (n := 15) rfl ?_
  obtain ⟨bc11, bs12, b13, b14, h⟩ := h
  refine x_invS (m := (mR (mN m a5 (aR 0 8)) a0 0 (some a5))) dC_init_15 gC_init_15 (as := [vI (64 : Int32)]) (st := [vR (some a0)]) rfl rfl (Nat.le_of_ble_eq_true rfl) (n := 18) rfl b13 b14 h (xBk.R fun v16 m15 h => ?_)
  obtain ⟨k17, h⟩ := h
  replace h := h _ rfl
  refine x_putR rfl dC_init_18 pC_17 k17 (fun o => by cases o <;> rfl) (fun o => by cases o <;> rfl) (n := 21) rfl ?_
  refine x_aload_n dC_init_21 rfl (n := 22) rfl ?_
  obtain ⟨bc19, bs20, b21, b22, h⟩ := h
  refine x_new dC_init_22 nC_21 (n := 25) rfl b21 b22 fun a23 f24 => ?_
  replace h := h a23 f24 _ rfl
  have k26 := kdN (k := oB 2) f24 k17
  have k27 := kdNs (mR m15 a0 1 v16) a23 (oB 2)
  refine x_dup dC_init_25 rfl (n := 26) rfl ?_
  obtain ⟨bc28, bs29, b30, b31, h⟩ := h
  refine x_invIN (m := (mN (mR m15 a0 1 v16) a23 (oB 2))) dC_init_26 gC_init_26 (as := []) (st := [vR (some a23), vR (some a0)]) rfl rfl (Nat.le_of_ble_eq_true rfl) (n := 29) rfl b30 b31 h kN.no (xBk.N fun m32 h => ?_)
  obtain ⟨k33, h⟩ := h
  replace h := h _ rfl
  refine x_putR rfl dC_init_29 pC_24 k33 (fun o => by cases o <;> rfl) (fun o => by cases o <;> rfl) (n := 32) rfl ?_
  refine x_aload_n dC_init_32 rfl (n := 33) rfl ?_
  refine x_bipush (v := 11) dC_init_33 (by decide) (n := 35) rfl ?_
  obtain ⟨bc35, bs36, b37, b38, h⟩ := h
  refine x_newa (atype := .int) (t := 0) (N := 11) dC_init_35 w_87 (by decide) (by decide) (by decide) (n := 37) rfl (by decide) b37 b38 fun a39 f40 => ?_
  replace h := h a39 f40 _ rfl
  have k42 := kdN (k := aR 0 11) f40 k33
  have k43 := kdNs (mR m32 a0 2 (some a23)) a39 (aR 0 11)
  replace h := h _ rfl
  refine x_putR rfl dC_init_37 pC_28 k42 (fun o => by cases o <;> rfl) (fun o => by cases o <;> rfl) (n := 40) rfl ?_
  refine x_aload_n dC_init_40 rfl (n := 41) rfl ?_
  refine x_sipush (v := 264) dC_init_41 (by decide) (n := 44) rfl ?_
  obtain ⟨bc45, bs46, b47, b48, h⟩ := h
  refine x_anew (t := 3) (N := 264) dC_init_44 w_131 (by decide) (by decide) (by decide) (by decide) (n := 47) rfl (by decide) b47 b48 fun a49 f50 => ?_
  replace h := h a49 f50 _ rfl
  have k52 := kdN (k := aR 3 264) f50 k42
  have k53 := kdN (k := aR 3 264) f50 k43
  have k54 := kdNs (mR (mN (mR m32 a0 2 (some a23)) a39 (aR 0 11)) a0 3 (some a39)) a49 (aR 3 264)
  replace h := h _ rfl
  refine x_putR rfl dC_init_47 pC_33 k52 (fun o => by cases o <;> rfl) (fun o => by cases o <;> rfl) (n := 50) rfl ?_
  refine x_aload_n dC_init_50 rfl (n := 51) rfl ?_
  refine x_bipush (v := 32) dC_init_51 (by decide) (n := 53) rfl ?_
  obtain ⟨bc56, bs57, b58, b59, h⟩ := h
  refine x_anew (t := 3) (N := 32) dC_init_53 w_131 (by decide) (by decide) (by decide) (by decide) (n := 56) rfl (by decide) b58 b59 fun a60 f61 => ?_
  replace h := h a60 f61 _ rfl
  have k63 := kdN (k := aR 3 32) f61 k52
  have k64 := kdN (k := aR 3 32) f61 k53
  have k65 := kdN (k := aR 3 32) f61 k54
  have k66 := kdNs (mR (mN (mR (mN (mR m32 a0 2 (some a23)) a39 (aR 0 11)) a0 3 (some a39)) a49 (aR 3 264)) a0 4 (some a49)) a60 (aR 3 32)
  replace h := h _ rfl
  refine x_putR rfl dC_init_56 pC_37 k63 (fun o => by cases o <;> rfl) (fun o => by cases o <;> rfl) (n := 59) rfl ?_
  refine x_aload_n dC_init_59 rfl (n := 60) rfl ?_
  refine x_null dC_init_60 (n := 61) rfl ?_
  replace h := h _ rfl
  refine x_putR rfl dC_init_61 pC_40 k63 (fun o => by cases o <;> rfl) (fun o => by cases o <;> rfl) (n := 64) rfl ?_
  refine x_aload_n dC_init_64 rfl (n := 65) rfl ?_
  refine x_iconst (v := 1) dC_init_65 (by decide) (n := 66) rfl ?_
  replace h := h _ rfl
  refine x_putI rfl dC_init_66 pC_44 k63 (by decide) (by decide) (n := 69) rfl ?_
  exact x_vret dC_init_69 rfl h
set_option maxRecDepth 100000 in
set_option maxHeartbeats 4000000 in
theorem bC_newPages_7 {l : Launch} {G : xG} {m : XM} {bc bs : Nat} {Q : XR → XM → Prop} {x0 : Int32} {o1 : Option Nat} {x2 : Int32}
    (h : ((x0 ≤ x2 → Q (.inl (some (vR o1))) m) ∧ (¬ x0 ≤ x2 → ∃ bc1 bs2, bc = bc1 + 1 ∧ bs = bs2 + 4 ∧ ∀ a5, kd m a5 = none → ∀ m7, m7 = mN m a5 (oB 3) → ∃ bc9 bs10, bc1 = bc9 + 1 ∧ bs2 = bs10 + 8 ∧ CC l G xP_init [vR (some a5)] m7 (kN (fun m13 => ∃ a14, o1 = some a14 ∧ ∃ n17, kd m13 a14 = some (aR 4 n17) ∧ vp_in x2 n17 ∧ kd m13 a5 = some (oB 3) ∧ ∀ m20, m20 = mR m13 a14 x2.toNatClampNeg (some a5) → WW l G xC_newPages 7 [some (vI x0), some (vR o1), some (vI (x2 + 1))] [] m20 bc9 bs10 Q))))) :
    WW l G xC_newPages 7 [some (vI x0), some (vR o1), some (vI x2)] [] m bc bs Q := by
  refine x_iload_n dC_newPages_7 rfl (n := 8) rfl ?_
  refine x_iload_n dC_newPages_8 rfl (n := 9) rfl ?_
  obtain ⟨h, h'⟩ := h
  refine x_icmp_ge (tgt := 28) dC_newPages_9 rfl (n := 12) rfl (fun c21 => ?_) (fun c21 => ?_)
  · replace h := h c21
    refine x_aload_n dC_newPages_28 rfl (n := 29) rfl ?_
    exact x_aret dC_newPages_29 rfl (Or.inr ⟨_, rfl⟩) h
  · replace h := h' c21
    refine x_aload_n dC_newPages_12 rfl (n := 13) rfl ?_
    refine x_iload_n dC_newPages_13 rfl (n := 14) rfl ?_
    obtain ⟨bc1, bs2, b3, b4, h⟩ := h
    refine x_new dC_newPages_14 nC_116 (n := 17) rfl b3 b4 fun a5 f6 => ?_
    replace h := h a5 f6 _ rfl
    have k8 := kdNs m a5 (oB 3)
    refine x_dup dC_newPages_17 rfl (n := 18) rfl ?_
    obtain ⟨bc9, bs10, b11, b12, h⟩ := h
    refine x_invIN (m := (mN m a5 (oB 3))) dC_newPages_18 gC_newPages_18 (as := []) (st := [vR (some a5), vI x2, vR o1]) rfl rfl (Nat.le_of_ble_eq_true rfl) (n := 21) rfl b11 b12 h kN.no (xBk.N fun m13 h => ?_)
    obtain ⟨a14, e15, h⟩ := h
    obtain ⟨n17, k16, h⟩ := h
    obtain ⟨c18, h⟩ := h
    obtain ⟨k19, h⟩ := h
    replace h := h _ rfl
    refine x_aast e15 rfl dC_newPages_21 k16 (by decide) k19 c18 (n := 22) rfl ?_
    refine x_iinc (v := x2 + 1) dC_newPages_22 rfl rfl (by decide) (L' := [some (vI x0), some (vR o1), some (vI (x2 + 1))]) rfl (n := 25) rfl ?_
    refine x_goto (tgt := 7) dC_newPages_25 rfl ?_
    exact h
set_option maxRecDepth 100000 in
set_option maxHeartbeats 4000000 in
theorem bC_newPages {l : Launch} {G : xG} {m : XM} {Q : XR → XM → Prop} {x0 : Int32} (hst : l.stackTraces = false)
    (h : ¬ x0 < 0 ∧ x0.toNatClampNeg ≤ 1000000 ∧ ∃ bc1 bs2, 129 = bc1 + 1 ∧ 832 = bs2 + (x0).toNatClampNeg ∧ ∀ a7, kd m a7 = none → ∀ m9, m9 = mN m a7 (aR 4 ((x0).toNatClampNeg)) → WW l G xC_newPages 7 [some (vI x0), some (vR (some a7)), some (vI (0 : Int32))] [] m9 bc1 bs2 Q) :
    CC l G xC_newPages [vI x0] m Q := by
  refine x_entry (by decide +kernel) rfl hst (Nat.le_of_ble_eq_true rfl) (L0 := [some (vI x0), none, none]) rfl ?_
  refine x_iload_n dC_newPages_0 rfl (n := 1) rfl ?_
  obtain ⟨c5, h⟩ := h
  obtain ⟨c6, h⟩ := h
  obtain ⟨bc1, bs2, b3, b4, h⟩ := h
  refine x_anew (t := 4) (N := (x0).toNatClampNeg) dC_newPages_1 w_63 (by decide) (by decide) c5 c6 (n := 4) rfl rfl b3 b4 fun a7 f8 => ?_
  replace h := h a7 f8 _ rfl
  have k10 := kdNs m a7 (aR 4 ((x0).toNatClampNeg))
  refine x_astore_n dC_newPages_4 (by decide) (L' := [some (vI x0), some (vR (some a7)), none]) rfl (n := 5) rfl ?_
  refine x_iconst (v := 0) dC_newPages_5 (by decide) (n := 6) rfl ?_
  refine x_istore_n dC_newPages_6 (by decide) (L' := [some (vI x0), some (vR (some a7)), some (vI (0 : Int32))]) rfl (n := 7) rfl ?_
  exact h
set_option maxRecDepth 100000 in
set_option maxHeartbeats 4000000 in
theorem bC_setOf {l : Launch} {G : xG} {m : XM} {Q : XR → XM → Prop} {a0 : Nat} {x1 : Int64} (hst : l.stackTraces = false)
    (h : CC l G xC_mix [vL x1] m (kL (fun v2 m1 => CC l G xC_setNumber [vL v2] m1 (kI (fun v4 m3 => Q (.inl (some (vI v4))) m3) Q)) Q)) :
    CC l G xC_setOf [vR (some a0), vL x1] m Q := by
  refine x_entry (by decide +kernel) rfl hst (Nat.le_of_ble_eq_true rfl) (L0 := [some (vR (some a0)), some (vL x1), none]) rfl ?_
  refine x_lload_n dC_setOf_0 rfl (n := 1) rfl ?_
  refine x_invS (m := m) dC_setOf_1 gC_setOf_1 (as := [vL x1]) (st := []) rfl rfl (Nat.le_of_ble_eq_true rfl) (n := 4) rfl rfl rfl h (xBk.J fun v2 m1 h => ?_)
  refine x_invS (m := m1) dC_setOf_4 gC_setOf_4 (as := [vL v2]) (st := []) rfl rfl (Nat.le_of_ble_eq_true rfl) (n := 7) rfl rfl rfl h (xBk.I fun v4 m3 h => ?_)
  exact x_iret dC_setOf_7 rfl h
set_option maxRecDepth 100000 in
set_option maxHeartbeats 4000000 in
theorem bC_mix {l : Launch} {G : xG} {m : XM} {Q : XR → XM → Prop} {x0 : Int64} (hst : l.stackTraces = false)
    (h : Q (.inl (some (vL (((((x0 ^^^ (jushr x0 (30 : Int32))) * (-4658895280553007687 : Int64)) ^^^ (jushr ((x0 ^^^ (jushr x0 (30 : Int32))) * (-4658895280553007687 : Int64)) (27 : Int32))) * (-7723592293110705685 : Int64)) ^^^ (jushr ((((x0 ^^^ (jushr x0 (30 : Int32))) * (-4658895280553007687 : Int64)) ^^^ (jushr ((x0 ^^^ (jushr x0 (30 : Int32))) * (-4658895280553007687 : Int64)) (27 : Int32))) * (-7723592293110705685 : Int64)) (31 : Int32)))))) m) :
    CC l G xC_mix [vL x0] m Q := by
  refine x_entry (by decide +kernel) rfl hst (Nat.le_of_ble_eq_true rfl) (L0 := [some (vL x0), none, none, none]) rfl ?_
  refine x_lload_n dC_mix_0 rfl (n := 1) rfl ?_
  refine x_lload_n dC_mix_1 rfl (n := 2) rfl ?_
  refine x_bipush (v := 30) dC_mix_2 (by decide) (n := 4) rfl ?_
  refine x_lushr dC_mix_4 (n := 5) rfl ?_
  refine x_lxor dC_mix_5 (n := 6) rfl ?_
  refine x_ldc2 (v := -4658895280553007687) dC_mix_6 w_164 (n := 9) rfl ?_
  refine x_lmul dC_mix_9 (n := 10) rfl ?_
  refine x_lstore_n dC_mix_10 (by decide) (L' := [some (vL x0), none, some (vL ((x0 ^^^ (jushr x0 (30 : Int32))) * (-4658895280553007687 : Int64))), none]) rfl (n := 11) rfl ?_
  refine x_lload_n dC_mix_11 rfl (n := 12) rfl ?_
  refine x_lload_n dC_mix_12 rfl (n := 13) rfl ?_
  refine x_bipush (v := 27) dC_mix_13 (by decide) (n := 15) rfl ?_
  refine x_lushr dC_mix_15 (n := 16) rfl ?_
  refine x_lxor dC_mix_16 (n := 17) rfl ?_
  refine x_ldc2 (v := -7723592293110705685) dC_mix_17 w_165 (n := 20) rfl ?_
  refine x_lmul dC_mix_20 (n := 21) rfl ?_
  refine x_lstore_n dC_mix_21 (by decide) (L' := [some (vL x0), none, some (vL ((((x0 ^^^ (jushr x0 (30 : Int32))) * (-4658895280553007687 : Int64)) ^^^ (jushr ((x0 ^^^ (jushr x0 (30 : Int32))) * (-4658895280553007687 : Int64)) (27 : Int32))) * (-7723592293110705685 : Int64))), none]) rfl (n := 22) rfl ?_
  refine x_lload_n dC_mix_22 rfl (n := 23) rfl ?_
  refine x_lload_n dC_mix_23 rfl (n := 24) rfl ?_
  refine x_bipush (v := 31) dC_mix_24 (by decide) (n := 26) rfl ?_
  refine x_lushr dC_mix_26 (n := 27) rfl ?_
  refine x_lxor dC_mix_27 (n := 28) rfl ?_
  exact x_lret dC_mix_28 rfl h
set_option maxRecDepth 100000 in
set_option maxHeartbeats 4000000 in
theorem bC_setNumber {l : Launch} {G : xG} {m : XM} {Q : XR → XM → Prop} {x0 : Int64} (hst : l.stackTraces = false)
    (h : Q (.inl (some (vI ((jushr x0 (58 : Int32)).toInt32)))) m) :
    CC l G xC_setNumber [vL x0] m Q := by
  refine x_entry (by decide +kernel) rfl hst (Nat.le_of_ble_eq_true rfl) (L0 := [some (vL x0), none]) rfl ?_
  refine x_lload_n dC_setNumber_0 rfl (n := 1) rfl ?_
  refine x_bipush (v := 58) dC_setNumber_1 (by decide) (n := 3) rfl ?_
  refine x_lushr dC_setNumber_3 (n := 4) rfl ?_
  refine x_l2i dC_setNumber_4 (n := 5) rfl ?_
  exact x_iret dC_setNumber_5 rfl h
set_option maxRecDepth 100000 in
set_option maxHeartbeats 4000000 in
theorem bC_count {l : Launch} {G : xG} {m : XM} {Q : XR → XM → Prop} {a0 : Nat} {x1 : Int32} (hst : l.stackTraces = false)
    (h : ((x1 < 0 → Q (.inl (some (vI (-1 : Int32)))) m) ∧ (¬ x1 < 0 → ((x1 ≤ (12 : Int32) → ((¬ x1 = 0 → ((¬ x1 = (11 : Int32) → ((¬ x1 = (12 : Int32) → kd m a0 = some (oB 4) ∧ ∃ a2, gR m a0 3 = some a2 ∧ ∃ n5, kd m a2 = some (aR 0 n5) ∧ vp_in x1 n5 ∧ Q (.inl (some (vI (gI m a2 x1.toNatClampNeg)))) m) ∧ (x1 = (12 : Int32) → kd m a0 = some (oB 4) ∧ ∃ a8, gR m a0 2 = some a8 ∧ kd m a8 = some (oB 2) ∧ ∃ a11, gR m a8 2 = some a11 ∧ kd m a11 = some (oB 3) ∧ Q (.inl (some (vI (gI m a11 2)))) m))) ∧ (x1 = (11 : Int32) → kd m a0 = some (oB 4) ∧ ∃ a16, gR m a0 2 = some a16 ∧ kd m a16 = some (oB 2) ∧ ∃ a19, gR m a16 1 = some a19 ∧ kd m a19 = some (oB 0) ∧ Q (.inl (some (vI (gI m a19 2)))) m))) ∧ (x1 = 0 → kd m a0 = some (oB 4) ∧ ∃ a24, gR m a0 2 = some a24 ∧ kd m a24 = some (oB 2) ∧ CC l G xG_fullSegments [vR (some a24)] m (kI (fun v28 m27 => Q (.inl (some (vI v28))) m27) Q)))) ∧ (¬ x1 ≤ (12 : Int32) → Q (.inl (some (vI (-1 : Int32)))) m))))) :
    CC l G xC_count [vR (some a0), vI x1] m Q := by
  refine x_entry (by decide +kernel) rfl hst (Nat.le_of_ble_eq_true rfl) (L0 := [some (vR (some a0)), some (vI x1)]) rfl ?_
  refine x_iload_n dC_count_0 rfl (n := 1) rfl ?_
  obtain ⟨h, h'⟩ := h
  refine x_if_lt (tgt := 10) dC_count_1 rfl (n := 4) rfl (fun c31 => ?_) (fun c31 => ?_)
  · replace h := h c31
    refine x_iconst (v := -1) dC_count_10 (by decide) (n := 11) rfl ?_
    exact x_iret dC_count_11 rfl h
  · replace h := h' c31
    refine x_iload_n dC_count_4 rfl (n := 5) rfl ?_
    refine x_bipush (v := 12) dC_count_5 (by decide) (n := 7) rfl ?_
    obtain ⟨h, h'⟩ := h
    refine x_icmp_le (tgt := 12) dC_count_7 rfl (n := 10) rfl (fun c30 => ?_) (fun c30 => ?_)
    · replace h := h c30
      refine x_iload_n dC_count_12 rfl (n := 13) rfl ?_
      obtain ⟨h, h'⟩ := h
      refine x_if_ne (tgt := 24) dC_count_13 rfl (n := 16) rfl (fun c29 => ?_) (fun c29 => ?_)
      · replace h := h c29
        refine x_iload_n dC_count_24 rfl (n := 25) rfl ?_
        refine x_bipush (v := 11) dC_count_25 (by decide) (n := 27) rfl ?_
        obtain ⟨h, h'⟩ := h
        refine x_icmp_ne (tgt := 41) dC_count_27 rfl (n := 30) rfl (fun c22 => ?_) (fun c22 => ?_)
        · replace h := h c22
          refine x_iload_n dC_count_41 rfl (n := 42) rfl ?_
          refine x_bipush (v := 12) dC_count_42 (by decide) (n := 44) rfl ?_
          obtain ⟨h, h'⟩ := h
          refine x_icmp_ne (tgt := 60) dC_count_44 rfl (n := 47) rfl (fun c14 => ?_) (fun c14 => ?_)
          · replace h := h c14
            refine x_aload_n dC_count_60 rfl (n := 61) rfl ?_
            obtain ⟨k1, h⟩ := h
            refine x_getR rfl dC_count_61 fC_28 k1 (n := 64) rfl ?_
            refine x_iload_n dC_count_64 rfl (n := 65) rfl ?_
            obtain ⟨a2, e3, h⟩ := h
            obtain ⟨n5, k4, h⟩ := h
            obtain ⟨c6, h⟩ := h
            refine x_iald e3 dC_count_65 k4 c6 (n := 66) rfl ?_
            exact x_iret dC_count_66 rfl h
          · replace h := h' c14
            refine x_aload_n dC_count_47 rfl (n := 48) rfl ?_
            obtain ⟨k7, h⟩ := h
            refine x_getR rfl dC_count_48 fC_24 k7 (n := 51) rfl ?_
            obtain ⟨a8, e9, h⟩ := h
            obtain ⟨k10, h⟩ := h
            refine x_getR e9 dC_count_51 fC_144 k10 (n := 54) rfl ?_
            obtain ⟨a11, e12, h⟩ := h
            obtain ⟨k13, h⟩ := h
            refine x_getI e12 dC_count_54 fC_148 k13 (n := 57) rfl ?_
            refine x_goto (tgt := 66) dC_count_57 rfl ?_
            exact x_iret dC_count_66 rfl h
        · replace h := h' c22
          refine x_aload_n dC_count_30 rfl (n := 31) rfl ?_
          obtain ⟨k15, h⟩ := h
          refine x_getR rfl dC_count_31 fC_24 k15 (n := 34) rfl ?_
          obtain ⟨a16, e17, h⟩ := h
          obtain ⟨k18, h⟩ := h
          refine x_getR e17 dC_count_34 fC_77 k18 (n := 37) rfl ?_
          obtain ⟨a19, e20, h⟩ := h
          obtain ⟨k21, h⟩ := h
          refine x_getI e20 dC_count_37 fC_136 k21 (n := 40) rfl ?_
          exact x_iret dC_count_40 rfl h
      · replace h := h' c29
        refine x_aload_n dC_count_16 rfl (n := 17) rfl ?_
        obtain ⟨k23, h⟩ := h
        refine x_getR rfl dC_count_17 fC_24 k23 (n := 20) rfl ?_
        obtain ⟨a24, e25, h⟩ := h
        obtain ⟨k26, h⟩ := h
        refine x_invV (m := m) e25 dC_count_20 gC_count_20 (as := []) (st := []) rfl rfl k26 rfl rfl (Nat.le_of_ble_eq_true rfl) (n := 23) rfl rfl rfl h (xBk.I fun v28 m27 h => ?_)
        exact x_iret dC_count_23 rfl h
    · replace h := h' c30
      refine x_iconst (v := -1) dC_count_10 (by decide) (n := 11) rfl ?_
      exact x_iret dC_count_11 rfl h
set_option maxRecDepth 100000 in
set_option maxHeartbeats 4000000 in
theorem bC_word {l : Launch} {G : xG} {m : XM} {Q : XR → XM → Prop} {a0 : Nat} {x1 : Int32} {x2 : Int32} (hst : l.stackTraces = false)
    (h : ((x1 < 0 → (1 ≤ 1 ∧ 6 ≤ 6 ∧ Q (.inr "java/lang/IndexOutOfBoundsException") m)) ∧ (¬ x1 < 0 → ((x1 < (8 : Int32) → kd m a0 = some (oB 4) ∧ ∃ a2, gR m a0 0 = some a2 ∧ ∃ n5, kd m a2 = some (aR 0 n5) ∧ vp_in x1 n5 ∧ vp_in x1 n5 ∧ ∀ m8, m8 = mI m a2 x1.toNatClampNeg x2 → Q (.inl (some (vI (gI m a2 x1.toNatClampNeg)))) m8) ∧ (¬ x1 < (8 : Int32) → (1 ≤ 1 ∧ 6 ≤ 6 ∧ Q (.inr "java/lang/IndexOutOfBoundsException") m)))))) :
    CC l G xC_word [vR (some a0), vI x1, vI x2] m Q := by
  refine x_entry (by decide +kernel) rfl hst (Nat.le_of_ble_eq_true rfl) (L0 := [some (vR (some a0)), some (vI x1), some (vI x2), none]) rfl ?_
  refine x_iload_n dC_word_0 rfl (n := 1) rfl ?_
  obtain ⟨h, h'⟩ := h
  refine x_if_lt (tgt := 10) dC_word_1 rfl (n := 4) rfl (fun c10 => ?_) (fun c10 => ?_)
  · replace h := h c10
    exact x_throw0 tC_word_10 dC_word_10 dC_word_13 dC_word_14 dC_word_17 h.1 h.2.1 h.2.2
  · replace h := h' c10
    refine x_iload_n dC_word_4 rfl (n := 5) rfl ?_
    refine x_bipush (v := 8) dC_word_5 (by decide) (n := 7) rfl ?_
    obtain ⟨h, h'⟩ := h
    refine x_icmp_lt (tgt := 18) dC_word_7 rfl (n := 10) rfl (fun c9 => ?_) (fun c9 => ?_)
    · replace h := h c9
      refine x_aload_n dC_word_18 rfl (n := 19) rfl ?_
      obtain ⟨k1, h⟩ := h
      refine x_getR rfl dC_word_19 fC_9 k1 (n := 22) rfl ?_
      refine x_iload_n dC_word_22 rfl (n := 23) rfl ?_
      obtain ⟨a2, e3, h⟩ := h
      obtain ⟨n5, k4, h⟩ := h
      obtain ⟨c6, h⟩ := h
      refine x_iald e3 dC_word_23 k4 c6 (n := 24) rfl ?_
      refine x_istore_n dC_word_24 (by decide) (L' := [some (vR (some a0)), some (vI x1), some (vI x2), some (vI (gI m a2 x1.toNatClampNeg))]) rfl (n := 25) rfl ?_
      refine x_aload_n dC_word_25 rfl (n := 26) rfl ?_
      refine x_getR rfl dC_word_26 fC_9 k1 (n := 29) rfl ?_
      refine x_iload_n dC_word_29 rfl (n := 30) rfl ?_
      refine x_iload_n dC_word_30 rfl (n := 31) rfl ?_
      obtain ⟨c7, h⟩ := h
      replace h := h _ rfl
      refine x_iast e3 dC_word_31 k4 c7 (n := 32) rfl ?_
      refine x_iload_n dC_word_32 rfl (n := 33) rfl ?_
      exact x_iret dC_word_33 rfl h
    · replace h := h' c9
      exact x_throw0 tC_word_10 dC_word_10 dC_word_13 dC_word_14 dC_word_17 h.1 h.2.1 h.2.2
set_option maxRecDepth 100000 in
set_option maxHeartbeats 4000000 in
theorem bC_put_44 {l : Launch} {G : xG} {m : XM} {bc bs : Nat} {Q : XR → XM → Prop} {a0 : Nat} {x1 : Int64} {x3 : Int32} {o4 : Option Nat} {x5 : Int32}
    (h : (((32 : Int32) ≤ x5 → kd m a0 = some (oB 4) ∧ ∃ a2, gR m a0 2 = some a2 ∧ kd m a2 = some (oB 2) ∧ CC l G xG_append [vR (some a2), vR o4] m (kV (fun m5 => Q (.inl none) m5) Q)) ∧ (¬ (32 : Int32) ≤ x5 → kd m a0 = some (oB 4) ∧ ∃ a7, gR m a0 2 = some a7 ∧ kd m a7 = some (oB 2) ∧ CC l G xG_hasRoomFor [vR (some a7), vR o4] m (kI (fun v11 m10 => ((¬ v11 = 0 → kd m10 a0 = some (oB 4) ∧ ∃ a13, gR m10 a0 2 = some a13 ∧ kd m10 a13 = some (oB 2) ∧ CC l G xG_append [vR (some a13), vR o4] m10 (kV (fun m16 => Q (.inl none) m16) Q)) ∧ (v11 = 0 → kd m10 a0 = some (oB 4) ∧ CC l G xC_writeOpenPage [vR (some a0)] m10 (kV (fun m18 => WW l G xC_put 44 [some (vR (some a0)), some (vL x1), none, some (vI x3), some (vR o4), some (vI (x5 + 1))] [] m18 bc bs Q) Q)))) Q)))) :
    WW l G xC_put 44 [some (vR (some a0)), some (vL x1), none, some (vI x3), some (vR o4), some (vI x5)] [] m bc bs Q := by
  refine x_iload dC_put_44 rfl (n := 46) rfl ?_
  refine x_bipush (v := 32) dC_put_46 (by decide) (n := 48) rfl ?_
  obtain ⟨h, h'⟩ := h
  refine x_icmp_ge (tgt := 73) dC_put_48 rfl (n := 51) rfl (fun c20 => ?_) (fun c20 => ?_)
  · replace h := h c20
    refine x_aload_n dC_put_73 rfl (n := 74) rfl ?_
    obtain ⟨k1, h⟩ := h
    refine x_getR rfl dC_put_74 fC_24 k1 (n := 77) rfl ?_
    refine x_aload dC_put_77 rfl (n := 79) rfl ?_
    obtain ⟨a2, e3, h⟩ := h
    obtain ⟨k4, h⟩ := h
    refine x_invV (m := m) e3 dC_put_79 gC_put_79 (as := [vR o4]) (st := []) rfl rfl k4 rfl rfl (Nat.le_of_ble_eq_true rfl) (n := 82) rfl rfl rfl h (xBk.V fun m5 h => ?_)
    exact x_vret dC_put_82 rfl h
  · replace h := h' c20
    refine x_aload_n dC_put_51 rfl (n := 52) rfl ?_
    obtain ⟨k6, h⟩ := h
    refine x_getR rfl dC_put_52 fC_24 k6 (n := 55) rfl ?_
    refine x_aload dC_put_55 rfl (n := 57) rfl ?_
    obtain ⟨a7, e8, h⟩ := h
    obtain ⟨k9, h⟩ := h
    refine x_invV (m := m) e8 dC_put_57 gC_put_57 (as := [vR o4]) (st := []) rfl rfl k9 rfl rfl (Nat.le_of_ble_eq_true rfl) (n := 60) rfl rfl rfl h (xBk.I fun v11 m10 h => ?_)
    obtain ⟨h, h'⟩ := h
    refine x_if_ne (tgt := 73) dC_put_60 rfl (n := 63) rfl (fun c19 => ?_) (fun c19 => ?_)
    · replace h := h c19
      refine x_aload_n dC_put_73 rfl (n := 74) rfl ?_
      obtain ⟨k12, h⟩ := h
      refine x_getR rfl dC_put_74 fC_24 k12 (n := 77) rfl ?_
      refine x_aload dC_put_77 rfl (n := 79) rfl ?_
      obtain ⟨a13, e14, h⟩ := h
      obtain ⟨k15, h⟩ := h
      refine x_invV (m := m10) e14 dC_put_79 gC_put_79 (as := [vR o4]) (st := []) rfl rfl k15 rfl rfl (Nat.le_of_ble_eq_true rfl) (n := 82) rfl rfl rfl h (xBk.V fun m16 h => ?_)
      exact x_vret dC_put_82 rfl h
    · replace h := h' c19
      refine x_aload_n dC_put_63 rfl (n := 64) rfl ?_
      obtain ⟨k17, h⟩ := h
      refine x_invV (m := m10) rfl dC_put_64 gC_put_64 (as := []) (st := []) rfl rfl k17 rfl rfl (Nat.le_of_ble_eq_true rfl) (n := 67) rfl rfl rfl h (xBk.V fun m18 h => ?_)
      refine x_iinc (v := x5 + 1) dC_put_67 rfl rfl (by decide) (L' := [some (vR (some a0)), some (vL x1), none, some (vI x3), some (vR o4), some (vI (x5 + 1))]) rfl (n := 70) rfl ?_
      refine x_goto (tgt := 44) dC_put_70 rfl ?_
      exact h
set_option maxRecDepth 100000 in
set_option maxHeartbeats 4000000 in
theorem bC_put {l : Launch} {G : xG} {m : XM} {Q : XR → XM → Prop} {a0 : Nat} {x1 : Int64} {x3 : Int32} (hst : l.stackTraces = false)
    (h : kd m a0 = some (oB 4) ∧ ∃ bc2 bs3, 4 = bc2 + 1 ∧ 26 = bs3 + 6 ∧ CC l G xC_refuseWhenClosed [vR (some a0)] m (kV (fun m6 => ((x3 < (1 : Int32) → (1 ≤ bc2 ∧ 6 ≤ bs3 ∧ Q (.inr "java/lang/IllegalArgumentException") m6)) ∧ (¬ x3 < (1 : Int32) → ((x3 ≤ (8 : Int32) → ∃ bc7 bs8, bc2 = bc7 + 1 ∧ bs3 = bs8 + 6 ∧ ∀ a11, kd m6 a11 = none → ∀ m13, m13 = mN m6 a11 (oB 1) → kd m13 a0 = some (oB 4) ∧ ∃ bc16 bs17, bc7 = bc16 + 1 ∧ bs8 = bs17 + 8 ∧ CC l G xJ_copyOf [vR (gR m13 a0 0), vI x3] m13 (kR (fun v21 m20 => CC l G xT_init [vR (some a11), vL x1, vR v21] m20 (kN (fun m22 => WW l G xC_put 44 [some (vR (some a0)), some (vL x1), none, some (vI x3), some (vR (some a11)), some (vI (0 : Int32))] [] m22 bc16 bs17 Q))) Q)) ∧ (¬ x3 ≤ (8 : Int32) → (1 ≤ bc2 ∧ 6 ≤ bs3 ∧ Q (.inr "java/lang/IllegalArgumentException") m6)))))) Q)) :
    CC l G xC_put [vR (some a0), vL x1, vI x3] m Q := by
  refine x_entry (by decide +kernel) rfl hst (Nat.le_of_ble_eq_true rfl) (L0 := [some (vR (some a0)), some (vL x1), none, some (vI x3), none, none]) rfl ?_
  refine x_aload_n dC_put_0 rfl (n := 1) rfl ?_
  obtain ⟨k1, h⟩ := h
  obtain ⟨bc2, bs3, b4, b5, h⟩ := h
  refine x_invV (m := m) rfl dC_put_1 gC_put_1 (as := []) (st := []) rfl rfl k1 rfl rfl (Nat.le_of_ble_eq_true rfl) (n := 4) rfl b4 b5 h (xBk.V fun m6 h => ?_)
  refine x_iload_n dC_put_4 rfl (n := 5) rfl ?_
  refine x_iconst (v := 1) dC_put_5 (by decide) (n := 6) rfl ?_
  obtain ⟨h, h'⟩ := h
  refine x_icmp_lt (tgt := 15) dC_put_6 rfl (n := 9) rfl (fun c24 => ?_) (fun c24 => ?_)
  · replace h := h c24
    exact x_throw0 tC_put_15 dC_put_15 dC_put_18 dC_put_19 dC_put_22 h.1 h.2.1 h.2.2
  · replace h := h' c24
    refine x_iload_n dC_put_9 rfl (n := 10) rfl ?_
    refine x_bipush (v := 8) dC_put_10 (by decide) (n := 12) rfl ?_
    obtain ⟨h, h'⟩ := h
    refine x_icmp_le (tgt := 23) dC_put_12 rfl (n := 15) rfl (fun c23 => ?_) (fun c23 => ?_)
    · replace h := h c23
      obtain ⟨bc7, bs8, b9, b10, h⟩ := h
      refine x_new dC_put_23 nC_31 (n := 26) rfl b9 b10 fun a11 f12 => ?_
      replace h := h a11 f12 _ rfl
      have k14 := kdNs m6 a11 (oB 1)
      refine x_dup dC_put_26 rfl (n := 27) rfl ?_
      refine x_lload_n dC_put_27 rfl (n := 28) rfl ?_
      refine x_aload_n dC_put_28 rfl (n := 29) rfl ?_
      obtain ⟨k15, h⟩ := h
      refine x_getR rfl dC_put_29 fC_9 k15 (n := 32) rfl ?_
      refine x_iload_n dC_put_32 rfl (n := 33) rfl ?_
      obtain ⟨bc16, bs17, b18, b19, h⟩ := h
      refine x_invS (m := (mN m6 a11 (oB 1))) dC_put_33 gC_put_33 (as := [vR (gR (mN m6 a11 (oB 1)) a0 0), vI x3]) (st := [vL x1, vR (some a11), vR (some a11)]) rfl rfl (Nat.le_of_ble_eq_true rfl) (n := 36) rfl b18 b19 h (xBk.R fun v21 m20 h => ?_)
      refine x_invI (m := m20) dC_put_36 gC_put_36 (as := [vL x1, vR v21]) (st := [vR (some a11)]) rfl rfl (Nat.le_of_ble_eq_true rfl) (n := 39) rfl rfl rfl h kN.no (xBk.N fun m22 h => ?_)
      refine x_astore dC_put_39 (by decide) (L' := [some (vR (some a0)), some (vL x1), none, some (vI x3), some (vR (some a11)), none]) rfl (n := 41) rfl ?_
      refine x_iconst (v := 0) dC_put_41 (by decide) (n := 42) rfl ?_
      refine x_istore dC_put_42 (by decide) (L' := [some (vR (some a0)), some (vL x1), none, some (vI x3), some (vR (some a11)), some (vI (0 : Int32))]) rfl (n := 44) rfl ?_
      exact h
    · replace h := h' c23
      exact x_throw0 tC_put_15 dC_put_15 dC_put_18 dC_put_19 dC_put_22 h.1 h.2.1 h.2.2
set_option maxRecDepth 100000 in
set_option maxHeartbeats 4000000 in
theorem bC_refuseWhenClosed {l : Launch} {G : xG} {m : XM} {Q : XR → XM → Prop} {a0 : Nat} (hst : l.stackTraces = false)
    (h : kd m a0 = some (oB 4) ∧ ((¬ (gI m a0 7) = 0 → Q (.inl none) m) ∧ ((gI m a0 7) = 0 → (1 ≤ 1 ∧ 6 ≤ 6 ∧ Q (.inr "java/lang/IllegalStateException") m)))) :
    CC l G xC_refuseWhenClosed [vR (some a0)] m Q := by
  refine x_entry (by decide +kernel) rfl hst (Nat.le_of_ble_eq_true rfl) (L0 := [some (vR (some a0))]) rfl ?_
  refine x_aload_n dC_refuseWhenClosed_0 rfl (n := 1) rfl ?_
  obtain ⟨k1, h⟩ := h
  refine x_getI rfl dC_refuseWhenClosed_1 fC_44 k1 (n := 4) rfl ?_
  obtain ⟨h, h'⟩ := h
  refine x_if_ne (tgt := 15) dC_refuseWhenClosed_4 rfl (n := 7) rfl (fun c2 => ?_) (fun c2 => ?_)
  · replace h := h c2
    exact x_vret dC_refuseWhenClosed_15 rfl h
  · replace h := h' c2
    exact x_throw0 tC_refuseWhenClosed_7 dC_refuseWhenClosed_7 dC_refuseWhenClosed_10 dC_refuseWhenClosed_11 dC_refuseWhenClosed_14 h.1 h.2.1 h.2.2
set_option maxRecDepth 100000 in
set_option maxHeartbeats 4000000 in
theorem bC_filterBit {l : Launch} {G : xG} {m : XM} {Q : XR → XM → Prop} {x0 : Int64} (hst : l.stackTraces = false)
    (h : Q (.inl (some (vL (jshl (1 : Int64) ((x0 &&& (63 : Int64)).toInt32))))) m) :
    CC l G xC_filterBit [vL x0] m Q := by
  refine x_entry (by decide +kernel) rfl hst (Nat.le_of_ble_eq_true rfl) (L0 := [some (vL x0), none]) rfl ?_
  refine x_lconst (v := 1) dC_filterBit_0 (by decide) (n := 1) rfl ?_
  refine x_lload_n dC_filterBit_1 rfl (n := 2) rfl ?_
  refine x_ldc2 (v := 63) dC_filterBit_2 w_317 (n := 5) rfl ?_
  refine x_land dC_filterBit_5 (n := 6) rfl ?_
  refine x_l2i dC_filterBit_6 (n := 7) rfl ?_
  refine x_lshl dC_filterBit_7 (n := 8) rfl ?_
  exact x_lret dC_filterBit_8 rfl h
set_option maxRecDepth 100000 in
set_option maxHeartbeats 4000000 in
theorem bC_writeOpenPage_28 {l : Launch} {G : xG} {m : XM} {bc bs : Nat} {Q : XR → XM → Prop} {a0 : Nat} {x1 : Int32} {x2 : Int32}
    (h : ((x1 ≤ x2 → kd m a0 = some (oB 4) ∧ ∃ a2, gR m a0 3 = some a2 ∧ ∃ n5, kd m a2 = some (aR 0 n5) ∧ vp_in (10 : Int32) n5 ∧ vp_in (10 : Int32) n5 ∧ ∀ m8, m8 = mI m a2 (10 : Int32).toNatClampNeg ((gI m a2 (10 : Int32).toNatClampNeg) + x1) → Q (.inl none) m8) ∧ (¬ x1 ≤ x2 → kd m a0 = some (oB 4) ∧ ∃ a10, gR m a0 5 = some a10 ∧ ∃ n13, kd m a10 = some (aR 3 n13) ∧ vp_in x2 n13 ∧ ∃ a15, gR m a0 2 = some a15 ∧ kd m a15 = some (oB 2) ∧ CC l G xG_hasRoomFor [vR (some a15), vR (gR m a10 x2.toNatClampNeg)] m (kI (fun v19 m18 => ((¬ v19 = 0 → WW l G xC_writeOpenPage 56 [some (vR (some a0)), some (vI x1), some (vI x2)] [] m18 bc bs Q) ∧ (v19 = 0 → kd m18 a0 = some (oB 4) ∧ ∃ a21, gR m18 a0 2 = some a21 ∧ kd m18 a21 = some (oB 2) ∧ CC l G xG_writeOut [vR (some a21)] m18 (kV (fun m24 => WW l G xC_writeOpenPage 56 [some (vR (some a0)), some (vI x1), some (vI x2)] [] m24 bc bs Q) Q)))) Q)))) :
    WW l G xC_writeOpenPage 28 [some (vR (some a0)), some (vI x1), some (vI x2)] [] m bc bs Q := by
  refine x_iload_n dC_writeOpenPage_28 rfl (n := 29) rfl ?_
  refine x_iload_n dC_writeOpenPage_29 rfl (n := 30) rfl ?_
  obtain ⟨h, h'⟩ := h
  refine x_icmp_ge (tgt := 75) dC_writeOpenPage_30 rfl (n := 33) rfl (fun c26 => ?_) (fun c26 => ?_)
  · replace h := h c26
    refine x_aload_n dC_writeOpenPage_75 rfl (n := 76) rfl ?_
    obtain ⟨k1, h⟩ := h
    refine x_getR rfl dC_writeOpenPage_76 fC_28 k1 (n := 79) rfl ?_
    refine x_bipush (v := 10) dC_writeOpenPage_79 (by decide) (n := 81) rfl ?_
    refine x_dup2 dC_writeOpenPage_81 rfl rfl (n := 82) rfl ?_
    obtain ⟨a2, e3, h⟩ := h
    obtain ⟨n5, k4, h⟩ := h
    obtain ⟨c6, h⟩ := h
    refine x_iald e3 dC_writeOpenPage_82 k4 c6 (n := 83) rfl ?_
    refine x_iload_n dC_writeOpenPage_83 rfl (n := 84) rfl ?_
    refine x_iadd dC_writeOpenPage_84 (n := 85) rfl ?_
    obtain ⟨c7, h⟩ := h
    replace h := h _ rfl
    refine x_iast e3 dC_writeOpenPage_85 k4 c7 (n := 86) rfl ?_
    exact x_vret dC_writeOpenPage_86 rfl h
  · replace h := h' c26
    refine x_aload_n dC_writeOpenPage_33 rfl (n := 34) rfl ?_
    obtain ⟨k9, h⟩ := h
    refine x_getR rfl dC_writeOpenPage_34 fC_24 k9 (n := 37) rfl ?_
    refine x_aload_n dC_writeOpenPage_37 rfl (n := 38) rfl ?_
    refine x_getR rfl dC_writeOpenPage_38 fC_37 k9 (n := 41) rfl ?_
    refine x_iload_n dC_writeOpenPage_41 rfl (n := 42) rfl ?_
    obtain ⟨a10, e11, h⟩ := h
    obtain ⟨n13, k12, h⟩ := h
    obtain ⟨c14, h⟩ := h
    refine x_aald e11 dC_writeOpenPage_42 k12 (by decide) c14 (n := 43) rfl ?_
    obtain ⟨a15, e16, h⟩ := h
    obtain ⟨k17, h⟩ := h
    refine x_invV (m := m) e16 dC_writeOpenPage_43 gC_writeOpenPage_43 (as := [vR (gR m a10 x2.toNatClampNeg)]) (st := []) rfl rfl k17 rfl rfl (Nat.le_of_ble_eq_true rfl) (n := 46) rfl rfl rfl h (xBk.I fun v19 m18 h => ?_)
    obtain ⟨h, h'⟩ := h
    refine x_if_ne (tgt := 56) dC_writeOpenPage_46 rfl (n := 49) rfl (fun c25 => ?_) (fun c25 => ?_)
    · replace h := h c25
      exact h
    · replace h := h' c25
      refine x_aload_n dC_writeOpenPage_49 rfl (n := 50) rfl ?_
      obtain ⟨k20, h⟩ := h
      refine x_getR rfl dC_writeOpenPage_50 fC_24 k20 (n := 53) rfl ?_
      obtain ⟨a21, e22, h⟩ := h
      obtain ⟨k23, h⟩ := h
      refine x_invV (m := m18) e22 dC_writeOpenPage_53 gC_writeOpenPage_53 (as := []) (st := []) rfl rfl k23 rfl rfl (Nat.le_of_ble_eq_true rfl) (n := 56) rfl rfl rfl h (xBk.V fun m24 h => ?_)
      exact h
set_option maxRecDepth 100000 in
set_option maxHeartbeats 4000000 in
theorem bC_writeOpenPage_56 {l : Launch} {G : xG} {m : XM} {bc bs : Nat} {Q : XR → XM → Prop} {a0 : Nat} {x1 : Int32} {x2 : Int32}
    (h : kd m a0 = some (oB 4) ∧ ∃ a2, gR m a0 5 = some a2 ∧ ∃ n5, kd m a2 = some (aR 3 n5) ∧ vp_in x2 n5 ∧ ∃ a7, gR m a0 2 = some a7 ∧ kd m a7 = some (oB 2) ∧ CC l G xG_append [vR (some a7), vR (gR m a2 x2.toNatClampNeg)] m (kV (fun m10 => WW l G xC_writeOpenPage 28 [some (vR (some a0)), some (vI x1), some (vI (x2 + 1))] [] m10 bc bs Q) Q)) :
    WW l G xC_writeOpenPage 56 [some (vR (some a0)), some (vI x1), some (vI x2)] [] m bc bs Q := by
  refine x_aload_n dC_writeOpenPage_56 rfl (n := 57) rfl ?_
  obtain ⟨k1, h⟩ := h
  refine x_getR rfl dC_writeOpenPage_57 fC_24 k1 (n := 60) rfl ?_
  refine x_aload_n dC_writeOpenPage_60 rfl (n := 61) rfl ?_
  refine x_getR rfl dC_writeOpenPage_61 fC_37 k1 (n := 64) rfl ?_
  refine x_iload_n dC_writeOpenPage_64 rfl (n := 65) rfl ?_
  obtain ⟨a2, e3, h⟩ := h
  obtain ⟨n5, k4, h⟩ := h
  obtain ⟨c6, h⟩ := h
  refine x_aald e3 dC_writeOpenPage_65 k4 (by decide) c6 (n := 66) rfl ?_
  obtain ⟨a7, e8, h⟩ := h
  obtain ⟨k9, h⟩ := h
  refine x_invV (m := m) e8 dC_writeOpenPage_66 gC_writeOpenPage_66 (as := [vR (gR m a2 x2.toNatClampNeg)]) (st := []) rfl rfl k9 rfl rfl (Nat.le_of_ble_eq_true rfl) (n := 69) rfl rfl rfl h (xBk.V fun m10 h => ?_)
  refine x_iinc (v := x2 + 1) dC_writeOpenPage_69 rfl rfl (by decide) (L' := [some (vR (some a0)), some (vI x1), some (vI (x2 + 1))]) rfl (n := 72) rfl ?_
  refine x_goto (tgt := 28) dC_writeOpenPage_72 rfl ?_
  exact h
set_option maxRecDepth 100000 in
set_option maxHeartbeats 4000000 in
theorem bC_writeOpenPage {l : Launch} {G : xG} {m : XM} {Q : XR → XM → Prop} {a0 : Nat} (hst : l.stackTraces = false)
    (h : kd m a0 = some (oB 4) ∧ ∃ a2, gR m a0 2 = some a2 ∧ kd m a2 = some (oB 2) ∧ CC l G xG_isBeforeWrittenSegment [vR (some a2)] m (kI (fun v6 m5 => ((v6 = 0 → kd m5 a0 = some (oB 4) ∧ ∃ a8, gR m5 a0 2 = some a8 ∧ kd m5 a8 = some (oB 2) ∧ CC l G xG_writeOut [vR (some a8)] m5 (kV (fun m11 => WW l G xC_writeOpenPage 28 [some (vR (some a0)), some (vI (0 : Int32)), some (vI (0 : Int32))] [] m11 0 0 Q) Q)) ∧ (¬ v6 = 0 → kd m5 a0 = some (oB 4) ∧ CC l G xC_emptySegment [vR (some a0)] m5 (kI (fun v14 m13 => kd m13 a0 = some (oB 4) ∧ ∃ a16, gR m13 a0 2 = some a16 ∧ kd m13 a16 = some (oB 2) ∧ CC l G xG_writeOut [vR (some a16)] m13 (kV (fun m19 => WW l G xC_writeOpenPage 28 [some (vR (some a0)), some (vI v14), some (vI (0 : Int32))] [] m19 0 0 Q) Q)) Q)))) Q)) :
    CC l G xC_writeOpenPage [vR (some a0)] m Q := by
  refine x_entry (by decide +kernel) rfl hst (Nat.le_of_ble_eq_true rfl) (L0 := [some (vR (some a0)), none, none]) rfl ?_
  refine x_aload_n dC_writeOpenPage_0 rfl (n := 1) rfl ?_
  obtain ⟨k1, h⟩ := h
  refine x_getR rfl dC_writeOpenPage_1 fC_24 k1 (n := 4) rfl ?_
  obtain ⟨a2, e3, h⟩ := h
  obtain ⟨k4, h⟩ := h
  refine x_invV (m := m) e3 dC_writeOpenPage_4 gC_writeOpenPage_4 (as := []) (st := []) rfl rfl k4 rfl rfl (Nat.le_of_ble_eq_true rfl) (n := 7) rfl rfl rfl h (xBk.I fun v6 m5 h => ?_)
  obtain ⟨h, h'⟩ := h
  refine x_if_eq (tgt := 17) dC_writeOpenPage_7 rfl (n := 10) rfl (fun c20 => ?_) (fun c20 => ?_)
  · replace h := h c20
    refine x_iconst (v := 0) dC_writeOpenPage_17 (by decide) (n := 18) rfl ?_
    refine x_istore_n dC_writeOpenPage_18 (by decide) (L' := [some (vR (some a0)), some (vI (0 : Int32)), none]) rfl (n := 19) rfl ?_
    refine x_aload_n dC_writeOpenPage_19 rfl (n := 20) rfl ?_
    obtain ⟨k7, h⟩ := h
    refine x_getR rfl dC_writeOpenPage_20 fC_24 k7 (n := 23) rfl ?_
    obtain ⟨a8, e9, h⟩ := h
    obtain ⟨k10, h⟩ := h
    refine x_invV (m := m5) e9 dC_writeOpenPage_23 gC_writeOpenPage_23 (as := []) (st := []) rfl rfl k10 rfl rfl (Nat.le_of_ble_eq_true rfl) (n := 26) rfl rfl rfl h (xBk.V fun m11 h => ?_)
    refine x_iconst (v := 0) dC_writeOpenPage_26 (by decide) (n := 27) rfl ?_
    refine x_istore_n dC_writeOpenPage_27 (by decide) (L' := [some (vR (some a0)), some (vI (0 : Int32)), some (vI (0 : Int32))]) rfl (n := 28) rfl ?_
    exact h
  · replace h := h' c20
    refine x_aload_n dC_writeOpenPage_10 rfl (n := 11) rfl ?_
    obtain ⟨k12, h⟩ := h
    refine x_invV (m := m5) rfl dC_writeOpenPage_11 gC_writeOpenPage_11 (as := []) (st := []) rfl rfl k12 rfl rfl (Nat.le_of_ble_eq_true rfl) (n := 14) rfl rfl rfl h (xBk.I fun v14 m13 h => ?_)
    refine x_goto (tgt := 18) dC_writeOpenPage_14 rfl ?_
    refine x_istore_n dC_writeOpenPage_18 (by decide) (L' := [some (vR (some a0)), some (vI v14), none]) rfl (n := 19) rfl ?_
    refine x_aload_n dC_writeOpenPage_19 rfl (n := 20) rfl ?_
    obtain ⟨k15, h⟩ := h
    refine x_getR rfl dC_writeOpenPage_20 fC_24 k15 (n := 23) rfl ?_
    obtain ⟨a16, e17, h⟩ := h
    obtain ⟨k18, h⟩ := h
    refine x_invV (m := m13) e17 dC_writeOpenPage_23 gC_writeOpenPage_23 (as := []) (st := []) rfl rfl k18 rfl rfl (Nat.le_of_ble_eq_true rfl) (n := 26) rfl rfl rfl h (xBk.V fun m19 h => ?_)
    refine x_iconst (v := 0) dC_writeOpenPage_26 (by decide) (n := 27) rfl ?_
    refine x_istore_n dC_writeOpenPage_27 (by decide) (L' := [some (vR (some a0)), some (vI v14), some (vI (0 : Int32))]) rfl (n := 28) rfl ?_
    exact h
set_option maxRecDepth 100000 in
set_option maxHeartbeats 4000000 in
theorem bC_emptySegment_39 {l : Launch} {G : xG} {m : XM} {bc bs : Nat} {Q : XR → XM → Prop} {a0 : Nat} {x1 : Int32} {x2 : Int32} {x3 : Int64} {x5 : Int32}
    (h : (((64 : Int32) ≤ x5 → Q (.inl (some (vI x2))) m) ∧ (¬ (64 : Int32) ≤ x5 → ((¬ (lg_cmp ((jushr x3 x5) &&& (1 : Int64)) (0 : Int64)) = 0 → kd m a0 = some (oB 4) ∧ ∃ a2, gR m a0 2 = some a2 ∧ kd m a2 = some (oB 2) ∧ ∃ a5, gR m a2 1 = some a5 ∧ kd m a5 = some (oB 0) ∧ CC l G xI_takeSet [vR (some a5), vI x5, vR (gR m a0 4)] m (kI (fun v9 m8 => ((¬ v9 = (1 : Int32) → kd m8 a0 = some (oB 4) ∧ ∃ a11, gR m8 a0 1 = some a11 ∧ ∃ n14, kd m8 a11 = some (aR 4 n14) ∧ vp_in x5 n14 ∧ CC l G xC_moveGathered [vR (some a0), vR (gR m8 a11 x5.toNatClampNeg), vI v9] m8 (kV (fun m16 => WW l G xC_emptySegment 39 [some (vR (some a0)), some (vI x1), some (vI x2), some (vL x3), none, some (vI (x5 + 1)), none] [] m16 bc bs Q) Q)) ∧ (v9 = (1 : Int32) → kd m8 a0 = some (oB 4) ∧ ∃ a18, gR m8 a0 3 = some a18 ∧ ∃ n21, kd m8 a18 = some (aR 0 n21) ∧ vp_in (8 : Int32) n21 ∧ vp_in (8 : Int32) n21 ∧ ∀ m24, m24 = mI m8 a18 (8 : Int32).toNatClampNeg ((gI m8 a18 (8 : Int32).toNatClampNeg) + (1 : Int32)) → ∃ a25, gR m8 a0 4 = some a25 ∧ ∃ n28, kd m8 a25 = some (aR 3 n28) ∧ vp_in (0 : Int32) n28 ∧ ∃ a30, gR m8 a25 (0 : Int32).toNatClampNeg = some a30 ∧ kd m8 a30 = some (oB 1) ∧ CC l G xC_removeFromSet [vR (some a0), vL (gL m8 a30 0), vI (2 : Int32)] m24 (kI (fun v34 m33 => WW l G xC_emptySegment 39 [some (vR (some a0)), some (vI x1), some (vI x2), some (vL x3), none, some (vI (x5 + 1)), none] [] m33 bc bs Q) Q)))) Q)) ∧ ((lg_cmp ((jushr x3 x5) &&& (1 : Int64)) (0 : Int64)) = 0 → WW l G xC_emptySegment 39 [some (vR (some a0)), some (vI x1), some (vI x2), some (vL x3), none, some (vI (x5 + 1)), none] [] m bc bs Q))))) :
    WW l G xC_emptySegment 39 [some (vR (some a0)), some (vI x1), some (vI x2), some (vL x3), none, some (vI x5), none] [] m bc bs Q := by
  refine x_iload dC_emptySegment_39 rfl (n := 41) rfl ?_
  refine x_bipush (v := 64) dC_emptySegment_41 (by decide) (n := 43) rfl ?_
  obtain ⟨h, h'⟩ := h
  refine x_icmp_ge (tgt := 132) dC_emptySegment_43 rfl (n := 46) rfl (fun c37 => ?_) (fun c37 => ?_)
  · replace h := h c37
    refine x_iload_n dC_emptySegment_132 rfl (n := 133) rfl ?_
    exact x_iret dC_emptySegment_133 rfl h
  · replace h := h' c37
    refine x_lload_n dC_emptySegment_46 rfl (n := 47) rfl ?_
    refine x_iload dC_emptySegment_47 rfl (n := 49) rfl ?_
    refine x_lushr dC_emptySegment_49 (n := 50) rfl ?_
    refine x_lconst (v := 1) dC_emptySegment_50 (by decide) (n := 51) rfl ?_
    refine x_land dC_emptySegment_51 (n := 52) rfl ?_
    refine x_lconst (v := 0) dC_emptySegment_52 (by decide) (n := 53) rfl ?_
    refine x_lcmp dC_emptySegment_53 (n := 54) rfl ?_
    obtain ⟨h, h'⟩ := h
    refine x_if_ne (tgt := 60) dC_emptySegment_54 rfl (n := 57) rfl (fun c36 => ?_) (fun c36 => ?_)
    · replace h := h c36
      refine x_aload_n dC_emptySegment_60 rfl (n := 61) rfl ?_
      obtain ⟨k1, h⟩ := h
      refine x_getR rfl dC_emptySegment_61 fC_24 k1 (n := 64) rfl ?_
      obtain ⟨a2, e3, h⟩ := h
      obtain ⟨k4, h⟩ := h
      refine x_getR e3 dC_emptySegment_64 fC_77 k4 (n := 67) rfl ?_
      refine x_iload dC_emptySegment_67 rfl (n := 69) rfl ?_
      refine x_aload_n dC_emptySegment_69 rfl (n := 70) rfl ?_
      refine x_getR rfl dC_emptySegment_70 fC_33 k1 (n := 73) rfl ?_
      obtain ⟨a5, e6, h⟩ := h
      obtain ⟨k7, h⟩ := h
      refine x_invV (m := m) e6 dC_emptySegment_73 gC_emptySegment_73 (as := [vI x5, vR (gR m a0 4)]) (st := []) rfl rfl k7 rfl rfl (Nat.le_of_ble_eq_true rfl) (n := 76) rfl rfl rfl h (xBk.I fun v9 m8 h => ?_)
      refine x_istore dC_emptySegment_76 (by decide) (L' := [some (vR (some a0)), some (vI x1), some (vI x2), some (vL x3), none, some (vI x5), some (vI v9)]) rfl (n := 78) rfl ?_
      refine x_iload dC_emptySegment_78 rfl (n := 80) rfl ?_
      refine x_iconst (v := 1) dC_emptySegment_80 (by decide) (n := 81) rfl ?_
      obtain ⟨h, h'⟩ := h
      refine x_icmp_ne (tgt := 113) dC_emptySegment_81 rfl (n := 84) rfl (fun c35 => ?_) (fun c35 => ?_)
      · replace h := h c35
        refine x_aload_n dC_emptySegment_113 rfl (n := 114) rfl ?_
        refine x_aload_n dC_emptySegment_114 rfl (n := 115) rfl ?_
        obtain ⟨k10, h⟩ := h
        refine x_getR rfl dC_emptySegment_115 fC_17 k10 (n := 118) rfl ?_
        refine x_iload dC_emptySegment_118 rfl (n := 120) rfl ?_
        obtain ⟨a11, e12, h⟩ := h
        obtain ⟨n14, k13, h⟩ := h
        obtain ⟨c15, h⟩ := h
        refine x_aald e12 dC_emptySegment_120 k13 (by decide) c15 (n := 121) rfl ?_
        refine x_iload dC_emptySegment_121 rfl (n := 123) rfl ?_
        refine x_invV (m := m8) rfl dC_emptySegment_123 gC_emptySegment_123 (as := [vR (gR m8 a11 x5.toNatClampNeg), vI v9]) (st := []) rfl rfl k10 rfl rfl (Nat.le_of_ble_eq_true rfl) (n := 126) rfl rfl rfl h (xBk.V fun m16 h => ?_)
        refine x_iinc (v := x5 + 1) dC_emptySegment_126 rfl rfl (by decide) (L' := [some (vR (some a0)), some (vI x1), some (vI x2), some (vL x3), none, some (vI (x5 + 1)), some (vI v9)]) rfl (n := 129) rfl ?_
        refine x_goto (tgt := 39) dC_emptySegment_129 rfl ?_
        exact x_weak (b := [true, true, true, true, false, true, false]) rfl h
      · replace h := h' c35
        refine x_aload_n dC_emptySegment_84 rfl (n := 85) rfl ?_
        obtain ⟨k17, h⟩ := h
        refine x_getR rfl dC_emptySegment_85 fC_28 k17 (n := 88) rfl ?_
        refine x_bipush (v := 8) dC_emptySegment_88 (by decide) (n := 90) rfl ?_
        refine x_dup2 dC_emptySegment_90 rfl rfl (n := 91) rfl ?_
        obtain ⟨a18, e19, h⟩ := h
        obtain ⟨n21, k20, h⟩ := h
        obtain ⟨c22, h⟩ := h
        refine x_iald e19 dC_emptySegment_91 k20 c22 (n := 92) rfl ?_
        refine x_iconst (v := 1) dC_emptySegment_92 (by decide) (n := 93) rfl ?_
        refine x_iadd dC_emptySegment_93 (n := 94) rfl ?_
        obtain ⟨c23, h⟩ := h
        replace h := h _ rfl
        refine x_iast e19 dC_emptySegment_94 k20 c23 (n := 95) rfl ?_
        refine x_aload_n dC_emptySegment_95 rfl (n := 96) rfl ?_
        refine x_aload_n dC_emptySegment_96 rfl (n := 97) rfl ?_
        refine x_getR rfl dC_emptySegment_97 fC_33 k17 (n := 100) rfl ?_
        refine x_iconst (v := 0) dC_emptySegment_100 (by decide) (n := 101) rfl ?_
        obtain ⟨a25, e26, h⟩ := h
        obtain ⟨n28, k27, h⟩ := h
        obtain ⟨c29, h⟩ := h
        refine x_aald e26 dC_emptySegment_101 k27 (by decide) c29 (n := 102) rfl ?_
        obtain ⟨a30, e31, h⟩ := h
        obtain ⟨k32, h⟩ := h
        refine x_getL e31 dC_emptySegment_102 fC_175 k32 (n := 105) rfl ?_
        refine x_iconst (v := 2) dC_emptySegment_105 (by decide) (n := 106) rfl ?_
        refine x_invV (m := (mI m8 a18 (8 : Int32).toNatClampNeg ((gI m8 a18 (8 : Int32).toNatClampNeg) + (1 : Int32)))) rfl dC_emptySegment_106 gC_emptySegment_106 (as := [vL (gL m8 a30 0), vI (2 : Int32)]) (st := []) rfl rfl k17 rfl rfl (Nat.le_of_ble_eq_true rfl) (n := 109) rfl rfl rfl h (xBk.I fun v34 m33 h => ?_)
        refine x_pop dC_emptySegment_109 rfl (n := 110) rfl ?_
        refine x_goto (tgt := 126) dC_emptySegment_110 rfl ?_
        refine x_iinc (v := x5 + 1) dC_emptySegment_126 rfl rfl (by decide) (L' := [some (vR (some a0)), some (vI x1), some (vI x2), some (vL x3), none, some (vI (x5 + 1)), some (vI v9)]) rfl (n := 129) rfl ?_
        refine x_goto (tgt := 39) dC_emptySegment_129 rfl ?_
        exact x_weak (b := [true, true, true, true, false, true, false]) rfl h
    · replace h := h' c36
      refine x_goto (tgt := 126) dC_emptySegment_57 rfl ?_
      refine x_iinc (v := x5 + 1) dC_emptySegment_126 rfl rfl (by decide) (L' := [some (vR (some a0)), some (vI x1), some (vI x2), some (vL x3), none, some (vI (x5 + 1)), none]) rfl (n := 129) rfl ?_
      refine x_goto (tgt := 39) dC_emptySegment_129 rfl ?_
      exact h
set_option maxRecDepth 100000 in
set_option maxHeartbeats 4000000 in
theorem bC_emptySegment {l : Launch} {G : xG} {m : XM} {Q : XR → XM → Prop} {a0 : Nat} (hst : l.stackTraces = false)
    (h : kd m a0 = some (oB 4) ∧ ∃ a2, gR m a0 2 = some a2 ∧ kd m a2 = some (oB 2) ∧ CC l G xG_oldestSegmentEnd [vR (some a2)] m (kI (fun v6 m5 => kd m5 a0 = some (oB 4) ∧ ∃ a8, gR m5 a0 2 = some a8 ∧ kd m5 a8 = some (oB 2) ∧ ∃ a11, gR m5 a8 1 = some a11 ∧ kd m5 a11 = some (oB 0) ∧ CC l G xI_takeGotAlone [vR (some a11), vI v6, vR (gR m5 a0 5)] m5 (kI (fun v15 m14 => kd m14 a0 = some (oB 4) ∧ ∃ a17, gR m14 a0 2 = some a17 ∧ kd m14 a17 = some (oB 2) ∧ ∃ a20, gR m14 a17 1 = some a20 ∧ kd m14 a20 = some (oB 0) ∧ CC l G xI_setsBefore [vR (some a20), vI v6] m14 (kL (fun v24 m23 => WW l G xC_emptySegment 39 [some (vR (some a0)), some (vI v6), some (vI v15), some (vL v24), none, some (vI (0 : Int32)), none] [] m23 0 0 Q) Q)) Q)) Q)) :
    CC l G xC_emptySegment [vR (some a0)] m Q := by
  refine x_entry (by decide +kernel) rfl hst (Nat.le_of_ble_eq_true rfl) (L0 := [some (vR (some a0)), none, none, none, none, none, none]) rfl ?_
  refine x_aload_n dC_emptySegment_0 rfl (n := 1) rfl ?_
  obtain ⟨k1, h⟩ := h
  refine x_getR rfl dC_emptySegment_1 fC_24 k1 (n := 4) rfl ?_
  obtain ⟨a2, e3, h⟩ := h
  obtain ⟨k4, h⟩ := h
  refine x_invV (m := m) e3 dC_emptySegment_4 gC_emptySegment_4 (as := []) (st := []) rfl rfl k4 rfl rfl (Nat.le_of_ble_eq_true rfl) (n := 7) rfl rfl rfl h (xBk.I fun v6 m5 h => ?_)
  refine x_istore_n dC_emptySegment_7 (by decide) (L' := [some (vR (some a0)), some (vI v6), none, none, none, none, none]) rfl (n := 8) rfl ?_
  refine x_aload_n dC_emptySegment_8 rfl (n := 9) rfl ?_
  obtain ⟨k7, h⟩ := h
  refine x_getR rfl dC_emptySegment_9 fC_24 k7 (n := 12) rfl ?_
  obtain ⟨a8, e9, h⟩ := h
  obtain ⟨k10, h⟩ := h
  refine x_getR e9 dC_emptySegment_12 fC_77 k10 (n := 15) rfl ?_
  refine x_iload_n dC_emptySegment_15 rfl (n := 16) rfl ?_
  refine x_aload_n dC_emptySegment_16 rfl (n := 17) rfl ?_
  refine x_getR rfl dC_emptySegment_17 fC_37 k7 (n := 20) rfl ?_
  obtain ⟨a11, e12, h⟩ := h
  obtain ⟨k13, h⟩ := h
  refine x_invV (m := m5) e12 dC_emptySegment_20 gC_emptySegment_20 (as := [vI v6, vR (gR m5 a0 5)]) (st := []) rfl rfl k13 rfl rfl (Nat.le_of_ble_eq_true rfl) (n := 23) rfl rfl rfl h (xBk.I fun v15 m14 h => ?_)
  refine x_istore_n dC_emptySegment_23 (by decide) (L' := [some (vR (some a0)), some (vI v6), some (vI v15), none, none, none, none]) rfl (n := 24) rfl ?_
  refine x_aload_n dC_emptySegment_24 rfl (n := 25) rfl ?_
  obtain ⟨k16, h⟩ := h
  refine x_getR rfl dC_emptySegment_25 fC_24 k16 (n := 28) rfl ?_
  obtain ⟨a17, e18, h⟩ := h
  obtain ⟨k19, h⟩ := h
  refine x_getR e18 dC_emptySegment_28 fC_77 k19 (n := 31) rfl ?_
  refine x_iload_n dC_emptySegment_31 rfl (n := 32) rfl ?_
  obtain ⟨a20, e21, h⟩ := h
  obtain ⟨k22, h⟩ := h
  refine x_invV (m := m14) e21 dC_emptySegment_32 gC_emptySegment_32 (as := [vI v6]) (st := []) rfl rfl k22 rfl rfl (Nat.le_of_ble_eq_true rfl) (n := 35) rfl rfl rfl h (xBk.J fun v24 m23 h => ?_)
  refine x_lstore_n dC_emptySegment_35 (by decide) (L' := [some (vR (some a0)), some (vI v6), some (vI v15), some (vL v24), none, none, none]) rfl (n := 36) rfl ?_
  refine x_iconst (v := 0) dC_emptySegment_36 (by decide) (n := 37) rfl ?_
  refine x_istore dC_emptySegment_37 (by decide) (L' := [some (vR (some a0)), some (vI v6), some (vI v15), some (vL v24), none, some (vI (0 : Int32)), none]) rfl (n := 39) rfl ?_
  exact h
set_option maxRecDepth 100000 in
set_option maxHeartbeats 4000000 in
theorem bC_removeFromSet {l : Launch} {G : xG} {m : XM} {Q : XR → XM → Prop} {a0 : Nat} {x1 : Int64} {x3 : Int32} (hst : l.stackTraces = false)
    (h : kd m a0 = some (oB 4) ∧ CC l G xC_readFromSet [vR (some a0), vL x1] m (kR (fun v3 m2 => ((v3 = none → Q (.inl (some (vI (0 : Int32)))) m2) ∧ (∀ a4, v3 = some a4 → kd m2 a0 = some (oB 4) ∧ CC l G xC_mix [vL x1] m2 (kL (fun v8 m7 => CC l G xC_setNumber [vL v8] m7 (kI (fun v10 m9 => ∃ a11, gR m2 a0 1 = some a11 ∧ ∃ n14, kd m9 a11 = some (aR 4 n14) ∧ vp_in v10 n14 ∧ ∃ a16, gR m9 a11 v10.toNatClampNeg = some a16 ∧ kd m9 a16 = some (oB 3) ∧ CC l G xP_remove [vR (some a16), vL x1] m9 (kV (fun m19 => kd m19 a0 = some (oB 4) ∧ ∃ a21, gR m19 a0 3 = some a21 ∧ ∃ n24, kd m19 a21 = some (aR 0 n24) ∧ vp_in x3 n24 ∧ vp_in x3 n24 ∧ ∀ m27, m27 = mI m19 a21 x3.toNatClampNeg ((gI m19 a21 x3.toNatClampNeg) + (1 : Int32)) → Q (.inl (some (vI (1 : Int32)))) m27) Q)) Q)) Q)))) Q)) :
    CC l G xC_removeFromSet [vR (some a0), vL x1, vI x3] m Q := by
  refine x_entry (by decide +kernel) rfl hst (Nat.le_of_ble_eq_true rfl) (L0 := [some (vR (some a0)), some (vL x1), none, some (vI x3)]) rfl ?_
  refine x_aload_n dC_removeFromSet_0 rfl (n := 1) rfl ?_
  refine x_lload_n dC_removeFromSet_1 rfl (n := 2) rfl ?_
  obtain ⟨k1, h⟩ := h
  refine x_invV (m := m) rfl dC_removeFromSet_2 gC_removeFromSet_2 (as := [vL x1]) (st := []) rfl rfl k1 rfl rfl (Nat.le_of_ble_eq_true rfl) (n := 5) rfl rfl rfl h (xBk.R fun v3 m2 h => ?_)
  obtain ⟨h, h'⟩ := h
  refine x_ifnonnull (tgt := 10) dC_removeFromSet_5 rfl (n := 8) rfl (fun a4 e5 => ?_) (fun e5 => ?_)
  · replace h := h' a4 e5
    refine x_aload_n dC_removeFromSet_10 rfl (n := 11) rfl ?_
    obtain ⟨k6, h⟩ := h
    refine x_getR rfl dC_removeFromSet_11 fC_17 k6 (n := 14) rfl ?_
    refine x_lload_n dC_removeFromSet_14 rfl (n := 15) rfl ?_
    refine x_invS (m := m2) dC_removeFromSet_15 gC_removeFromSet_15 (as := [vL x1]) (st := [vR (gR m2 a0 1)]) rfl rfl (Nat.le_of_ble_eq_true rfl) (n := 18) rfl rfl rfl h (xBk.J fun v8 m7 h => ?_)
    refine x_invS (m := m7) dC_removeFromSet_18 gC_removeFromSet_18 (as := [vL v8]) (st := [vR (gR m2 a0 1)]) rfl rfl (Nat.le_of_ble_eq_true rfl) (n := 21) rfl rfl rfl h (xBk.I fun v10 m9 h => ?_)
    obtain ⟨a11, e12, h⟩ := h
    obtain ⟨n14, k13, h⟩ := h
    obtain ⟨c15, h⟩ := h
    refine x_aald e12 dC_removeFromSet_21 k13 (by decide) c15 (n := 22) rfl ?_
    refine x_lload_n dC_removeFromSet_22 rfl (n := 23) rfl ?_
    obtain ⟨a16, e17, h⟩ := h
    obtain ⟨k18, h⟩ := h
    refine x_invV (m := m9) e17 dC_removeFromSet_23 gC_removeFromSet_23 (as := [vL x1]) (st := []) rfl rfl k18 rfl rfl (Nat.le_of_ble_eq_true rfl) (n := 26) rfl rfl rfl h (xBk.V fun m19 h => ?_)
    refine x_aload_n dC_removeFromSet_26 rfl (n := 27) rfl ?_
    obtain ⟨k20, h⟩ := h
    refine x_getR rfl dC_removeFromSet_27 fC_28 k20 (n := 30) rfl ?_
    refine x_iload_n dC_removeFromSet_30 rfl (n := 31) rfl ?_
    refine x_dup2 dC_removeFromSet_31 rfl rfl (n := 32) rfl ?_
    obtain ⟨a21, e22, h⟩ := h
    obtain ⟨n24, k23, h⟩ := h
    obtain ⟨c25, h⟩ := h
    refine x_iald e22 dC_removeFromSet_32 k23 c25 (n := 33) rfl ?_
    refine x_iconst (v := 1) dC_removeFromSet_33 (by decide) (n := 34) rfl ?_
    refine x_iadd dC_removeFromSet_34 (n := 35) rfl ?_
    obtain ⟨c26, h⟩ := h
    replace h := h _ rfl
    refine x_iast e22 dC_removeFromSet_35 k23 c26 (n := 36) rfl ?_
    refine x_iconst (v := 1) dC_removeFromSet_36 (by decide) (n := 37) rfl ?_
    exact x_zret dC_removeFromSet_37 rfl (by decide) h
  · replace h := h e5
    refine x_iconst (v := 0) dC_removeFromSet_8 (by decide) (n := 9) rfl ?_
    exact x_zret dC_removeFromSet_9 rfl (by decide) h
set_option maxRecDepth 100000 in
set_option maxHeartbeats 4000000 in
theorem bC_readFromSet {l : Launch} {G : xG} {m : XM} {Q : XR → XM → Prop} {a0 : Nat} {x1 : Int64} (hst : l.stackTraces = false)
    (h : CC l G xC_mix [vL x1] m (kL (fun v2 m1 => kd m1 a0 = some (oB 4) ∧ CC l G xC_setNumber [vL v2] m1 (kI (fun v5 m4 => ∃ a6, gR m1 a0 1 = some a6 ∧ ∃ n9, kd m4 a6 = some (aR 4 n9) ∧ vp_in v5 n9 ∧ ∃ a11, gR m4 a6 v5.toNatClampNeg = some a11 ∧ kd m4 a11 = some (oB 3) ∧ CC l G xC_filterBit [vL v2] m4 (kL (fun v15 m14 => ((¬ (lg_cmp ((gL m4 a11 3) &&& v15) (0 : Int64)) = 0 → kd m14 a0 = some (oB 4) ∧ ∃ a17, gR m14 a0 3 = some a17 ∧ ∃ n20, kd m14 a17 = some (aR 0 n20) ∧ vp_in (9 : Int32) n20 ∧ vp_in (9 : Int32) n20 ∧ ∀ m23, m23 = mI m14 a17 (9 : Int32).toNatClampNeg ((gI m14 a17 (9 : Int32).toNatClampNeg) + (1 : Int32)) → kd m14 a11 = some (oB 3) ∧ CC l G xP_find [vR (some a11), vL x1] m23 (kR (fun v26 m25 => Q (.inl (some (vR v26))) m25) Q)) ∧ ((lg_cmp ((gL m4 a11 3) &&& v15) (0 : Int64)) = 0 → Q (.inl (some (vR none))) m14))) Q)) Q)) Q)) :
    CC l G xC_readFromSet [vR (some a0), vL x1] m Q := by
  refine x_entry (by decide +kernel) rfl hst (Nat.le_of_ble_eq_true rfl) (L0 := [some (vR (some a0)), some (vL x1), none, none, none, none]) rfl ?_
  refine x_lload_n dC_readFromSet_0 rfl (n := 1) rfl ?_
  refine x_invS (m := m) dC_readFromSet_1 gC_readFromSet_1 (as := [vL x1]) (st := []) rfl rfl (Nat.le_of_ble_eq_true rfl) (n := 4) rfl rfl rfl h (xBk.J fun v2 m1 h => ?_)
  refine x_lstore_n dC_readFromSet_4 (by decide) (L' := [some (vR (some a0)), some (vL x1), none, some (vL v2), none, none]) rfl (n := 5) rfl ?_
  refine x_aload_n dC_readFromSet_5 rfl (n := 6) rfl ?_
  obtain ⟨k3, h⟩ := h
  refine x_getR rfl dC_readFromSet_6 fC_17 k3 (n := 9) rfl ?_
  refine x_lload_n dC_readFromSet_9 rfl (n := 10) rfl ?_
  refine x_invS (m := m1) dC_readFromSet_10 gC_readFromSet_10 (as := [vL v2]) (st := [vR (gR m1 a0 1)]) rfl rfl (Nat.le_of_ble_eq_true rfl) (n := 13) rfl rfl rfl h (xBk.I fun v5 m4 h => ?_)
  obtain ⟨a6, e7, h⟩ := h
  obtain ⟨n9, k8, h⟩ := h
  obtain ⟨c10, h⟩ := h
  refine x_aald e7 dC_readFromSet_13 k8 (by decide) c10 (n := 14) rfl ?_
  refine x_astore dC_readFromSet_14 (by decide) (L' := [some (vR (some a0)), some (vL x1), none, some (vL v2), none, some (vR (gR m4 a6 v5.toNatClampNeg))]) rfl (n := 16) rfl ?_
  refine x_aload dC_readFromSet_16 rfl (n := 18) rfl ?_
  obtain ⟨a11, e12, h⟩ := h
  obtain ⟨k13, h⟩ := h
  refine x_getL e12 dC_readFromSet_18 fC_201 k13 (n := 21) rfl ?_
  refine x_lload_n dC_readFromSet_21 rfl (n := 22) rfl ?_
  refine x_invS (m := m4) dC_readFromSet_22 gC_readFromSet_22 (as := [vL v2]) (st := [vL (gL m4 a11 3)]) rfl rfl (Nat.le_of_ble_eq_true rfl) (n := 25) rfl rfl rfl h (xBk.J fun v15 m14 h => ?_)
  refine x_land dC_readFromSet_25 (n := 26) rfl ?_
  refine x_lconst (v := 0) dC_readFromSet_26 (by decide) (n := 27) rfl ?_
  refine x_lcmp dC_readFromSet_27 (n := 28) rfl ?_
  obtain ⟨h, h'⟩ := h
  refine x_if_ne (tgt := 33) dC_readFromSet_28 rfl (n := 31) rfl (fun c27 => ?_) (fun c27 => ?_)
  · replace h := h c27
    refine x_aload_n dC_readFromSet_33 rfl (n := 34) rfl ?_
    obtain ⟨k16, h⟩ := h
    refine x_getR rfl dC_readFromSet_34 fC_28 k16 (n := 37) rfl ?_
    refine x_bipush (v := 9) dC_readFromSet_37 (by decide) (n := 39) rfl ?_
    refine x_dup2 dC_readFromSet_39 rfl rfl (n := 40) rfl ?_
    obtain ⟨a17, e18, h⟩ := h
    obtain ⟨n20, k19, h⟩ := h
    obtain ⟨c21, h⟩ := h
    refine x_iald e18 dC_readFromSet_40 k19 c21 (n := 41) rfl ?_
    refine x_iconst (v := 1) dC_readFromSet_41 (by decide) (n := 42) rfl ?_
    refine x_iadd dC_readFromSet_42 (n := 43) rfl ?_
    obtain ⟨c22, h⟩ := h
    replace h := h _ rfl
    refine x_iast e18 dC_readFromSet_43 k19 c22 (n := 44) rfl ?_
    refine x_aload dC_readFromSet_44 rfl (n := 46) rfl ?_
    refine x_lload_n dC_readFromSet_46 rfl (n := 47) rfl ?_
    obtain ⟨k24, h⟩ := h
    refine x_invV (m := (mI m14 a17 (9 : Int32).toNatClampNeg ((gI m14 a17 (9 : Int32).toNatClampNeg) + (1 : Int32)))) e12 dC_readFromSet_47 gC_readFromSet_47 (as := [vL x1]) (st := []) rfl rfl k24 rfl rfl (Nat.le_of_ble_eq_true rfl) (n := 50) rfl rfl rfl h (xBk.R fun v26 m25 h => ?_)
    exact x_aret dC_readFromSet_50 rfl (Or.inl ⟨_, rfl⟩) h
  · replace h := h' c27
    refine x_null dC_readFromSet_31 (n := 32) rfl ?_
    exact x_aret dC_readFromSet_32 rfl (Or.inl ⟨_, rfl⟩) h
set_option maxRecDepth 100000 in
set_option maxHeartbeats 4000000 in
theorem bC_moveGathered_26 {l : Launch} {G : xG} {m : XM} {bc bs : Nat} {Q : XR → XM → Prop} {a0 : Nat} {o1 : Option Nat} {x2 : Int32} {x3 : Int32} {x4 : Int32}
    (h : ((x2 ≤ x4 → kd m a0 = some (oB 4) ∧ ∃ a2, gR m a0 3 = some a2 ∧ ∃ n5, kd m a2 = some (aR 0 n5) ∧ vp_in (5 : Int32) n5 ∧ ∃ a7, o1 = some a7 ∧ kd m a7 = some (oB 3) ∧ CC l G xP_dropFor [vR (some a7), vI x3, vI (0 : Int32)] m (kI (fun v11 m10 => ∃ n13, kd m10 a2 = some (aR 0 n13) ∧ vp_in (5 : Int32) n13 ∧ ∀ m15, m15 = mI m10 a2 (5 : Int32).toNatClampNeg ((gI m a2 (5 : Int32).toNatClampNeg) + v11) → kd m10 a0 = some (oB 4) ∧ ∃ a17, gR m10 a0 3 = some a17 ∧ ∃ n20, kd m10 a17 = some (aR 0 n20) ∧ vp_in (6 : Int32) n20 ∧ kd m10 a7 = some (oB 3) ∧ CC l G xP_dropFor [vR (some a7), vI x3, vI (1 : Int32)] m15 (kI (fun v24 m23 => ∃ n26, kd m23 a17 = some (aR 0 n26) ∧ vp_in (6 : Int32) n26 ∧ ∀ m28, m28 = mI m23 a17 (6 : Int32).toNatClampNeg ((gI m15 a17 (6 : Int32).toNatClampNeg) + v24) → WW l G xC_moveGathered 99 [some (vR (some a0)), some (vR o1), some (vI x2), some (vI x3), some (vI (0 : Int32))] [] m28 bc bs Q) Q)) Q)) ∧ (¬ x2 ≤ x4 → kd m a0 = some (oB 4) ∧ ∃ a30, gR m a0 4 = some a30 ∧ ∃ n33, kd m a30 = some (aR 3 n33) ∧ vp_in x4 n33 ∧ ∃ a35, gR m a30 x4.toNatClampNeg = some a35 ∧ kd m a35 = some (oB 1) ∧ ∃ a38, o1 = some a38 ∧ kd m a38 = some (oB 3) ∧ CC l G xP_remove [vR (some a38), vL (gL m a35 0)] m (kV (fun m41 => kd m41 a0 = some (oB 4) ∧ ∃ a43, gR m41 a0 4 = some a43 ∧ ∃ n46, kd m41 a43 = some (aR 3 n46) ∧ vp_in x4 n46 ∧ ∃ a48, gR m41 a43 x4.toNatClampNeg = some a48 ∧ kd m41 a48 = some (oB 1) ∧ CC l G xT_words [vR (some a48)] m41 (kI (fun v52 m51 => WW l G xC_moveGathered 26 [some (vR (some a0)), some (vR o1), some (vI x2), some (vI (x3 + v52)), some (vI (x4 + 1))] [] m51 bc bs Q) Q)) Q)))) :
    WW l G xC_moveGathered 26 [some (vR (some a0)), some (vR o1), some (vI x2), some (vI x3), some (vI x4)] [] m bc bs Q := by
  refine x_iload dC_moveGathered_26 rfl (n := 28) rfl ?_
  refine x_iload_n dC_moveGathered_28 rfl (n := 29) rfl ?_
  obtain ⟨h, h'⟩ := h
  refine x_icmp_ge (tgt := 65) dC_moveGathered_29 rfl (n := 32) rfl (fun c53 => ?_) (fun c53 => ?_)
  · replace h := h c53
    refine x_aload_n dC_moveGathered_65 rfl (n := 66) rfl ?_
    obtain ⟨k1, h⟩ := h
    refine x_getR rfl dC_moveGathered_66 fC_28 k1 (n := 69) rfl ?_
    refine x_iconst (v := 5) dC_moveGathered_69 (by decide) (n := 70) rfl ?_
    refine x_dup2 dC_moveGathered_70 rfl rfl (n := 71) rfl ?_
    obtain ⟨a2, e3, h⟩ := h
    obtain ⟨n5, k4, h⟩ := h
    obtain ⟨c6, h⟩ := h
    refine x_iald e3 dC_moveGathered_71 k4 c6 (n := 72) rfl ?_
    refine x_aload_n dC_moveGathered_72 rfl (n := 73) rfl ?_
    refine x_iload_n dC_moveGathered_73 rfl (n := 74) rfl ?_
    refine x_iconst (v := 0) dC_moveGathered_74 (by decide) (n := 75) rfl ?_
    obtain ⟨a7, e8, h⟩ := h
    obtain ⟨k9, h⟩ := h
    refine x_invV (m := m) e8 dC_moveGathered_75 gC_moveGathered_75 (as := [vI x3, vI (0 : Int32)]) (st := [vI (gI m a2 (5 : Int32).toNatClampNeg), vI (5 : Int32), vR (gR m a0 3)]) rfl rfl k9 rfl rfl (Nat.le_of_ble_eq_true rfl) (n := 78) rfl rfl rfl h (xBk.I fun v11 m10 h => ?_)
    refine x_iadd dC_moveGathered_78 (n := 79) rfl ?_
    obtain ⟨n13, k12, h⟩ := h
    obtain ⟨c14, h⟩ := h
    replace h := h _ rfl
    refine x_iast e3 dC_moveGathered_79 k12 c14 (n := 80) rfl ?_
    refine x_aload_n dC_moveGathered_80 rfl (n := 81) rfl ?_
    obtain ⟨k16, h⟩ := h
    refine x_getR rfl dC_moveGathered_81 fC_28 k16 (n := 84) rfl ?_
    refine x_bipush (v := 6) dC_moveGathered_84 (by decide) (n := 86) rfl ?_
    refine x_dup2 dC_moveGathered_86 rfl rfl (n := 87) rfl ?_
    obtain ⟨a17, e18, h⟩ := h
    obtain ⟨n20, k19, h⟩ := h
    obtain ⟨c21, h⟩ := h
    refine x_iald e18 dC_moveGathered_87 k19 c21 (n := 88) rfl ?_
    refine x_aload_n dC_moveGathered_88 rfl (n := 89) rfl ?_
    refine x_iload_n dC_moveGathered_89 rfl (n := 90) rfl ?_
    refine x_iconst (v := 1) dC_moveGathered_90 (by decide) (n := 91) rfl ?_
    obtain ⟨k22, h⟩ := h
    refine x_invV (m := (mI m10 a2 (5 : Int32).toNatClampNeg ((gI m a2 (5 : Int32).toNatClampNeg) + v11))) e8 dC_moveGathered_91 gC_moveGathered_91 (as := [vI x3, vI (1 : Int32)]) (st := [vI (gI (mI m10 a2 (5 : Int32).toNatClampNeg ((gI m a2 (5 : Int32).toNatClampNeg) + v11)) a17 (6 : Int32).toNatClampNeg), vI (6 : Int32), vR (gR m10 a0 3)]) rfl rfl k22 rfl rfl (Nat.le_of_ble_eq_true rfl) (n := 94) rfl rfl rfl h (xBk.I fun v24 m23 h => ?_)
    refine x_iadd dC_moveGathered_94 (n := 95) rfl ?_
    obtain ⟨n26, k25, h⟩ := h
    obtain ⟨c27, h⟩ := h
    replace h := h _ rfl
    refine x_iast e18 dC_moveGathered_95 k25 c27 (n := 96) rfl ?_
    refine x_iconst (v := 0) dC_moveGathered_96 (by decide) (n := 97) rfl ?_
    refine x_istore dC_moveGathered_97 (by decide) (L' := [some (vR (some a0)), some (vR o1), some (vI x2), some (vI x3), some (vI (0 : Int32))]) rfl (n := 99) rfl ?_
    exact h
  · replace h := h' c53
    refine x_aload_n dC_moveGathered_32 rfl (n := 33) rfl ?_
    refine x_aload_n dC_moveGathered_33 rfl (n := 34) rfl ?_
    obtain ⟨k29, h⟩ := h
    refine x_getR rfl dC_moveGathered_34 fC_33 k29 (n := 37) rfl ?_
    refine x_iload dC_moveGathered_37 rfl (n := 39) rfl ?_
    obtain ⟨a30, e31, h⟩ := h
    obtain ⟨n33, k32, h⟩ := h
    obtain ⟨c34, h⟩ := h
    refine x_aald e31 dC_moveGathered_39 k32 (by decide) c34 (n := 40) rfl ?_
    obtain ⟨a35, e36, h⟩ := h
    obtain ⟨k37, h⟩ := h
    refine x_getL e36 dC_moveGathered_40 fC_175 k37 (n := 43) rfl ?_
    obtain ⟨a38, e39, h⟩ := h
    obtain ⟨k40, h⟩ := h
    refine x_invV (m := m) e39 dC_moveGathered_43 gC_moveGathered_43 (as := [vL (gL m a35 0)]) (st := []) rfl rfl k40 rfl rfl (Nat.le_of_ble_eq_true rfl) (n := 46) rfl rfl rfl h (xBk.V fun m41 h => ?_)
    refine x_iload_n dC_moveGathered_46 rfl (n := 47) rfl ?_
    refine x_aload_n dC_moveGathered_47 rfl (n := 48) rfl ?_
    obtain ⟨k42, h⟩ := h
    refine x_getR rfl dC_moveGathered_48 fC_33 k42 (n := 51) rfl ?_
    refine x_iload dC_moveGathered_51 rfl (n := 53) rfl ?_
    obtain ⟨a43, e44, h⟩ := h
    obtain ⟨n46, k45, h⟩ := h
    obtain ⟨c47, h⟩ := h
    refine x_aald e44 dC_moveGathered_53 k45 (by decide) c47 (n := 54) rfl ?_
    obtain ⟨a48, e49, h⟩ := h
    obtain ⟨k50, h⟩ := h
    refine x_invV (m := m41) e49 dC_moveGathered_54 gC_moveGathered_54 (as := []) (st := [vI x3]) rfl rfl k50 rfl rfl (Nat.le_of_ble_eq_true rfl) (n := 57) rfl rfl rfl h (xBk.I fun v52 m51 h => ?_)
    refine x_iadd dC_moveGathered_57 (n := 58) rfl ?_
    refine x_istore_n dC_moveGathered_58 (by decide) (L' := [some (vR (some a0)), some (vR o1), some (vI x2), some (vI (x3 + v52)), some (vI x4)]) rfl (n := 59) rfl ?_
    refine x_iinc (v := x4 + 1) dC_moveGathered_59 rfl rfl (by decide) (L' := [some (vR (some a0)), some (vR o1), some (vI x2), some (vI (x3 + v52)), some (vI (x4 + 1))]) rfl (n := 62) rfl ?_
    refine x_goto (tgt := 26) dC_moveGathered_62 rfl ?_
    exact h
set_option maxRecDepth 100000 in
set_option maxHeartbeats 4000000 in
theorem bC_moveGathered_99 {l : Launch} {G : xG} {m : XM} {bc bs : Nat} {Q : XR → XM → Prop} {a0 : Nat} {o1 : Option Nat} {x2 : Int32} {x3 : Int32} {x4 : Int32}
    (h : ((x2 ≤ x4 → ∃ a1, o1 = some a1 ∧ kd m a1 = some (oB 3) ∧ CC l G xP_clearMarks [vR (some a1)] m (kV (fun m4 => kd m4 a0 = some (oB 4) ∧ ∃ a6, gR m4 a0 3 = some a6 ∧ ∃ n9, kd m4 a6 = some (aR 0 n9) ∧ vp_in (1 : Int32) n9 ∧ vp_in (1 : Int32) n9 ∧ ∀ m12, m12 = mI m4 a6 (1 : Int32).toNatClampNeg ((gI m4 a6 (1 : Int32).toNatClampNeg) + (1 : Int32)) → Q (.inl none) m12) Q)) ∧ (¬ x2 ≤ x4 → ∃ a13, o1 = some a13 ∧ kd m a13 = some (oB 3) ∧ CC l G xP_hasRoomFor [vR (some a13), vI x3] m (kI (fun v17 m16 => ((v17 = 0 → kd m16 a0 = some (oB 4) ∧ ∃ a19, gR m16 a0 3 = some a19 ∧ ∃ n22, kd m16 a19 = some (aR 0 n22) ∧ vp_in (7 : Int32) n22 ∧ vp_in (7 : Int32) n22 ∧ ∀ m25, m25 = mI m16 a19 (7 : Int32).toNatClampNeg ((gI m16 a19 (7 : Int32).toNatClampNeg) + (1 : Int32)) → WW l G xC_moveGathered 138 [some (vR (some a0)), some (vR o1), some (vI x2), some (vI x3), some (vI x4)] [] m25 bc bs Q) ∧ (¬ v17 = 0 → kd m16 a0 = some (oB 4) ∧ ∃ a27, gR m16 a0 4 = some a27 ∧ ∃ n30, kd m16 a27 = some (aR 3 n30) ∧ vp_in x4 n30 ∧ kd m16 a13 = some (oB 3) ∧ CC l G xP_add [vR (some a13), vR (gR m16 a27 x4.toNatClampNeg)] m16 (kV (fun m33 => WW l G xC_moveGathered 138 [some (vR (some a0)), some (vR o1), some (vI x2), some (vI x3), some (vI x4)] [] m33 bc bs Q) Q)))) Q)))) :
    WW l G xC_moveGathered 99 [some (vR (some a0)), some (vR o1), some (vI x2), some (vI x3), some (vI x4)] [] m bc bs Q := by
  refine x_iload dC_moveGathered_99 rfl (n := 101) rfl ?_
  refine x_iload_n dC_moveGathered_101 rfl (n := 102) rfl ?_
  obtain ⟨h, h'⟩ := h
  refine x_icmp_ge (tgt := 157) dC_moveGathered_102 rfl (n := 105) rfl (fun c35 => ?_) (fun c35 => ?_)
  · replace h := h c35
    refine x_aload_n dC_moveGathered_157 rfl (n := 158) rfl ?_
    obtain ⟨a1, e2, h⟩ := h
    obtain ⟨k3, h⟩ := h
    refine x_invV (m := m) e2 dC_moveGathered_158 gC_moveGathered_158 (as := []) (st := []) rfl rfl k3 rfl rfl (Nat.le_of_ble_eq_true rfl) (n := 161) rfl rfl rfl h (xBk.V fun m4 h => ?_)
    refine x_aload_n dC_moveGathered_161 rfl (n := 162) rfl ?_
    obtain ⟨k5, h⟩ := h
    refine x_getR rfl dC_moveGathered_162 fC_28 k5 (n := 165) rfl ?_
    refine x_iconst (v := 1) dC_moveGathered_165 (by decide) (n := 166) rfl ?_
    refine x_dup2 dC_moveGathered_166 rfl rfl (n := 167) rfl ?_
    obtain ⟨a6, e7, h⟩ := h
    obtain ⟨n9, k8, h⟩ := h
    obtain ⟨c10, h⟩ := h
    refine x_iald e7 dC_moveGathered_167 k8 c10 (n := 168) rfl ?_
    refine x_iconst (v := 1) dC_moveGathered_168 (by decide) (n := 169) rfl ?_
    refine x_iadd dC_moveGathered_169 (n := 170) rfl ?_
    obtain ⟨c11, h⟩ := h
    replace h := h _ rfl
    refine x_iast e7 dC_moveGathered_170 k8 c11 (n := 171) rfl ?_
    exact x_vret dC_moveGathered_171 rfl h
  · replace h := h' c35
    refine x_aload_n dC_moveGathered_105 rfl (n := 106) rfl ?_
    refine x_iload_n dC_moveGathered_106 rfl (n := 107) rfl ?_
    obtain ⟨a13, e14, h⟩ := h
    obtain ⟨k15, h⟩ := h
    refine x_invV (m := m) e14 dC_moveGathered_107 gC_moveGathered_107 (as := [vI x3]) (st := []) rfl rfl k15 rfl rfl (Nat.le_of_ble_eq_true rfl) (n := 110) rfl rfl rfl h (xBk.I fun v17 m16 h => ?_)
    obtain ⟨h, h'⟩ := h
    refine x_if_eq (tgt := 127) dC_moveGathered_110 rfl (n := 113) rfl (fun c34 => ?_) (fun c34 => ?_)
    · replace h := h c34
      refine x_aload_n dC_moveGathered_127 rfl (n := 128) rfl ?_
      obtain ⟨k18, h⟩ := h
      refine x_getR rfl dC_moveGathered_128 fC_28 k18 (n := 131) rfl ?_
      refine x_bipush (v := 7) dC_moveGathered_131 (by decide) (n := 133) rfl ?_
      refine x_dup2 dC_moveGathered_133 rfl rfl (n := 134) rfl ?_
      obtain ⟨a19, e20, h⟩ := h
      obtain ⟨n22, k21, h⟩ := h
      obtain ⟨c23, h⟩ := h
      refine x_iald e20 dC_moveGathered_134 k21 c23 (n := 135) rfl ?_
      refine x_iconst (v := 1) dC_moveGathered_135 (by decide) (n := 136) rfl ?_
      refine x_iadd dC_moveGathered_136 (n := 137) rfl ?_
      obtain ⟨c24, h⟩ := h
      replace h := h _ rfl
      refine x_iast e20 dC_moveGathered_137 k21 c24 (n := 138) rfl ?_
      exact h
    · replace h := h' c34
      refine x_aload_n dC_moveGathered_113 rfl (n := 114) rfl ?_
      refine x_aload_n dC_moveGathered_114 rfl (n := 115) rfl ?_
      obtain ⟨k26, h⟩ := h
      refine x_getR rfl dC_moveGathered_115 fC_33 k26 (n := 118) rfl ?_
      refine x_iload dC_moveGathered_118 rfl (n := 120) rfl ?_
      obtain ⟨a27, e28, h⟩ := h
      obtain ⟨n30, k29, h⟩ := h
      obtain ⟨c31, h⟩ := h
      refine x_aald e28 dC_moveGathered_120 k29 (by decide) c31 (n := 121) rfl ?_
      obtain ⟨k32, h⟩ := h
      refine x_invV (m := m16) e14 dC_moveGathered_121 gC_moveGathered_121 (as := [vR (gR m16 a27 x4.toNatClampNeg)]) (st := []) rfl rfl k32 rfl rfl (Nat.le_of_ble_eq_true rfl) (n := 124) rfl rfl rfl h (xBk.V fun m33 h => ?_)
      refine x_goto (tgt := 138) dC_moveGathered_124 rfl ?_
      exact h
set_option maxRecDepth 100000 in
set_option maxHeartbeats 4000000 in
theorem bC_moveGathered_138 {l : Launch} {G : xG} {m : XM} {bc bs : Nat} {Q : XR → XM → Prop} {a0 : Nat} {o1 : Option Nat} {x2 : Int32} {x3 : Int32} {x4 : Int32}
    (h : kd m a0 = some (oB 4) ∧ ∃ a2, gR m a0 4 = some a2 ∧ ∃ n5, kd m a2 = some (aR 3 n5) ∧ vp_in x4 n5 ∧ ∃ a7, gR m a2 x4.toNatClampNeg = some a7 ∧ kd m a7 = some (oB 1) ∧ CC l G xT_words [vR (some a7)] m (kI (fun v11 m10 => WW l G xC_moveGathered 99 [some (vR (some a0)), some (vR o1), some (vI x2), some (vI (x3 - v11)), some (vI (x4 + 1))] [] m10 bc bs Q) Q)) :
    WW l G xC_moveGathered 138 [some (vR (some a0)), some (vR o1), some (vI x2), some (vI x3), some (vI x4)] [] m bc bs Q := by
  refine x_iload_n dC_moveGathered_138 rfl (n := 139) rfl ?_
  refine x_aload_n dC_moveGathered_139 rfl (n := 140) rfl ?_
  obtain ⟨k1, h⟩ := h
  refine x_getR rfl dC_moveGathered_140 fC_33 k1 (n := 143) rfl ?_
  refine x_iload dC_moveGathered_143 rfl (n := 145) rfl ?_
  obtain ⟨a2, e3, h⟩ := h
  obtain ⟨n5, k4, h⟩ := h
  obtain ⟨c6, h⟩ := h
  refine x_aald e3 dC_moveGathered_145 k4 (by decide) c6 (n := 146) rfl ?_
  obtain ⟨a7, e8, h⟩ := h
  obtain ⟨k9, h⟩ := h
  refine x_invV (m := m) e8 dC_moveGathered_146 gC_moveGathered_146 (as := []) (st := [vI x3]) rfl rfl k9 rfl rfl (Nat.le_of_ble_eq_true rfl) (n := 149) rfl rfl rfl h (xBk.I fun v11 m10 h => ?_)
  refine x_isub dC_moveGathered_149 (n := 150) rfl ?_
  refine x_istore_n dC_moveGathered_150 (by decide) (L' := [some (vR (some a0)), some (vR o1), some (vI x2), some (vI (x3 - v11)), some (vI x4)]) rfl (n := 151) rfl ?_
  refine x_iinc (v := x4 + 1) dC_moveGathered_151 rfl rfl (by decide) (L' := [some (vR (some a0)), some (vR o1), some (vI x2), some (vI (x3 - v11)), some (vI (x4 + 1))]) rfl (n := 154) rfl ?_
  refine x_goto (tgt := 99) dC_moveGathered_154 rfl ?_
  exact h
set_option maxRecDepth 100000 in
set_option maxHeartbeats 4000000 in
theorem bC_moveGathered {l : Launch} {G : xG} {m : XM} {Q : XR → XM → Prop} {a0 : Nat} {o1 : Option Nat} {x2 : Int32} (hst : l.stackTraces = false)
    (h : kd m a0 = some (oB 4) ∧ ∃ a2, gR m a0 3 = some a2 ∧ ∃ n5, kd m a2 = some (aR 0 n5) ∧ vp_in (9 : Int32) n5 ∧ vp_in (9 : Int32) n5 ∧ ∀ m8, m8 = mI m a2 (9 : Int32).toNatClampNeg ((gI m a2 (9 : Int32).toNatClampNeg) + (1 : Int32)) → vp_in (4 : Int32) n5 ∧ vp_in (4 : Int32) n5 ∧ ∀ m11, m11 = mI m8 a2 (4 : Int32).toNatClampNeg ((gI m8 a2 (4 : Int32).toNatClampNeg) + x2) → WW l G xC_moveGathered 26 [some (vR (some a0)), some (vR o1), some (vI x2), some (vI (0 : Int32)), some (vI (0 : Int32))] [] m11 0 0 Q) :
    CC l G xC_moveGathered [vR (some a0), vR o1, vI x2] m Q := by
  refine x_entry (by decide +kernel) rfl hst (Nat.le_of_ble_eq_true rfl) (L0 := [some (vR (some a0)), some (vR o1), some (vI x2), none, none]) rfl ?_
  refine x_aload_n dC_moveGathered_0 rfl (n := 1) rfl ?_
  obtain ⟨k1, h⟩ := h
  refine x_getR rfl dC_moveGathered_1 fC_28 k1 (n := 4) rfl ?_
  refine x_bipush (v := 9) dC_moveGathered_4 (by decide) (n := 6) rfl ?_
  refine x_dup2 dC_moveGathered_6 rfl rfl (n := 7) rfl ?_
  obtain ⟨a2, e3, h⟩ := h
  obtain ⟨n5, k4, h⟩ := h
  obtain ⟨c6, h⟩ := h
  refine x_iald e3 dC_moveGathered_7 k4 c6 (n := 8) rfl ?_
  refine x_iconst (v := 1) dC_moveGathered_8 (by decide) (n := 9) rfl ?_
  refine x_iadd dC_moveGathered_9 (n := 10) rfl ?_
  obtain ⟨c7, h⟩ := h
  replace h := h _ rfl
  refine x_iast e3 dC_moveGathered_10 k4 c7 (n := 11) rfl ?_
  refine x_aload_n dC_moveGathered_11 rfl (n := 12) rfl ?_
  refine x_getR rfl dC_moveGathered_12 fC_28 k1 (n := 15) rfl ?_
  refine x_iconst (v := 4) dC_moveGathered_15 (by decide) (n := 16) rfl ?_
  refine x_dup2 dC_moveGathered_16 rfl rfl (n := 17) rfl ?_
  obtain ⟨c9, h⟩ := h
  refine x_iald e3 dC_moveGathered_17 k4 c9 (n := 18) rfl ?_
  refine x_iload_n dC_moveGathered_18 rfl (n := 19) rfl ?_
  refine x_iadd dC_moveGathered_19 (n := 20) rfl ?_
  obtain ⟨c10, h⟩ := h
  replace h := h _ rfl
  refine x_iast e3 dC_moveGathered_20 k4 c10 (n := 21) rfl ?_
  refine x_iconst (v := 0) dC_moveGathered_21 (by decide) (n := 22) rfl ?_
  refine x_istore_n dC_moveGathered_22 (by decide) (L' := [some (vR (some a0)), some (vR o1), some (vI x2), some (vI (0 : Int32)), none]) rfl (n := 23) rfl ?_
  refine x_iconst (v := 0) dC_moveGathered_23 (by decide) (n := 24) rfl ?_
  refine x_istore dC_moveGathered_24 (by decide) (L' := [some (vR (some a0)), some (vR o1), some (vI x2), some (vI (0 : Int32)), some (vI (0 : Int32))]) rfl (n := 26) rfl ?_
  exact h
set_option maxRecDepth 100000 in
set_option maxHeartbeats 4000000 in
theorem bC_get_63 {l : Launch} {G : xG} {m : XM} {bc bs : Nat} {Q : XR → XM → Prop} {a0 : Nat} {x1 : Int64}
    (h : kd m a0 = some (oB 4) ∧ ((gR m a0 6 = none → Q (.inl (some (vI (0 : Int32)))) m) ∧ (∀ a2, gR m a0 6 = some a2 → kd m a2 = some (oB 1) ∧ ∀ m5, m5 = mI m a2 5 (1 : Int32) → ∃ a6, gR m a2 1 = some a6 ∧ ∃ n9, kd m a6 = some (aR 0 n9) ∧ Q (.inl (some (vI (Int32.ofNat n9)))) m5))) :
    WW l G xC_get 63 [some (vR (some a0)), some (vL x1), none] [] m bc bs Q := by
  refine x_aload_n dC_get_63 rfl (n := 64) rfl ?_
  obtain ⟨k1, h⟩ := h
  refine x_getR rfl dC_get_64 fC_40 k1 (n := 67) rfl ?_
  obtain ⟨h, h'⟩ := h
  refine x_ifnonnull (tgt := 72) dC_get_67 rfl (n := 70) rfl (fun a2 e3 => ?_) (fun e3 => ?_)
  · replace h := h' a2 e3
    refine x_aload_n dC_get_72 rfl (n := 73) rfl ?_
    refine x_getR rfl dC_get_73 fC_40 k1 (n := 76) rfl ?_
    refine x_iconst (v := 1) dC_get_76 (by decide) (n := 77) rfl ?_
    obtain ⟨k4, h⟩ := h
    replace h := h _ rfl
    refine x_putI e3 dC_get_77 pC_93 k4 (by decide) (by decide) (n := 80) rfl ?_
    refine x_aload_n dC_get_80 rfl (n := 81) rfl ?_
    refine x_getR rfl dC_get_81 fC_40 k1 (n := 84) rfl ?_
    refine x_getR e3 dC_get_84 fC_96 k4 (n := 87) rfl ?_
    obtain ⟨a6, e7, h⟩ := h
    obtain ⟨n9, k8, h⟩ := h
    refine x_alen e7 dC_get_87 k8 (by decide) (n := 88) rfl ?_
    exact x_iret dC_get_88 rfl h
  · replace h := h e3
    refine x_iconst (v := 0) dC_get_70 (by decide) (n := 71) rfl ?_
    exact x_iret dC_get_71 rfl h
set_option maxRecDepth 100000 in
set_option maxHeartbeats 4000000 in
theorem bC_get {l : Launch} {G : xG} {m : XM} {Q : XR → XM → Prop} {a0 : Nat} {x1 : Int64} (hst : l.stackTraces = false)
    (h : kd m a0 = some (oB 4) ∧ ∃ bc2 bs3, 1 = bc2 + 1 ∧ 6 = bs3 + 6 ∧ CC l G xC_refuseWhenClosed [vR (some a0)] m (kV (fun m6 => kd m6 a0 = some (oB 4) ∧ ∃ a8, gR m6 a0 2 = some a8 ∧ kd m6 a8 = some (oB 2) ∧ ∃ a11, gR m6 a8 1 = some a11 ∧ kd m6 a11 = some (oB 0) ∧ CC l G xI_find [vR (some a11), vL x1] m6 (kR (fun v15 m14 => kd m14 a0 = some (oB 4) ∧ ∀ m17, m17 = mR m14 a0 6 v15 → ((gR m17 a0 6 = none → CC l G xC_readFromSet [vR (some a0), vL x1] m17 (kR (fun v21 m20 => kd m20 a0 = some (oB 4) ∧ ∀ m23, m23 = mR m20 a0 6 v21 → WW l G xC_get 63 [some (vR (some a0)), some (vL x1), none] [] m23 bc2 bs3 Q) Q)) ∧ (∀ a18, gR m17 a0 6 = some a18 → ∃ a24, gR m17 a0 2 = some a24 ∧ kd m14 a24 = some (oB 2) ∧ CC l G xG_hasInOpenPage [vR (some a24), vR (gR m17 a0 6)] m17 (kI (fun v28 m27 => ((¬ v28 = 0 → WW l G xC_get 63 [some (vR (some a0)), some (vL x1), none] [] m27 bc2 bs3 Q) ∧ (v28 = 0 → kd m27 a0 = some (oB 4) ∧ ∃ a30, gR m27 a0 3 = some a30 ∧ ∃ n33, kd m27 a30 = some (aR 0 n33) ∧ vp_in (9 : Int32) n33 ∧ vp_in (9 : Int32) n33 ∧ ∀ m36, m36 = mI m27 a30 (9 : Int32).toNatClampNeg ((gI m27 a30 (9 : Int32).toNatClampNeg) + (1 : Int32)) → WW l G xC_get 63 [some (vR (some a0)), some (vL x1), none] [] m36 bc2 bs3 Q))) Q)))) Q)) Q)) :
    CC l G xC_get [vR (some a0), vL x1] m Q := by
  refine x_entry (by decide +kernel) rfl hst (Nat.le_of_ble_eq_true rfl) (L0 := [some (vR (some a0)), some (vL x1), none]) rfl ?_
  refine x_aload_n dC_get_0 rfl (n := 1) rfl ?_
  obtain ⟨k1, h⟩ := h
  obtain ⟨bc2, bs3, b4, b5, h⟩ := h
  refine x_invV (m := m) rfl dC_get_1 gC_get_1 (as := []) (st := []) rfl rfl k1 rfl rfl (Nat.le_of_ble_eq_true rfl) (n := 4) rfl b4 b5 h (xBk.V fun m6 h => ?_)
  refine x_aload_n dC_get_4 rfl (n := 5) rfl ?_
  refine x_aload_n dC_get_5 rfl (n := 6) rfl ?_
  obtain ⟨k7, h⟩ := h
  refine x_getR rfl dC_get_6 fC_24 k7 (n := 9) rfl ?_
  obtain ⟨a8, e9, h⟩ := h
  obtain ⟨k10, h⟩ := h
  refine x_getR e9 dC_get_9 fC_77 k10 (n := 12) rfl ?_
  refine x_lload_n dC_get_12 rfl (n := 13) rfl ?_
  obtain ⟨a11, e12, h⟩ := h
  obtain ⟨k13, h⟩ := h
  refine x_invV (m := m6) e12 dC_get_13 gC_get_13 (as := [vL x1]) (st := [vR (some a0)]) rfl rfl k13 rfl rfl (Nat.le_of_ble_eq_true rfl) (n := 16) rfl rfl rfl h (xBk.R fun v15 m14 h => ?_)
  obtain ⟨k16, h⟩ := h
  replace h := h _ rfl
  refine x_putR rfl dC_get_16 pC_40 k16 (fun o => by cases o <;> rfl) (fun o => by cases o <;> rfl) (n := 19) rfl ?_
  refine x_aload_n dC_get_19 rfl (n := 20) rfl ?_
  refine x_getR rfl dC_get_20 fC_40 k16 (n := 23) rfl ?_
  obtain ⟨h, h'⟩ := h
  refine x_ifnonnull (tgt := 38) dC_get_23 rfl (n := 26) rfl (fun a18 e19 => ?_) (fun e19 => ?_)
  · replace h := h' a18 e19
    refine x_aload_n dC_get_38 rfl (n := 39) rfl ?_
    refine x_getR rfl dC_get_39 fC_24 k16 (n := 42) rfl ?_
    refine x_aload_n dC_get_42 rfl (n := 43) rfl ?_
    refine x_getR rfl dC_get_43 fC_40 k16 (n := 46) rfl ?_
    obtain ⟨a24, e25, h⟩ := h
    obtain ⟨k26, h⟩ := h
    refine x_invV (m := (mR m14 a0 6 v15)) e25 dC_get_46 gC_get_46 (as := [vR (gR (mR m14 a0 6 v15) a0 6)]) (st := []) rfl rfl k26 rfl rfl (Nat.le_of_ble_eq_true rfl) (n := 49) rfl rfl rfl h (xBk.I fun v28 m27 h => ?_)
    obtain ⟨h, h'⟩ := h
    refine x_if_ne (tgt := 63) dC_get_49 rfl (n := 52) rfl (fun c37 => ?_) (fun c37 => ?_)
    · replace h := h c37
      exact h
    · replace h := h' c37
      refine x_aload_n dC_get_52 rfl (n := 53) rfl ?_
      obtain ⟨k29, h⟩ := h
      refine x_getR rfl dC_get_53 fC_28 k29 (n := 56) rfl ?_
      refine x_bipush (v := 9) dC_get_56 (by decide) (n := 58) rfl ?_
      refine x_dup2 dC_get_58 rfl rfl (n := 59) rfl ?_
      obtain ⟨a30, e31, h⟩ := h
      obtain ⟨n33, k32, h⟩ := h
      obtain ⟨c34, h⟩ := h
      refine x_iald e31 dC_get_59 k32 c34 (n := 60) rfl ?_
      refine x_iconst (v := 1) dC_get_60 (by decide) (n := 61) rfl ?_
      refine x_iadd dC_get_61 (n := 62) rfl ?_
      obtain ⟨c35, h⟩ := h
      replace h := h _ rfl
      refine x_iast e31 dC_get_62 k32 c35 (n := 63) rfl ?_
      exact h
  · replace h := h e19
    refine x_aload_n dC_get_26 rfl (n := 27) rfl ?_
    refine x_aload_n dC_get_27 rfl (n := 28) rfl ?_
    refine x_lload_n dC_get_28 rfl (n := 29) rfl ?_
    refine x_invV (m := (mR m14 a0 6 v15)) rfl dC_get_29 gC_get_29 (as := [vL x1]) (st := [vR (some a0)]) rfl rfl k16 rfl rfl (Nat.le_of_ble_eq_true rfl) (n := 32) rfl rfl rfl h (xBk.R fun v21 m20 h => ?_)
    obtain ⟨k22, h⟩ := h
    replace h := h _ rfl
    refine x_putR rfl dC_get_32 pC_40 k22 (fun o => by cases o <;> rfl) (fun o => by cases o <;> rfl) (n := 35) rfl ?_
    refine x_goto (tgt := 63) dC_get_35 rfl ?_
    exact h
set_option maxRecDepth 100000 in
set_option maxHeartbeats 4000000 in
theorem bC_got {l : Launch} {G : xG} {m : XM} {Q : XR → XM → Prop} {a0 : Nat} {x1 : Int32} (hst : l.stackTraces = false)
    (h : kd m a0 = some (oB 4) ∧ ((gR m a0 6 = none → (1 ≤ 1 ∧ 6 ≤ 6 ∧ Q (.inr "java/lang/IndexOutOfBoundsException") m)) ∧ (∀ a2, gR m a0 6 = some a2 → ((x1 < 0 → (1 ≤ 1 ∧ 6 ≤ 6 ∧ Q (.inr "java/lang/IndexOutOfBoundsException") m)) ∧ (¬ x1 < 0 → kd m a2 = some (oB 1) ∧ ∃ a5, gR m a2 1 = some a5 ∧ ∃ n8, kd m a5 = some (aR 0 n8) ∧ ((x1 < (Int32.ofNat n8) → vp_in x1 n8 ∧ Q (.inl (some (vI (gI m a5 x1.toNatClampNeg)))) m) ∧ (¬ x1 < (Int32.ofNat n8) → (1 ≤ 1 ∧ 6 ≤ 6 ∧ Q (.inr "java/lang/IndexOutOfBoundsException") m)))))))) :
    CC l G xC_got [vR (some a0), vI x1] m Q := by
  refine x_entry (by decide +kernel) rfl hst (Nat.le_of_ble_eq_true rfl) (L0 := [some (vR (some a0)), some (vI x1)]) rfl ?_
  refine x_aload_n dC_got_0 rfl (n := 1) rfl ?_
  obtain ⟨k1, h⟩ := h
  refine x_getR rfl dC_got_1 fC_40 k1 (n := 4) rfl ?_
  obtain ⟨h, h'⟩ := h
  refine x_ifnull (tgt := 23) dC_got_4 rfl (n := 7) rfl (fun e3 => ?_) (fun a2 e3 => ?_)
  · replace h := h e3
    exact x_throw0 tC_got_23 dC_got_23 dC_got_26 dC_got_27 dC_got_30 h.1 h.2.1 h.2.2
  · replace h := h' a2 e3
    refine x_iload_n dC_got_7 rfl (n := 8) rfl ?_
    obtain ⟨h, h'⟩ := h
    refine x_if_lt (tgt := 23) dC_got_8 rfl (n := 11) rfl (fun c11 => ?_) (fun c11 => ?_)
    · replace h := h c11
      exact x_throw0 tC_got_23 dC_got_23 dC_got_26 dC_got_27 dC_got_30 h.1 h.2.1 h.2.2
    · replace h := h' c11
      refine x_iload_n dC_got_11 rfl (n := 12) rfl ?_
      refine x_aload_n dC_got_12 rfl (n := 13) rfl ?_
      refine x_getR rfl dC_got_13 fC_40 k1 (n := 16) rfl ?_
      obtain ⟨k4, h⟩ := h
      refine x_getR e3 dC_got_16 fC_96 k4 (n := 19) rfl ?_
      obtain ⟨a5, e6, h⟩ := h
      obtain ⟨n8, k7, h⟩ := h
      refine x_alen e6 dC_got_19 k7 (by decide) (n := 20) rfl ?_
      obtain ⟨h, h'⟩ := h
      refine x_icmp_lt (tgt := 31) dC_got_20 rfl (n := 23) rfl (fun c10 => ?_) (fun c10 => ?_)
      · replace h := h c10
        refine x_aload_n dC_got_31 rfl (n := 32) rfl ?_
        refine x_getR rfl dC_got_32 fC_40 k1 (n := 35) rfl ?_
        refine x_getR e3 dC_got_35 fC_96 k4 (n := 38) rfl ?_
        refine x_iload_n dC_got_38 rfl (n := 39) rfl ?_
        obtain ⟨c9, h⟩ := h
        refine x_iald e6 dC_got_39 k7 c9 (n := 40) rfl ?_
        exact x_iret dC_got_40 rfl h
      · replace h := h' c10
        exact x_throw0 tC_got_23 dC_got_23 dC_got_26 dC_got_27 dC_got_30 h.1 h.2.1 h.2.2
set_option maxRecDepth 100000 in
set_option maxHeartbeats 4000000 in
theorem bC_delete {l : Launch} {G : xG} {m : XM} {Q : XR → XM → Prop} {a0 : Nat} {x1 : Int64} (hst : l.stackTraces = false)
    (h : kd m a0 = some (oB 4) ∧ ∃ bc2 bs3, 1 = bc2 + 1 ∧ 6 = bs3 + 6 ∧ CC l G xC_refuseWhenClosed [vR (some a0)] m (kV (fun m6 => kd m6 a0 = some (oB 4) ∧ ∃ a8, gR m6 a0 2 = some a8 ∧ kd m6 a8 = some (oB 2) ∧ ∃ a11, gR m6 a8 1 = some a11 ∧ kd m6 a11 = some (oB 0) ∧ CC l G xI_remove [vR (some a11), vL x1] m6 (kI (fun v15 m14 => kd m14 a0 = some (oB 4) ∧ CC l G xC_removeFromSet [vR (some a0), vL x1, vI (3 : Int32)] m14 (kI (fun v18 m17 => ((¬ v15 = 0 → Q (.inl (some (vI (1 : Int32)))) m17) ∧ (v15 = 0 → ((v18 = 0 → Q (.inl (some (vI (0 : Int32)))) m17) ∧ (¬ v18 = 0 → Q (.inl (some (vI (1 : Int32)))) m17))))) Q)) Q)) Q)) :
    CC l G xC_delete [vR (some a0), vL x1] m Q := by
  refine x_entry (by decide +kernel) rfl hst (Nat.le_of_ble_eq_true rfl) (L0 := [some (vR (some a0)), some (vL x1), none, none, none]) rfl ?_
  refine x_aload_n dC_delete_0 rfl (n := 1) rfl ?_
  obtain ⟨k1, h⟩ := h
  obtain ⟨bc2, bs3, b4, b5, h⟩ := h
  refine x_invV (m := m) rfl dC_delete_1 gC_delete_1 (as := []) (st := []) rfl rfl k1 rfl rfl (Nat.le_of_ble_eq_true rfl) (n := 4) rfl b4 b5 h (xBk.V fun m6 h => ?_)
  refine x_aload_n dC_delete_4 rfl (n := 5) rfl ?_
  obtain ⟨k7, h⟩ := h
  refine x_getR rfl dC_delete_5 fC_24 k7 (n := 8) rfl ?_
  obtain ⟨a8, e9, h⟩ := h
  obtain ⟨k10, h⟩ := h
  refine x_getR e9 dC_delete_8 fC_77 k10 (n := 11) rfl ?_
  refine x_lload_n dC_delete_11 rfl (n := 12) rfl ?_
  obtain ⟨a11, e12, h⟩ := h
  obtain ⟨k13, h⟩ := h
  refine x_invV (m := m6) e12 dC_delete_12 gC_delete_12 (as := [vL x1]) (st := []) rfl rfl k13 rfl rfl (Nat.le_of_ble_eq_true rfl) (n := 15) rfl rfl rfl h (xBk.I fun v15 m14 h => ?_)
  refine x_istore_n dC_delete_15 (by decide) (L' := [some (vR (some a0)), some (vL x1), none, some (vI v15), none]) rfl (n := 16) rfl ?_
  refine x_aload_n dC_delete_16 rfl (n := 17) rfl ?_
  refine x_lload_n dC_delete_17 rfl (n := 18) rfl ?_
  refine x_iconst (v := 3) dC_delete_18 (by decide) (n := 19) rfl ?_
  obtain ⟨k16, h⟩ := h
  refine x_invV (m := m14) rfl dC_delete_19 gC_delete_19 (as := [vL x1, vI (3 : Int32)]) (st := []) rfl rfl k16 rfl rfl (Nat.le_of_ble_eq_true rfl) (n := 22) rfl rfl rfl h (xBk.I fun v18 m17 h => ?_)
  refine x_istore dC_delete_22 (by decide) (L' := [some (vR (some a0)), some (vL x1), none, some (vI v15), some (vI v18)]) rfl (n := 24) rfl ?_
  refine x_iload_n dC_delete_24 rfl (n := 25) rfl ?_
  obtain ⟨h, h'⟩ := h
  refine x_if_ne (tgt := 33) dC_delete_25 rfl (n := 28) rfl (fun c20 => ?_) (fun c20 => ?_)
  · replace h := h c20
    refine x_iconst (v := 1) dC_delete_33 (by decide) (n := 34) rfl ?_
    refine x_goto (tgt := 38) dC_delete_34 rfl ?_
    exact x_zret dC_delete_38 rfl (by decide) h
  · replace h := h' c20
    refine x_iload dC_delete_28 rfl (n := 30) rfl ?_
    obtain ⟨h, h'⟩ := h
    refine x_if_eq (tgt := 37) dC_delete_30 rfl (n := 33) rfl (fun c19 => ?_) (fun c19 => ?_)
    · replace h := h c19
      refine x_iconst (v := 0) dC_delete_37 (by decide) (n := 38) rfl ?_
      exact x_zret dC_delete_38 rfl (by decide) h
    · replace h := h' c19
      refine x_iconst (v := 1) dC_delete_33 (by decide) (n := 34) rfl ?_
      refine x_goto (tgt := 38) dC_delete_34 rfl ?_
      exact x_zret dC_delete_38 rfl (by decide) h
set_option maxRecDepth 100000 in
set_option maxHeartbeats 4000000 in
theorem bC_where {l : Launch} {G : xG} {m : XM} {Q : XR → XM → Prop} {a0 : Nat} {x1 : Int64} (hst : l.stackTraces = false)
    (h : kd m a0 = some (oB 4) ∧ ∃ bc2 bs3, 1 = bc2 + 1 ∧ 6 = bs3 + 6 ∧ CC l G xC_refuseWhenClosed [vR (some a0)] m (kV (fun m6 => kd m6 a0 = some (oB 4) ∧ ∃ a8, gR m6 a0 2 = some a8 ∧ kd m6 a8 = some (oB 2) ∧ ∃ a11, gR m6 a8 1 = some a11 ∧ kd m6 a11 = some (oB 0) ∧ CC l G xI_find [vR (some a11), vL x1] m6 (kR (fun v15 m14 => ((v15 = none → kd m14 a0 = some (oB 4) ∧ CC l G xC_mix [vL x1] m14 (kL (fun v20 m19 => CC l G xC_setNumber [vL v20] m19 (kI (fun v22 m21 => ∃ a23, gR m14 a0 1 = some a23 ∧ ∃ n26, kd m21 a23 = some (aR 4 n26) ∧ vp_in v22 n26 ∧ ∃ a28, gR m21 a23 v22.toNatClampNeg = some a28 ∧ kd m21 a28 = some (oB 3) ∧ CC l G xP_find [vR (some a28), vL x1] m21 (kR (fun v32 m31 => ((v32 = none → Q (.inl (some (vI (0 : Int32)))) m31) ∧ (∀ a33, v32 = some a33 → Q (.inl (some (vI (2 : Int32)))) m31))) Q)) Q)) Q)) ∧ (∀ a16, v15 = some a16 → Q (.inl (some (vI (1 : Int32)))) m14))) Q)) Q)) :
    CC l G xC_where [vR (some a0), vL x1] m Q := by
  refine x_entry (by decide +kernel) rfl hst (Nat.le_of_ble_eq_true rfl) (L0 := [some (vR (some a0)), some (vL x1), none]) rfl ?_
  refine x_aload_n dC_where_0 rfl (n := 1) rfl ?_
  obtain ⟨k1, h⟩ := h
  obtain ⟨bc2, bs3, b4, b5, h⟩ := h
  refine x_invV (m := m) rfl dC_where_1 gC_where_1 (as := []) (st := []) rfl rfl k1 rfl rfl (Nat.le_of_ble_eq_true rfl) (n := 4) rfl b4 b5 h (xBk.V fun m6 h => ?_)
  refine x_aload_n dC_where_4 rfl (n := 5) rfl ?_
  obtain ⟨k7, h⟩ := h
  refine x_getR rfl dC_where_5 fC_24 k7 (n := 8) rfl ?_
  obtain ⟨a8, e9, h⟩ := h
  obtain ⟨k10, h⟩ := h
  refine x_getR e9 dC_where_8 fC_77 k10 (n := 11) rfl ?_
  refine x_lload_n dC_where_11 rfl (n := 12) rfl ?_
  obtain ⟨a11, e12, h⟩ := h
  obtain ⟨k13, h⟩ := h
  refine x_invV (m := m6) e12 dC_where_12 gC_where_12 (as := [vL x1]) (st := []) rfl rfl k13 rfl rfl (Nat.le_of_ble_eq_true rfl) (n := 15) rfl rfl rfl h (xBk.R fun v15 m14 h => ?_)
  obtain ⟨h, h'⟩ := h
  refine x_ifnull (tgt := 20) dC_where_15 rfl (n := 18) rfl (fun e17 => ?_) (fun a16 e17 => ?_)
  · replace h := h e17
    refine x_aload_n dC_where_20 rfl (n := 21) rfl ?_
    obtain ⟨k18, h⟩ := h
    refine x_getR rfl dC_where_21 fC_17 k18 (n := 24) rfl ?_
    refine x_lload_n dC_where_24 rfl (n := 25) rfl ?_
    refine x_invS (m := m14) dC_where_25 gC_where_25 (as := [vL x1]) (st := [vR (gR m14 a0 1)]) rfl rfl (Nat.le_of_ble_eq_true rfl) (n := 28) rfl rfl rfl h (xBk.J fun v20 m19 h => ?_)
    refine x_invS (m := m19) dC_where_28 gC_where_28 (as := [vL v20]) (st := [vR (gR m14 a0 1)]) rfl rfl (Nat.le_of_ble_eq_true rfl) (n := 31) rfl rfl rfl h (xBk.I fun v22 m21 h => ?_)
    obtain ⟨a23, e24, h⟩ := h
    obtain ⟨n26, k25, h⟩ := h
    obtain ⟨c27, h⟩ := h
    refine x_aald e24 dC_where_31 k25 (by decide) c27 (n := 32) rfl ?_
    refine x_lload_n dC_where_32 rfl (n := 33) rfl ?_
    obtain ⟨a28, e29, h⟩ := h
    obtain ⟨k30, h⟩ := h
    refine x_invV (m := m21) e29 dC_where_33 gC_where_33 (as := [vL x1]) (st := []) rfl rfl k30 rfl rfl (Nat.le_of_ble_eq_true rfl) (n := 36) rfl rfl rfl h (xBk.R fun v32 m31 h => ?_)
    obtain ⟨h, h'⟩ := h
    refine x_ifnull (tgt := 43) dC_where_36 rfl (n := 39) rfl (fun e34 => ?_) (fun a33 e34 => ?_)
    · replace h := h e34
      refine x_iconst (v := 0) dC_where_43 (by decide) (n := 44) rfl ?_
      exact x_iret dC_where_44 rfl h
    · replace h := h' a33 e34
      refine x_iconst (v := 2) dC_where_39 (by decide) (n := 40) rfl ?_
      refine x_goto (tgt := 44) dC_where_40 rfl ?_
      exact x_iret dC_where_44 rfl h
  · replace h := h' a16 e17
    refine x_iconst (v := 1) dC_where_18 (by decide) (n := 19) rfl ?_
    exact x_iret dC_where_19 rfl h
set_option maxRecDepth 100000 in
set_option maxHeartbeats 4000000 in
theorem bC_flash {l : Launch} {G : xG} {m : XM} {Q : XR → XM → Prop} {a0 : Nat} {x1 : Int32} {x2 : Int32} (hst : l.stackTraces = false)
    (h : ((x1 < 0 → (1 ≤ 1 ∧ 6 ≤ 6 ∧ Q (.inr "java/lang/IndexOutOfBoundsException") m)) ∧ (¬ x1 < 0 → (((96 : Int32) ≤ x1 → (1 ≤ 1 ∧ 6 ≤ 6 ∧ Q (.inr "java/lang/IndexOutOfBoundsException") m)) ∧ (¬ (96 : Int32) ≤ x1 → ((x2 < 0 → (1 ≤ 1 ∧ 6 ≤ 6 ∧ Q (.inr "java/lang/IndexOutOfBoundsException") m)) ∧ (¬ x2 < 0 → ((x2 < (32 : Int32) → (((64 : Int32) ≤ x1 → kd m a0 = some (oB 4) ∧ ∃ a2, gR m a0 2 = some a2 ∧ kd m a2 = some (oB 2) ∧ ∃ a5, gR m a2 0 = some a5 ∧ ∃ n8, kd m a5 = some (aR 4 n8) ∧ vp_in (x1 - (64 : Int32)) n8 ∧ ∃ a10, gR m a5 (x1 - (64 : Int32)).toNatClampNeg = some a10 ∧ kd m a10 = some (oB 3) ∧ CC l G xP_wordAt [vR (some a10), vI x2] m (kI (fun v14 m13 => Q (.inl (some (vI v14))) m13) Q)) ∧ (¬ (64 : Int32) ≤ x1 → kd m a0 = some (oB 4) ∧ ∃ a16, gR m a0 1 = some a16 ∧ ∃ n19, kd m a16 = some (aR 4 n19) ∧ vp_in x1 n19 ∧ ∃ a21, gR m a16 x1.toNatClampNeg = some a21 ∧ kd m a21 = some (oB 3) ∧ CC l G xP_wordAt [vR (some a21), vI x2] m (kI (fun v25 m24 => Q (.inl (some (vI v25))) m24) Q)))) ∧ (¬ x2 < (32 : Int32) → (1 ≤ 1 ∧ 6 ≤ 6 ∧ Q (.inr "java/lang/IndexOutOfBoundsException") m)))))))))) :
    CC l G xC_flash [vR (some a0), vI x1, vI x2] m Q := by
  refine x_entry (by decide +kernel) rfl hst (Nat.le_of_ble_eq_true rfl) (L0 := [some (vR (some a0)), some (vI x1), some (vI x2)]) rfl ?_
  refine x_iload_n dC_flash_0 rfl (n := 1) rfl ?_
  obtain ⟨h, h'⟩ := h
  refine x_if_lt (tgt := 20) dC_flash_1 rfl (n := 4) rfl (fun c30 => ?_) (fun c30 => ?_)
  · replace h := h c30
    exact x_throw0 tC_flash_20 dC_flash_20 dC_flash_23 dC_flash_24 dC_flash_27 h.1 h.2.1 h.2.2
  · replace h := h' c30
    refine x_iload_n dC_flash_4 rfl (n := 5) rfl ?_
    refine x_bipush (v := 96) dC_flash_5 (by decide) (n := 7) rfl ?_
    obtain ⟨h, h'⟩ := h
    refine x_icmp_ge (tgt := 20) dC_flash_7 rfl (n := 10) rfl (fun c29 => ?_) (fun c29 => ?_)
    · replace h := h c29
      exact x_throw0 tC_flash_20 dC_flash_20 dC_flash_23 dC_flash_24 dC_flash_27 h.1 h.2.1 h.2.2
    · replace h := h' c29
      refine x_iload_n dC_flash_10 rfl (n := 11) rfl ?_
      obtain ⟨h, h'⟩ := h
      refine x_if_lt (tgt := 20) dC_flash_11 rfl (n := 14) rfl (fun c28 => ?_) (fun c28 => ?_)
      · replace h := h c28
        exact x_throw0 tC_flash_20 dC_flash_20 dC_flash_23 dC_flash_24 dC_flash_27 h.1 h.2.1 h.2.2
      · replace h := h' c28
        refine x_iload_n dC_flash_14 rfl (n := 15) rfl ?_
        refine x_bipush (v := 32) dC_flash_15 (by decide) (n := 17) rfl ?_
        obtain ⟨h, h'⟩ := h
        refine x_icmp_lt (tgt := 28) dC_flash_17 rfl (n := 20) rfl (fun c27 => ?_) (fun c27 => ?_)
        · replace h := h c27
          refine x_iload_n dC_flash_28 rfl (n := 29) rfl ?_
          refine x_bipush (v := 64) dC_flash_29 (by decide) (n := 31) rfl ?_
          obtain ⟨h, h'⟩ := h
          refine x_icmp_ge (tgt := 47) dC_flash_31 rfl (n := 34) rfl (fun c26 => ?_) (fun c26 => ?_)
          · replace h := h c26
            refine x_aload_n dC_flash_47 rfl (n := 48) rfl ?_
            obtain ⟨k1, h⟩ := h
            refine x_getR rfl dC_flash_48 fC_24 k1 (n := 51) rfl ?_
            obtain ⟨a2, e3, h⟩ := h
            obtain ⟨k4, h⟩ := h
            refine x_getR e3 dC_flash_51 fC_122 k4 (n := 54) rfl ?_
            refine x_iload_n dC_flash_54 rfl (n := 55) rfl ?_
            refine x_bipush (v := 64) dC_flash_55 (by decide) (n := 57) rfl ?_
            refine x_isub dC_flash_57 (n := 58) rfl ?_
            obtain ⟨a5, e6, h⟩ := h
            obtain ⟨n8, k7, h⟩ := h
            obtain ⟨c9, h⟩ := h
            refine x_aald e6 dC_flash_58 k7 (by decide) c9 (n := 59) rfl ?_
            refine x_iload_n dC_flash_59 rfl (n := 60) rfl ?_
            obtain ⟨a10, e11, h⟩ := h
            obtain ⟨k12, h⟩ := h
            refine x_invV (m := m) e11 dC_flash_60 gC_flash_60 (as := [vI x2]) (st := []) rfl rfl k12 rfl rfl (Nat.le_of_ble_eq_true rfl) (n := 63) rfl rfl rfl h (xBk.I fun v14 m13 h => ?_)
            exact x_iret dC_flash_63 rfl h
          · replace h := h' c26
            refine x_aload_n dC_flash_34 rfl (n := 35) rfl ?_
            obtain ⟨k15, h⟩ := h
            refine x_getR rfl dC_flash_35 fC_17 k15 (n := 38) rfl ?_
            refine x_iload_n dC_flash_38 rfl (n := 39) rfl ?_
            obtain ⟨a16, e17, h⟩ := h
            obtain ⟨n19, k18, h⟩ := h
            obtain ⟨c20, h⟩ := h
            refine x_aald e17 dC_flash_39 k18 (by decide) c20 (n := 40) rfl ?_
            refine x_iload_n dC_flash_40 rfl (n := 41) rfl ?_
            obtain ⟨a21, e22, h⟩ := h
            obtain ⟨k23, h⟩ := h
            refine x_invV (m := m) e22 dC_flash_41 gC_flash_41 (as := [vI x2]) (st := []) rfl rfl k23 rfl rfl (Nat.le_of_ble_eq_true rfl) (n := 44) rfl rfl rfl h (xBk.I fun v25 m24 h => ?_)
            refine x_goto (tgt := 63) dC_flash_44 rfl ?_
            exact x_iret dC_flash_63 rfl h
        · replace h := h' c27
          exact x_throw0 tC_flash_20 dC_flash_20 dC_flash_23 dC_flash_24 dC_flash_27 h.1 h.2.1 h.2.2
set_option maxRecDepth 100000 in
set_option maxHeartbeats 4000000 in
theorem bC_close {l : Launch} {G : xG} {m : XM} {Q : XR → XM → Prop} {a0 : Nat} (hst : l.stackTraces = false)
    (h : kd m a0 = some (oB 4) ∧ ∃ bc2 bs3, 1 = bc2 + 1 ∧ 6 = bs3 + 6 ∧ CC l G xC_refuseWhenClosed [vR (some a0)] m (kV (fun m6 => kd m6 a0 = some (oB 4) ∧ ∀ m8, m8 = mI m6 a0 7 (0 : Int32) → Q (.inl none) m8) Q)) :
    CC l G xC_close [vR (some a0)] m Q := by
  refine x_entry (by decide +kernel) rfl hst (Nat.le_of_ble_eq_true rfl) (L0 := [some (vR (some a0))]) rfl ?_
  refine x_aload_n dC_close_0 rfl (n := 1) rfl ?_
  obtain ⟨k1, h⟩ := h
  obtain ⟨bc2, bs3, b4, b5, h⟩ := h
  refine x_invV (m := m) rfl dC_close_1 gC_close_1 (as := []) (st := []) rfl rfl k1 rfl rfl (Nat.le_of_ble_eq_true rfl) (n := 4) rfl b4 b5 h (xBk.V fun m6 h => ?_)
  refine x_aload_n dC_close_4 rfl (n := 5) rfl ?_
  refine x_iconst (v := 0) dC_close_5 (by decide) (n := 6) rfl ?_
  obtain ⟨k7, h⟩ := h
  replace h := h _ rfl
  refine x_putI rfl dC_close_6 pC_44 k7 (by decide) (by decide) (n := 9) rfl ?_
  exact x_vret dC_close_9 rfl h
set_option maxRecDepth 100000 in
set_option maxHeartbeats 4000000 in
theorem bC_crash_6 {l : Launch} {G : xG} {m : XM} {bc bs : Nat} {Q : XR → XM → Prop} {a0 : Nat} {x1 : Int32}
    (h : (((64 : Int32) ≤ x1 → kd m a0 = some (oB 4) ∧ ∃ a2, gR m a0 2 = some a2 ∧ kd m a2 = some (oB 2) ∧ CC l G xG_wipe [vR (some a2)] m (kV (fun m5 => kd m5 a0 = some (oB 4) ∧ CC l G xJ_fill [vR (gR m5 a0 3), vI (0 : Int32)] m5 (kV (fun m7 => kd m7 a0 = some (oB 4) ∧ ∀ m9, m9 = mR m7 a0 6 none → ∀ m10, m10 = mI m9 a0 7 (0 : Int32) → Q (.inl none) m10) Q)) Q)) ∧ (¬ (64 : Int32) ≤ x1 → kd m a0 = some (oB 4) ∧ ∃ a12, gR m a0 1 = some a12 ∧ ∃ n15, kd m a12 = some (aR 4 n15) ∧ vp_in x1 n15 ∧ ∃ a17, gR m a12 x1.toNatClampNeg = some a17 ∧ kd m a17 = some (oB 3) ∧ CC l G xP_wipe [vR (some a17)] m (kV (fun m20 => WW l G xC_crash 6 [some (vR (some a0)), some (vI (x1 + 1))] [] m20 bc bs Q) Q)))) :
    WW l G xC_crash 6 [some (vR (some a0)), some (vI x1)] [] m bc bs Q := by
  refine x_iload_n dC_crash_6 rfl (n := 7) rfl ?_
  refine x_bipush (v := 64) dC_crash_7 (by decide) (n := 9) rfl ?_
  obtain ⟨h, h'⟩ := h
  refine x_icmp_ge (tgt := 27) dC_crash_9 rfl (n := 12) rfl (fun c21 => ?_) (fun c21 => ?_)
  · replace h := h c21
    refine x_aload_n dC_crash_27 rfl (n := 28) rfl ?_
    obtain ⟨k1, h⟩ := h
    refine x_getR rfl dC_crash_28 fC_24 k1 (n := 31) rfl ?_
    obtain ⟨a2, e3, h⟩ := h
    obtain ⟨k4, h⟩ := h
    refine x_invV (m := m) e3 dC_crash_31 gC_crash_31 (as := []) (st := []) rfl rfl k4 rfl rfl (Nat.le_of_ble_eq_true rfl) (n := 34) rfl rfl rfl h (xBk.V fun m5 h => ?_)
    refine x_aload_n dC_crash_34 rfl (n := 35) rfl ?_
    obtain ⟨k6, h⟩ := h
    refine x_getR rfl dC_crash_35 fC_28 k6 (n := 38) rfl ?_
    refine x_iconst (v := 0) dC_crash_38 (by decide) (n := 39) rfl ?_
    refine x_invS (m := m5) dC_crash_39 gC_crash_39 (as := [vR (gR m5 a0 3), vI (0 : Int32)]) (st := []) rfl rfl (Nat.le_of_ble_eq_true rfl) (n := 42) rfl rfl rfl h (xBk.V fun m7 h => ?_)
    refine x_aload_n dC_crash_42 rfl (n := 43) rfl ?_
    refine x_null dC_crash_43 (n := 44) rfl ?_
    obtain ⟨k8, h⟩ := h
    replace h := h _ rfl
    refine x_putR rfl dC_crash_44 pC_40 k8 (fun o => by cases o <;> rfl) (fun o => by cases o <;> rfl) (n := 47) rfl ?_
    refine x_aload_n dC_crash_47 rfl (n := 48) rfl ?_
    refine x_iconst (v := 0) dC_crash_48 (by decide) (n := 49) rfl ?_
    replace h := h _ rfl
    refine x_putI rfl dC_crash_49 pC_44 k8 (by decide) (by decide) (n := 52) rfl ?_
    exact x_vret dC_crash_52 rfl h
  · replace h := h' c21
    refine x_aload_n dC_crash_12 rfl (n := 13) rfl ?_
    obtain ⟨k11, h⟩ := h
    refine x_getR rfl dC_crash_13 fC_17 k11 (n := 16) rfl ?_
    refine x_iload_n dC_crash_16 rfl (n := 17) rfl ?_
    obtain ⟨a12, e13, h⟩ := h
    obtain ⟨n15, k14, h⟩ := h
    obtain ⟨c16, h⟩ := h
    refine x_aald e13 dC_crash_17 k14 (by decide) c16 (n := 18) rfl ?_
    obtain ⟨a17, e18, h⟩ := h
    obtain ⟨k19, h⟩ := h
    refine x_invV (m := m) e18 dC_crash_18 gC_crash_18 (as := []) (st := []) rfl rfl k19 rfl rfl (Nat.le_of_ble_eq_true rfl) (n := 21) rfl rfl rfl h (xBk.V fun m20 h => ?_)
    refine x_iinc (v := x1 + 1) dC_crash_21 rfl rfl (by decide) (L' := [some (vR (some a0)), some (vI (x1 + 1))]) rfl (n := 24) rfl ?_
    refine x_goto (tgt := 6) dC_crash_24 rfl ?_
    exact h
set_option maxRecDepth 100000 in
set_option maxHeartbeats 4000000 in
theorem bC_crash {l : Launch} {G : xG} {m : XM} {Q : XR → XM → Prop} {a0 : Nat} (hst : l.stackTraces = false)
    (h : kd m a0 = some (oB 4) ∧ ∃ bc2 bs3, 1 = bc2 + 1 ∧ 6 = bs3 + 6 ∧ CC l G xC_refuseWhenClosed [vR (some a0)] m (kV (fun m6 => WW l G xC_crash 6 [some (vR (some a0)), some (vI (0 : Int32))] [] m6 bc2 bs3 Q) Q)) :
    CC l G xC_crash [vR (some a0)] m Q := by
  refine x_entry (by decide +kernel) rfl hst (Nat.le_of_ble_eq_true rfl) (L0 := [some (vR (some a0)), none]) rfl ?_
  refine x_aload_n dC_crash_0 rfl (n := 1) rfl ?_
  obtain ⟨k1, h⟩ := h
  obtain ⟨bc2, bs3, b4, b5, h⟩ := h
  refine x_invV (m := m) rfl dC_crash_1 gC_crash_1 (as := []) (st := []) rfl rfl k1 rfl rfl (Nat.le_of_ble_eq_true rfl) (n := 4) rfl b4 b5 h (xBk.V fun m6 h => ?_)
  refine x_iconst (v := 0) dC_crash_4 (by decide) (n := 5) rfl ?_
  refine x_istore_n dC_crash_5 (by decide) (L' := [some (vR (some a0)), some (vI (0 : Int32))]) rfl (n := 6) rfl ?_
  exact h
set_option maxRecDepth 100000 in
set_option maxHeartbeats 4000000 in
theorem bC_open {l : Launch} {G : xG} {m : XM} {Q : XR → XM → Prop} {a0 : Nat} (hst : l.stackTraces = false)
    (h : kd m a0 = some (oB 4) ∧ (((gI m a0 7) = 0 → ∀ m2, m2 = mI m a0 7 (1 : Int32) → ∃ a3, gR m a0 2 = some a3 ∧ kd m a3 = some (oB 2) ∧ ∃ a6, gR m a3 1 = some a6 ∧ kd m a6 = some (oB 0) ∧ Q (.inl (some (vI (gI m2 a6 2)))) m2) ∧ (¬ (gI m a0 7) = 0 → (1 ≤ 1 ∧ 6 ≤ 6 ∧ Q (.inr "java/lang/IllegalStateException") m)))) :
    CC l G xC_open [vR (some a0)] m Q := by
  refine x_entry (by decide +kernel) rfl hst (Nat.le_of_ble_eq_true rfl) (L0 := [some (vR (some a0))]) rfl ?_
  refine x_aload_n dC_open_0 rfl (n := 1) rfl ?_
  obtain ⟨k1, h⟩ := h
  refine x_getI rfl dC_open_1 fC_44 k1 (n := 4) rfl ?_
  obtain ⟨h, h'⟩ := h
  refine x_if_eq (tgt := 15) dC_open_4 rfl (n := 7) rfl (fun c9 => ?_) (fun c9 => ?_)
  · replace h := h c9
    refine x_aload_n dC_open_15 rfl (n := 16) rfl ?_
    refine x_iconst (v := 1) dC_open_16 (by decide) (n := 17) rfl ?_
    replace h := h _ rfl
    refine x_putI rfl dC_open_17 pC_44 k1 (by decide) (by decide) (n := 20) rfl ?_
    refine x_aload_n dC_open_20 rfl (n := 21) rfl ?_
    refine x_getR rfl dC_open_21 fC_24 k1 (n := 24) rfl ?_
    obtain ⟨a3, e4, h⟩ := h
    obtain ⟨k5, h⟩ := h
    refine x_getR e4 dC_open_24 fC_77 k5 (n := 27) rfl ?_
    obtain ⟨a6, e7, h⟩ := h
    obtain ⟨k8, h⟩ := h
    refine x_getI e7 dC_open_27 fC_136 k8 (n := 30) rfl ?_
    exact x_iret dC_open_30 rfl h
  · replace h := h' c9
    exact x_throw0 tC_open_7 dC_open_7 dC_open_10 dC_open_11 dC_open_14 h.1 h.2.1 h.2.2
