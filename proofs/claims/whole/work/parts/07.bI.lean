set_option maxRecDepth 100000 in
set_option maxHeartbeats 4000000 in
theorem bI_init {l : Launch} {G : xG} {m : XM} {Q : XR → XM → Prop} {a0 : Nat} (hst : l.stackTraces = false)
    (h : ∃ bc1 bs2, 2 = bc1 + 1 ∧ 328 = bs2 + 264 ∧ ∀ a5, kd m a5 = none → ∀ m7, m7 = mN m a5 (aR 3 264) → kd m7 a0 = some (oB 0) ∧ ∀ m10, m10 = mR m7 a0 0 (some a5) → ∃ bc11 bs12, bc1 = bc11 + 1 ∧ bs2 = bs12 + 64 ∧ ∀ a15, kd m7 a15 = none → ∀ m17, m17 = mN m10 a15 (aR 0 64) → ∀ m21, m21 = mR m17 a0 1 (some a15) → ∀ m22, m22 = mI m21 a0 2 (0 : Int32) → Q (.inl none) m22) :
    CC l G xI_init [vR (some a0)] m Q := by
  refine x_entry (by decide +kernel) rfl hst (Nat.le_of_ble_eq_true rfl) (L0 := [some (vR (some a0))]) rfl ?_
  refine x_aload_n dI_init_0 rfl (n := 1) rfl ?_
  refine x_objInit dI_init_1 w_100 w_58 w_59 (by decide) (by decide) (n := 4) rfl ?_
  refine x_aload_n dI_init_4 rfl (n := 5) rfl ?_
  refine x_sipush (v := 264) dI_init_5 (by decide) (n := 8) rfl ?_
  obtain ⟨bc1, bs2, b3, b4, h⟩ := h
  refine x_anew (t := 3) (N := 264) dI_init_8 w_101 (by decide) (by decide) (by decide) (by decide) (n := 11) rfl (by decide) b3 b4 fun a5 f6 => ?_
  replace h := h a5 f6 _ rfl
  have k8 := kdNs m a5 (aR 3 264)
  obtain ⟨k9, h⟩ := h
  replace h := h _ rfl
  refine x_putR rfl dI_init_11 pI_11 k9 (fun o => by cases o <;> rfl) (fun o => by cases o <;> rfl) (n := 14) rfl ?_
  refine x_aload_n dI_init_14 rfl (n := 15) rfl ?_
  refine x_bipush (v := 64) dI_init_15 (by decide) (n := 17) rfl ?_
  obtain ⟨bc11, bs12, b13, b14, h⟩ := h
  refine x_newa (atype := .int) (t := 0) (N := 64) dI_init_17 w_87 (by decide) (by decide) (by decide) (n := 19) rfl (by decide) b13 b14 fun a15 f16 => ?_
  replace h := h a15 f16 _ rfl
  have k18 := kdN (k := aR 0 64) f16 k8
  have k19 := kdN (k := aR 0 64) f16 k9
  have k20 := kdNs (mR (mN m a5 (aR 3 264)) a0 0 (some a5)) a15 (aR 0 64)
  replace h := h _ rfl
  refine x_putR rfl dI_init_19 pI_17 k19 (fun o => by cases o <;> rfl) (fun o => by cases o <;> rfl) (n := 22) rfl ?_
  refine x_aload_n dI_init_22 rfl (n := 23) rfl ?_
  refine x_iconst (v := 0) dI_init_23 (by decide) (n := 24) rfl ?_
  replace h := h _ rfl
  refine x_putI rfl dI_init_24 pI_21 k19 rfl rfl (n := 27) rfl ?_
  exact x_vret dI_init_27 rfl h
set_option maxRecDepth 100000 in
set_option maxHeartbeats 4000000 in
theorem bI_takeGotAlone_8 {l : Launch} {G : xG} {m : XM} {bc bs : Nat} {Q : XR → XM → Prop} {a0 : Nat} {x1 : Int32} {o2 : Option Nat} {x3 : Int32} {x4 : Int32} {x5 : Int32}
    (h : kd m a0 = some (oB 0) ∧ (((gI m a0 2) ≤ x5 → CC l G xI_shrinkTo [vR (some a0), vI x3] m (kV (fun m2 => Q (.inl (some (vI x4))) m2) Q)) ∧ (¬ (gI m a0 2) ≤ x5 → ∃ a3, gR m a0 0 = some a3 ∧ ∃ n6, kd m a3 = some (aR 3 n6) ∧ vp_in x5 n6 ∧ ∃ a8, gR m a3 x5.toNatClampNeg = some a8 ∧ kd m a8 = some (oB 1) ∧ (((gI m a8 5) = 0 → vp_in x3 n6 ∧ ∀ m12, m12 = mR m a3 x3.toNatClampNeg (some a8) → WW l G xI_takeGotAlone 8 [some (vR (some a0)), some (vI x1), some (vR o2), some (vI (x3 + 1)), some (vI x4), some (vI (x5 + 1)), none] [] m12 bc bs Q) ∧ (¬ (gI m a8 5) = 0 → ((x1 ≤ (gI m a8 4) → vp_in x3 n6 ∧ ∀ m14, m14 = mR m a3 x3.toNatClampNeg (some a8) → WW l G xI_takeGotAlone 8 [some (vR (some a0)), some (vI x1), some (vR o2), some (vI (x3 + 1)), some (vI x4), some (vI (x5 + 1)), none] [] m14 bc bs Q) ∧ (¬ x1 ≤ (gI m a8 4) → ∃ a15, gR m a0 1 = some a15 ∧ ∃ n18, kd m a15 = some (aR 0 n18) ∧ vp_in (gI m a8 2) n18 ∧ ((¬ (gI m a15 (gI m a8 2).toNatClampNeg) = (1 : Int32) → vp_in x3 n6 ∧ ∀ m21, m21 = mR m a3 x3.toNatClampNeg (some a8) → WW l G xI_takeGotAlone 8 [some (vR (some a0)), some (vI x1), some (vR o2), some (vI (x3 + 1)), some (vI x4), some (vI (x5 + 1)), none] [] m21 bc bs Q) ∧ ((gI m a15 (gI m a8 2).toNatClampNeg) = (1 : Int32) → ∃ a22, o2 = some a22 ∧ ∃ n25, kd m a22 = some (aR 3 n25) ∧ vp_in x4 n25 ∧ ∀ m27, m27 = mR m a22 x4.toNatClampNeg (some a8) → ∃ a28, gR m27 a0 1 = some a28 ∧ ∃ n31, kd m a28 = some (aR 0 n31) ∧ vp_in (gI m a8 2) n31 ∧ ∀ m33, m33 = mI m27 a28 (gI m a8 2).toNatClampNeg (0 : Int32) → WW l G xI_takeGotAlone 8 [some (vR (some a0)), some (vI x1), some (vR o2), some (vI x3), some (vI (x4 + 1)), some (vI (x5 + 1)), none] [] m33 bc bs Q))))))))) :
    WW l G xI_takeGotAlone 8 [some (vR (some a0)), some (vI x1), some (vR o2), some (vI x3), some (vI x4), some (vI x5), none] [] m bc bs Q := by
  refine x_iload dI_takeGotAlone_8 rfl (n := 10) rfl ?_
  refine x_aload_n dI_takeGotAlone_10 rfl (n := 11) rfl ?_
  obtain ⟨k1, h⟩ := h
  refine x_getI rfl dI_takeGotAlone_11 fI_21 k1 (n := 14) rfl ?_
  obtain ⟨h, h'⟩ := h
  refine x_icmp_ge (tgt := 97) dI_takeGotAlone_14 rfl (n := 17) rfl (fun c37 => ?_) (fun c37 => ?_)
  · replace h := h c37
    refine x_aload_n dI_takeGotAlone_97 rfl (n := 98) rfl ?_
    refine x_iload_n dI_takeGotAlone_98 rfl (n := 99) rfl ?_
    refine x_invV (m := m) rfl dI_takeGotAlone_99 gI_takeGotAlone_99 (as := [vI x3]) (st := []) rfl rfl k1 rfl rfl (Nat.le_of_ble_eq_true rfl) (n := 102) rfl rfl rfl h (xBk.V fun m2 h => ?_)
    refine x_iload dI_takeGotAlone_102 rfl (n := 104) rfl ?_
    exact x_iret dI_takeGotAlone_104 rfl h
  · replace h := h' c37
    refine x_aload_n dI_takeGotAlone_17 rfl (n := 18) rfl ?_
    refine x_getR rfl dI_takeGotAlone_18 fI_11 k1 (n := 21) rfl ?_
    refine x_iload dI_takeGotAlone_21 rfl (n := 23) rfl ?_
    obtain ⟨a3, e4, h⟩ := h
    obtain ⟨n6, k5, h⟩ := h
    obtain ⟨c7, h⟩ := h
    refine x_aald e4 dI_takeGotAlone_23 k5 (by decide) c7 (n := 24) rfl ?_
    refine x_astore dI_takeGotAlone_24 (by decide) (L' := [some (vR (some a0)), some (vI x1), some (vR o2), some (vI x3), some (vI x4), some (vI x5), some (vR (gR m a3 x5.toNatClampNeg))]) rfl (n := 26) rfl ?_
    refine x_aload dI_takeGotAlone_26 rfl (n := 28) rfl ?_
    obtain ⟨a8, e9, h⟩ := h
    obtain ⟨k10, h⟩ := h
    refine x_getI e9 dI_takeGotAlone_28 fI_40 k10 (n := 31) rfl ?_
    obtain ⟨h, h'⟩ := h
    refine x_if_eq (tgt := 80) dI_takeGotAlone_31 rfl (n := 34) rfl (fun c36 => ?_) (fun c36 => ?_)
    · replace h := h c36
      refine x_aload_n dI_takeGotAlone_80 rfl (n := 81) rfl ?_
      refine x_getR rfl dI_takeGotAlone_81 fI_11 k1 (n := 84) rfl ?_
      refine x_iload_n dI_takeGotAlone_84 rfl (n := 85) rfl ?_
      refine x_aload dI_takeGotAlone_85 rfl (n := 87) rfl ?_
      obtain ⟨c11, h⟩ := h
      replace h := h _ rfl
      refine x_aast e4 e9 dI_takeGotAlone_87 k5 (by decide) k10 c11 (n := 88) rfl ?_
      refine x_iinc (v := x3 + 1) dI_takeGotAlone_88 rfl rfl (by decide) (L' := [some (vR (some a0)), some (vI x1), some (vR o2), some (vI (x3 + 1)), some (vI x4), some (vI x5), some (vR (gR m a3 x5.toNatClampNeg))]) rfl (n := 91) rfl ?_
      refine x_iinc (v := x5 + 1) dI_takeGotAlone_91 rfl rfl (by decide) (L' := [some (vR (some a0)), some (vI x1), some (vR o2), some (vI (x3 + 1)), some (vI x4), some (vI (x5 + 1)), some (vR (gR m a3 x5.toNatClampNeg))]) rfl (n := 94) rfl ?_
      refine x_goto (tgt := 8) dI_takeGotAlone_94 rfl ?_
      exact x_weak (b := [true, true, true, true, true, true, false]) rfl h
    · replace h := h' c36
      refine x_aload dI_takeGotAlone_34 rfl (n := 36) rfl ?_
      refine x_getI e9 dI_takeGotAlone_36 fI_44 k10 (n := 39) rfl ?_
      refine x_iload_n dI_takeGotAlone_39 rfl (n := 40) rfl ?_
      obtain ⟨h, h'⟩ := h
      refine x_icmp_ge (tgt := 80) dI_takeGotAlone_40 rfl (n := 43) rfl (fun c35 => ?_) (fun c35 => ?_)
      · replace h := h c35
        refine x_aload_n dI_takeGotAlone_80 rfl (n := 81) rfl ?_
        refine x_getR rfl dI_takeGotAlone_81 fI_11 k1 (n := 84) rfl ?_
        refine x_iload_n dI_takeGotAlone_84 rfl (n := 85) rfl ?_
        refine x_aload dI_takeGotAlone_85 rfl (n := 87) rfl ?_
        obtain ⟨c13, h⟩ := h
        replace h := h _ rfl
        refine x_aast e4 e9 dI_takeGotAlone_87 k5 (by decide) k10 c13 (n := 88) rfl ?_
        refine x_iinc (v := x3 + 1) dI_takeGotAlone_88 rfl rfl (by decide) (L' := [some (vR (some a0)), some (vI x1), some (vR o2), some (vI (x3 + 1)), some (vI x4), some (vI x5), some (vR (gR m a3 x5.toNatClampNeg))]) rfl (n := 91) rfl ?_
        refine x_iinc (v := x5 + 1) dI_takeGotAlone_91 rfl rfl (by decide) (L' := [some (vR (some a0)), some (vI x1), some (vR o2), some (vI (x3 + 1)), some (vI x4), some (vI (x5 + 1)), some (vR (gR m a3 x5.toNatClampNeg))]) rfl (n := 94) rfl ?_
        refine x_goto (tgt := 8) dI_takeGotAlone_94 rfl ?_
        exact x_weak (b := [true, true, true, true, true, true, false]) rfl h
      · replace h := h' c35
        refine x_aload_n dI_takeGotAlone_43 rfl (n := 44) rfl ?_
        refine x_getR rfl dI_takeGotAlone_44 fI_17 k1 (n := 47) rfl ?_
        refine x_aload dI_takeGotAlone_47 rfl (n := 49) rfl ?_
        refine x_getI e9 dI_takeGotAlone_49 fI_33 k10 (n := 52) rfl ?_
        obtain ⟨a15, e16, h⟩ := h
        obtain ⟨n18, k17, h⟩ := h
        obtain ⟨c19, h⟩ := h
        refine x_iald e16 dI_takeGotAlone_52 k17 c19 (n := 53) rfl ?_
        refine x_iconst (v := 1) dI_takeGotAlone_53 (by decide) (n := 54) rfl ?_
        obtain ⟨h, h'⟩ := h
        refine x_icmp_ne (tgt := 80) dI_takeGotAlone_54 rfl (n := 57) rfl (fun c34 => ?_) (fun c34 => ?_)
        · replace h := h c34
          refine x_aload_n dI_takeGotAlone_80 rfl (n := 81) rfl ?_
          refine x_getR rfl dI_takeGotAlone_81 fI_11 k1 (n := 84) rfl ?_
          refine x_iload_n dI_takeGotAlone_84 rfl (n := 85) rfl ?_
          refine x_aload dI_takeGotAlone_85 rfl (n := 87) rfl ?_
          obtain ⟨c20, h⟩ := h
          replace h := h _ rfl
          refine x_aast e4 e9 dI_takeGotAlone_87 k5 (by decide) k10 c20 (n := 88) rfl ?_
          refine x_iinc (v := x3 + 1) dI_takeGotAlone_88 rfl rfl (by decide) (L' := [some (vR (some a0)), some (vI x1), some (vR o2), some (vI (x3 + 1)), some (vI x4), some (vI x5), some (vR (gR m a3 x5.toNatClampNeg))]) rfl (n := 91) rfl ?_
          refine x_iinc (v := x5 + 1) dI_takeGotAlone_91 rfl rfl (by decide) (L' := [some (vR (some a0)), some (vI x1), some (vR o2), some (vI (x3 + 1)), some (vI x4), some (vI (x5 + 1)), some (vR (gR m a3 x5.toNatClampNeg))]) rfl (n := 94) rfl ?_
          refine x_goto (tgt := 8) dI_takeGotAlone_94 rfl ?_
          exact x_weak (b := [true, true, true, true, true, true, false]) rfl h
        · replace h := h' c34
          refine x_aload_n dI_takeGotAlone_57 rfl (n := 58) rfl ?_
          refine x_iload dI_takeGotAlone_58 rfl (n := 60) rfl ?_
          refine x_aload dI_takeGotAlone_60 rfl (n := 62) rfl ?_
          obtain ⟨a22, e23, h⟩ := h
          obtain ⟨n25, k24, h⟩ := h
          obtain ⟨c26, h⟩ := h
          replace h := h _ rfl
          refine x_aast e23 e9 dI_takeGotAlone_62 k24 (by decide) k10 c26 (n := 63) rfl ?_
          refine x_iinc (v := x4 + 1) dI_takeGotAlone_63 rfl rfl (by decide) (L' := [some (vR (some a0)), some (vI x1), some (vR o2), some (vI x3), some (vI (x4 + 1)), some (vI x5), some (vR (gR m a3 x5.toNatClampNeg))]) rfl (n := 66) rfl ?_
          refine x_aload_n dI_takeGotAlone_66 rfl (n := 67) rfl ?_
          refine x_getR rfl dI_takeGotAlone_67 fI_17 k1 (n := 70) rfl ?_
          refine x_aload dI_takeGotAlone_70 rfl (n := 72) rfl ?_
          refine x_getI e9 dI_takeGotAlone_72 fI_33 k10 (n := 75) rfl ?_
          refine x_iconst (v := 0) dI_takeGotAlone_75 (by decide) (n := 76) rfl ?_
          obtain ⟨a28, e29, h⟩ := h
          obtain ⟨n31, k30, h⟩ := h
          obtain ⟨c32, h⟩ := h
          replace h := h _ rfl
          refine x_iast e29 dI_takeGotAlone_76 k30 c32 (n := 77) rfl ?_
          refine x_goto (tgt := 91) dI_takeGotAlone_77 rfl ?_
          refine x_iinc (v := x5 + 1) dI_takeGotAlone_91 rfl rfl (by decide) (L' := [some (vR (some a0)), some (vI x1), some (vR o2), some (vI x3), some (vI (x4 + 1)), some (vI (x5 + 1)), some (vR (gR m a3 x5.toNatClampNeg))]) rfl (n := 94) rfl ?_
          refine x_goto (tgt := 8) dI_takeGotAlone_94 rfl ?_
          exact x_weak (b := [true, true, true, true, true, true, false]) rfl h
set_option maxRecDepth 100000 in
set_option maxHeartbeats 4000000 in
theorem bI_takeGotAlone {l : Launch} {G : xG} {m : XM} {Q : XR → XM → Prop} {a0 : Nat} {x1 : Int32} {o2 : Option Nat} (hst : l.stackTraces = false)
    (h : WW l G xI_takeGotAlone 8 [some (vR (some a0)), some (vI x1), some (vR o2), some (vI (0 : Int32)), some (vI (0 : Int32)), some (vI (0 : Int32)), none] [] m 0 0 Q) :
    CC l G xI_takeGotAlone [vR (some a0), vI x1, vR o2] m Q := by
  refine x_entry (by decide +kernel) rfl hst (Nat.le_of_ble_eq_true rfl) (L0 := [some (vR (some a0)), some (vI x1), some (vR o2), none, none, none, none]) rfl ?_
  refine x_iconst (v := 0) dI_takeGotAlone_0 (by decide) (n := 1) rfl ?_
  refine x_istore_n dI_takeGotAlone_1 (by decide) (L' := [some (vR (some a0)), some (vI x1), some (vR o2), some (vI (0 : Int32)), none, none, none]) rfl (n := 2) rfl ?_
  refine x_iconst (v := 0) dI_takeGotAlone_2 (by decide) (n := 3) rfl ?_
  refine x_istore dI_takeGotAlone_3 (by decide) (L' := [some (vR (some a0)), some (vI x1), some (vR o2), some (vI (0 : Int32)), some (vI (0 : Int32)), none, none]) rfl (n := 5) rfl ?_
  refine x_iconst (v := 0) dI_takeGotAlone_5 (by decide) (n := 6) rfl ?_
  refine x_istore dI_takeGotAlone_6 (by decide) (L' := [some (vR (some a0)), some (vI x1), some (vR o2), some (vI (0 : Int32)), some (vI (0 : Int32)), some (vI (0 : Int32)), none]) rfl (n := 8) rfl ?_
  exact h
set_option maxRecDepth 100000 in
set_option maxHeartbeats 4000000 in
theorem bI_shrinkTo_2 {l : Launch} {G : xG} {m : XM} {bc bs : Nat} {Q : XR → XM → Prop} {a0 : Nat} {x1 : Int32} {x2 : Int32}
    (h : kd m a0 = some (oB 0) ∧ (((gI m a0 2) ≤ x2 → ∀ m2, m2 = mI m a0 2 x1 → Q (.inl none) m2) ∧ (¬ (gI m a0 2) ≤ x2 → ∃ a3, gR m a0 0 = some a3 ∧ ∃ n6, kd m a3 = some (aR 3 n6) ∧ vp_in x2 n6 ∧ ∀ m8, m8 = mR m a3 x2.toNatClampNeg none → WW l G xI_shrinkTo 2 [some (vR (some a0)), some (vI x1), some (vI (x2 + 1))] [] m8 bc bs Q))) :
    WW l G xI_shrinkTo 2 [some (vR (some a0)), some (vI x1), some (vI x2)] [] m bc bs Q := by
  refine x_iload_n dI_shrinkTo_2 rfl (n := 3) rfl ?_
  refine x_aload_n dI_shrinkTo_3 rfl (n := 4) rfl ?_
  obtain ⟨k1, h⟩ := h
  refine x_getI rfl dI_shrinkTo_4 fI_21 k1 (n := 7) rfl ?_
  obtain ⟨h, h'⟩ := h
  refine x_icmp_ge (tgt := 23) dI_shrinkTo_7 rfl (n := 10) rfl (fun c9 => ?_) (fun c9 => ?_)
  · replace h := h c9
    refine x_aload_n dI_shrinkTo_23 rfl (n := 24) rfl ?_
    refine x_iload_n dI_shrinkTo_24 rfl (n := 25) rfl ?_
    replace h := h _ rfl
    refine x_putI rfl dI_shrinkTo_25 pI_21 k1 rfl rfl (n := 28) rfl ?_
    exact x_vret dI_shrinkTo_28 rfl h
  · replace h := h' c9
    refine x_aload_n dI_shrinkTo_10 rfl (n := 11) rfl ?_
    refine x_getR rfl dI_shrinkTo_11 fI_11 k1 (n := 14) rfl ?_
    refine x_iload_n dI_shrinkTo_14 rfl (n := 15) rfl ?_
    refine x_null dI_shrinkTo_15 (n := 16) rfl ?_
    obtain ⟨a3, e4, h⟩ := h
    obtain ⟨n6, k5, h⟩ := h
    obtain ⟨c7, h⟩ := h
    replace h := h _ rfl
    refine x_aastN e4 dI_shrinkTo_16 k5 (by decide) c7 (n := 17) rfl ?_
    refine x_iinc (v := x2 + 1) dI_shrinkTo_17 rfl rfl (by decide) (L' := [some (vR (some a0)), some (vI x1), some (vI (x2 + 1))]) rfl (n := 20) rfl ?_
    refine x_goto (tgt := 2) dI_shrinkTo_20 rfl ?_
    exact h
set_option maxRecDepth 100000 in
set_option maxHeartbeats 4000000 in
theorem bI_shrinkTo {l : Launch} {G : xG} {m : XM} {Q : XR → XM → Prop} {a0 : Nat} {x1 : Int32} (hst : l.stackTraces = false)
    (h : WW l G xI_shrinkTo 2 [some (vR (some a0)), some (vI x1), some (vI x1)] [] m 0 0 Q) :
    CC l G xI_shrinkTo [vR (some a0), vI x1] m Q := by
  refine x_entry (by decide +kernel) rfl hst (Nat.le_of_ble_eq_true rfl) (L0 := [some (vR (some a0)), some (vI x1), none]) rfl ?_
  refine x_iload_n dI_shrinkTo_0 rfl (n := 1) rfl ?_
  refine x_istore_n dI_shrinkTo_1 (by decide) (L' := [some (vR (some a0)), some (vI x1), some (vI x1)]) rfl (n := 2) rfl ?_
  exact h
set_option maxRecDepth 100000 in
set_option maxHeartbeats 4000000 in
theorem bI_setsBefore_5 {l : Launch} {G : xG} {m : XM} {bc bs : Nat} {Q : XR → XM → Prop} {a0 : Nat} {x1 : Int32} {x2 : Int64} {x4 : Int32}
    (h : kd m a0 = some (oB 0) ∧ (((gI m a0 2) ≤ x4 → Q (.inl (some (vL x2))) m) ∧ (¬ (gI m a0 2) ≤ x4 → ∃ a2, gR m a0 0 = some a2 ∧ ∃ n5, kd m a2 = some (aR 3 n5) ∧ vp_in x4 n5 ∧ ∃ a7, gR m a2 x4.toNatClampNeg = some a7 ∧ kd m a7 = some (oB 1) ∧ ((x1 ≤ (gI m a7 4) → WW l G xI_setsBefore 5 [some (vR (some a0)), some (vI x1), some (vL x2), none, some (vI (x4 + 1))] [] m bc bs Q) ∧ (¬ x1 ≤ (gI m a7 4) → vp_in x4 n5 ∧ WW l G xI_setsBefore 5 [some (vR (some a0)), some (vI x1), some (vL (x2 ||| (jshl (1 : Int64) (gI m a7 2)))), none, some (vI (x4 + 1))] [] m bc bs Q))))) :
    WW l G xI_setsBefore 5 [some (vR (some a0)), some (vI x1), some (vL x2), none, some (vI x4)] [] m bc bs Q := by
  refine x_iload dI_setsBefore_5 rfl (n := 7) rfl ?_
  refine x_aload_n dI_setsBefore_7 rfl (n := 8) rfl ?_
  obtain ⟨k1, h⟩ := h
  refine x_getI rfl dI_setsBefore_8 fI_21 k1 (n := 11) rfl ?_
  obtain ⟨h, h'⟩ := h
  refine x_icmp_ge (tgt := 49) dI_setsBefore_11 rfl (n := 14) rfl (fun c12 => ?_) (fun c12 => ?_)
  · replace h := h c12
    refine x_lload_n dI_setsBefore_49 rfl (n := 50) rfl ?_
    exact x_lret dI_setsBefore_50 rfl h
  · replace h := h' c12
    refine x_aload_n dI_setsBefore_14 rfl (n := 15) rfl ?_
    refine x_getR rfl dI_setsBefore_15 fI_11 k1 (n := 18) rfl ?_
    refine x_iload dI_setsBefore_18 rfl (n := 20) rfl ?_
    obtain ⟨a2, e3, h⟩ := h
    obtain ⟨n5, k4, h⟩ := h
    obtain ⟨c6, h⟩ := h
    refine x_aald e3 dI_setsBefore_20 k4 (by decide) c6 (n := 21) rfl ?_
    obtain ⟨a7, e8, h⟩ := h
    obtain ⟨k9, h⟩ := h
    refine x_getI e8 dI_setsBefore_21 fI_44 k9 (n := 24) rfl ?_
    refine x_iload_n dI_setsBefore_24 rfl (n := 25) rfl ?_
    obtain ⟨h, h'⟩ := h
    refine x_icmp_ge (tgt := 43) dI_setsBefore_25 rfl (n := 28) rfl (fun c11 => ?_) (fun c11 => ?_)
    · replace h := h c11
      refine x_iinc (v := x4 + 1) dI_setsBefore_43 rfl rfl (by decide) (L' := [some (vR (some a0)), some (vI x1), some (vL x2), none, some (vI (x4 + 1))]) rfl (n := 46) rfl ?_
      refine x_goto (tgt := 5) dI_setsBefore_46 rfl ?_
      exact h
    · replace h := h' c11
      refine x_lload_n dI_setsBefore_28 rfl (n := 29) rfl ?_
      refine x_lconst (v := 1) dI_setsBefore_29 (by decide) (n := 30) rfl ?_
      refine x_aload_n dI_setsBefore_30 rfl (n := 31) rfl ?_
      refine x_getR rfl dI_setsBefore_31 fI_11 k1 (n := 34) rfl ?_
      refine x_iload dI_setsBefore_34 rfl (n := 36) rfl ?_
      obtain ⟨c10, h⟩ := h
      refine x_aald e3 dI_setsBefore_36 k4 (by decide) c10 (n := 37) rfl ?_
      refine x_getI e8 dI_setsBefore_37 fI_33 k9 (n := 40) rfl ?_
      refine x_lshl dI_setsBefore_40 (n := 41) rfl ?_
      refine x_lor dI_setsBefore_41 (n := 42) rfl ?_
      refine x_lstore_n dI_setsBefore_42 (by decide) (L' := [some (vR (some a0)), some (vI x1), some (vL (x2 ||| (jshl (1 : Int64) (gI m a7 2)))), none, some (vI x4)]) rfl (n := 43) rfl ?_
      refine x_iinc (v := x4 + 1) dI_setsBefore_43 rfl rfl (by decide) (L' := [some (vR (some a0)), some (vI x1), some (vL (x2 ||| (jshl (1 : Int64) (gI m a7 2)))), none, some (vI (x4 + 1))]) rfl (n := 46) rfl ?_
      refine x_goto (tgt := 5) dI_setsBefore_46 rfl ?_
      exact h
set_option maxRecDepth 100000 in
set_option maxHeartbeats 4000000 in
theorem bI_setsBefore {l : Launch} {G : xG} {m : XM} {Q : XR → XM → Prop} {a0 : Nat} {x1 : Int32} (hst : l.stackTraces = false)
    (h : WW l G xI_setsBefore 5 [some (vR (some a0)), some (vI x1), some (vL (0 : Int64)), none, some (vI (0 : Int32))] [] m 0 0 Q) :
    CC l G xI_setsBefore [vR (some a0), vI x1] m Q := by
  refine x_entry (by decide +kernel) rfl hst (Nat.le_of_ble_eq_true rfl) (L0 := [some (vR (some a0)), some (vI x1), none, none, none]) rfl ?_
  refine x_lconst (v := 0) dI_setsBefore_0 (by decide) (n := 1) rfl ?_
  refine x_lstore_n dI_setsBefore_1 (by decide) (L' := [some (vR (some a0)), some (vI x1), some (vL (0 : Int64)), none, none]) rfl (n := 2) rfl ?_
  refine x_iconst (v := 0) dI_setsBefore_2 (by decide) (n := 3) rfl ?_
  refine x_istore dI_setsBefore_3 (by decide) (L' := [some (vR (some a0)), some (vI x1), some (vL (0 : Int64)), none, some (vI (0 : Int32))]) rfl (n := 5) rfl ?_
  exact h
set_option maxRecDepth 100000 in
set_option maxHeartbeats 4000000 in
theorem bI_takeSet_8 {l : Launch} {G : xG} {m : XM} {bc bs : Nat} {Q : XR → XM → Prop} {a0 : Nat} {x1 : Int32} {o2 : Option Nat} {x3 : Int32} {x4 : Int32} {x5 : Int32}
    (h : kd m a0 = some (oB 0) ∧ (((gI m a0 2) ≤ x5 → ∃ a2, gR m a0 1 = some a2 ∧ ∃ n5, kd m a2 = some (aR 0 n5) ∧ vp_in x1 n5 ∧ ∀ m7, m7 = mI m a2 x1.toNatClampNeg (0 : Int32) → CC l G xI_shrinkTo [vR (some a0), vI x3] m7 (kV (fun m8 => Q (.inl (some (vI x4))) m8) Q)) ∧ (¬ (gI m a0 2) ≤ x5 → ∃ a9, gR m a0 0 = some a9 ∧ ∃ n12, kd m a9 = some (aR 3 n12) ∧ vp_in x5 n12 ∧ ∃ a14, gR m a9 x5.toNatClampNeg = some a14 ∧ kd m a14 = some (oB 1) ∧ ((¬ (gI m a14 2) = x1 → vp_in x3 n12 ∧ ∀ m18, m18 = mR m a9 x3.toNatClampNeg (some a14) → WW l G xI_takeSet 8 [some (vR (some a0)), some (vI x1), some (vR o2), some (vI (x3 + 1)), some (vI x4), some (vI (x5 + 1)), none] [] m18 bc bs Q) ∧ ((gI m a14 2) = x1 → ∃ a19, o2 = some a19 ∧ ∃ n22, kd m a19 = some (aR 3 n22) ∧ vp_in x4 n22 ∧ ∀ m24, m24 = mR m a19 x4.toNatClampNeg (some a14) → WW l G xI_takeSet 8 [some (vR (some a0)), some (vI x1), some (vR o2), some (vI x3), some (vI (x4 + 1)), some (vI (x5 + 1)), none] [] m24 bc bs Q))))) :
    WW l G xI_takeSet 8 [some (vR (some a0)), some (vI x1), some (vR o2), some (vI x3), some (vI x4), some (vI x5), none] [] m bc bs Q := by
  refine x_iload dI_takeSet_8 rfl (n := 10) rfl ?_
  refine x_aload_n dI_takeSet_10 rfl (n := 11) rfl ?_
  obtain ⟨k1, h⟩ := h
  refine x_getI rfl dI_takeSet_11 fI_21 k1 (n := 14) rfl ?_
  obtain ⟨h, h'⟩ := h
  refine x_icmp_ge (tgt := 64) dI_takeSet_14 rfl (n := 17) rfl (fun c26 => ?_) (fun c26 => ?_)
  · replace h := h c26
    refine x_aload_n dI_takeSet_64 rfl (n := 65) rfl ?_
    refine x_getR rfl dI_takeSet_65 fI_17 k1 (n := 68) rfl ?_
    refine x_iload_n dI_takeSet_68 rfl (n := 69) rfl ?_
    refine x_iconst (v := 0) dI_takeSet_69 (by decide) (n := 70) rfl ?_
    obtain ⟨a2, e3, h⟩ := h
    obtain ⟨n5, k4, h⟩ := h
    obtain ⟨c6, h⟩ := h
    replace h := h _ rfl
    refine x_iast e3 dI_takeSet_70 k4 c6 (n := 71) rfl ?_
    refine x_aload_n dI_takeSet_71 rfl (n := 72) rfl ?_
    refine x_iload_n dI_takeSet_72 rfl (n := 73) rfl ?_
    refine x_invV (m := (mI m a2 x1.toNatClampNeg (0 : Int32))) rfl dI_takeSet_73 gI_takeSet_73 (as := [vI x3]) (st := []) rfl rfl k1 rfl rfl (Nat.le_of_ble_eq_true rfl) (n := 76) rfl rfl rfl h (xBk.V fun m8 h => ?_)
    refine x_iload dI_takeSet_76 rfl (n := 78) rfl ?_
    exact x_iret dI_takeSet_78 rfl h
  · replace h := h' c26
    refine x_aload_n dI_takeSet_17 rfl (n := 18) rfl ?_
    refine x_getR rfl dI_takeSet_18 fI_11 k1 (n := 21) rfl ?_
    refine x_iload dI_takeSet_21 rfl (n := 23) rfl ?_
    obtain ⟨a9, e10, h⟩ := h
    obtain ⟨n12, k11, h⟩ := h
    obtain ⟨c13, h⟩ := h
    refine x_aald e10 dI_takeSet_23 k11 (by decide) c13 (n := 24) rfl ?_
    refine x_astore dI_takeSet_24 (by decide) (L' := [some (vR (some a0)), some (vI x1), some (vR o2), some (vI x3), some (vI x4), some (vI x5), some (vR (gR m a9 x5.toNatClampNeg))]) rfl (n := 26) rfl ?_
    refine x_aload dI_takeSet_26 rfl (n := 28) rfl ?_
    obtain ⟨a14, e15, h⟩ := h
    obtain ⟨k16, h⟩ := h
    refine x_getI e15 dI_takeSet_28 fI_33 k16 (n := 31) rfl ?_
    refine x_iload_n dI_takeSet_31 rfl (n := 32) rfl ?_
    obtain ⟨h, h'⟩ := h
    refine x_icmp_ne (tgt := 47) dI_takeSet_32 rfl (n := 35) rfl (fun c25 => ?_) (fun c25 => ?_)
    · replace h := h c25
      refine x_aload_n dI_takeSet_47 rfl (n := 48) rfl ?_
      refine x_getR rfl dI_takeSet_48 fI_11 k1 (n := 51) rfl ?_
      refine x_iload_n dI_takeSet_51 rfl (n := 52) rfl ?_
      refine x_aload dI_takeSet_52 rfl (n := 54) rfl ?_
      obtain ⟨c17, h⟩ := h
      replace h := h _ rfl
      refine x_aast e10 e15 dI_takeSet_54 k11 (by decide) k16 c17 (n := 55) rfl ?_
      refine x_iinc (v := x3 + 1) dI_takeSet_55 rfl rfl (by decide) (L' := [some (vR (some a0)), some (vI x1), some (vR o2), some (vI (x3 + 1)), some (vI x4), some (vI x5), some (vR (gR m a9 x5.toNatClampNeg))]) rfl (n := 58) rfl ?_
      refine x_iinc (v := x5 + 1) dI_takeSet_58 rfl rfl (by decide) (L' := [some (vR (some a0)), some (vI x1), some (vR o2), some (vI (x3 + 1)), some (vI x4), some (vI (x5 + 1)), some (vR (gR m a9 x5.toNatClampNeg))]) rfl (n := 61) rfl ?_
      refine x_goto (tgt := 8) dI_takeSet_61 rfl ?_
      exact x_weak (b := [true, true, true, true, true, true, false]) rfl h
    · replace h := h' c25
      refine x_aload_n dI_takeSet_35 rfl (n := 36) rfl ?_
      refine x_iload dI_takeSet_36 rfl (n := 38) rfl ?_
      refine x_aload dI_takeSet_38 rfl (n := 40) rfl ?_
      obtain ⟨a19, e20, h⟩ := h
      obtain ⟨n22, k21, h⟩ := h
      obtain ⟨c23, h⟩ := h
      replace h := h _ rfl
      refine x_aast e20 e15 dI_takeSet_40 k21 (by decide) k16 c23 (n := 41) rfl ?_
      refine x_iinc (v := x4 + 1) dI_takeSet_41 rfl rfl (by decide) (L' := [some (vR (some a0)), some (vI x1), some (vR o2), some (vI x3), some (vI (x4 + 1)), some (vI x5), some (vR (gR m a9 x5.toNatClampNeg))]) rfl (n := 44) rfl ?_
      refine x_goto (tgt := 58) dI_takeSet_44 rfl ?_
      refine x_iinc (v := x5 + 1) dI_takeSet_58 rfl rfl (by decide) (L' := [some (vR (some a0)), some (vI x1), some (vR o2), some (vI x3), some (vI (x4 + 1)), some (vI (x5 + 1)), some (vR (gR m a9 x5.toNatClampNeg))]) rfl (n := 61) rfl ?_
      refine x_goto (tgt := 8) dI_takeSet_61 rfl ?_
      exact x_weak (b := [true, true, true, true, true, true, false]) rfl h
set_option maxRecDepth 100000 in
set_option maxHeartbeats 4000000 in
theorem bI_takeSet {l : Launch} {G : xG} {m : XM} {Q : XR → XM → Prop} {a0 : Nat} {x1 : Int32} {o2 : Option Nat} (hst : l.stackTraces = false)
    (h : WW l G xI_takeSet 8 [some (vR (some a0)), some (vI x1), some (vR o2), some (vI (0 : Int32)), some (vI (0 : Int32)), some (vI (0 : Int32)), none] [] m 0 0 Q) :
    CC l G xI_takeSet [vR (some a0), vI x1, vR o2] m Q := by
  refine x_entry (by decide +kernel) rfl hst (Nat.le_of_ble_eq_true rfl) (L0 := [some (vR (some a0)), some (vI x1), some (vR o2), none, none, none, none]) rfl ?_
  refine x_iconst (v := 0) dI_takeSet_0 (by decide) (n := 1) rfl ?_
  refine x_istore_n dI_takeSet_1 (by decide) (L' := [some (vR (some a0)), some (vI x1), some (vR o2), some (vI (0 : Int32)), none, none, none]) rfl (n := 2) rfl ?_
  refine x_iconst (v := 0) dI_takeSet_2 (by decide) (n := 3) rfl ?_
  refine x_istore dI_takeSet_3 (by decide) (L' := [some (vR (some a0)), some (vI x1), some (vR o2), some (vI (0 : Int32)), some (vI (0 : Int32)), none, none]) rfl (n := 5) rfl ?_
  refine x_iconst (v := 0) dI_takeSet_5 (by decide) (n := 6) rfl ?_
  refine x_istore dI_takeSet_6 (by decide) (L' := [some (vR (some a0)), some (vI x1), some (vR o2), some (vI (0 : Int32)), some (vI (0 : Int32)), some (vI (0 : Int32)), none]) rfl (n := 8) rfl ?_
  exact h
set_option maxRecDepth 100000 in
set_option maxHeartbeats 4000000 in
theorem bI_add {l : Launch} {G : xG} {m : XM} {Q : XR → XM → Prop} {a0 : Nat} {o1 : Option Nat} (hst : l.stackTraces = false)
    (h : ∃ a1, o1 = some a1 ∧ kd m a1 = some (oB 1) ∧ kd m a0 = some (oB 0) ∧ CC l G xI_remove [vR (some a0), vL (gL m a1 0)] m (kI (fun v6 m5 => kd m5 a0 = some (oB 0) ∧ ∃ a8, gR m5 a0 0 = some a8 ∧ ∃ n11, kd m5 a8 = some (aR 3 n11) ∧ vp_in (gI m5 a0 2) n11 ∧ kd m5 a1 = some (oB 1) ∧ ∀ m14, m14 = mR m5 a8 (gI m5 a0 2).toNatClampNeg (some a1) → ∀ m15, m15 = mI m14 a0 2 ((gI m5 a0 2) + (1 : Int32)) → ∃ a16, gR m14 a0 1 = some a16 ∧ ∃ n19, kd m5 a16 = some (aR 0 n19) ∧ vp_in (gI m15 a1 2) n19 ∧ vp_in (gI m15 a1 2) n19 ∧ ∀ m22, m22 = mI m15 a16 (gI m15 a1 2).toNatClampNeg ((gI m15 a16 (gI m15 a1 2).toNatClampNeg) + (1 : Int32)) → Q (.inl none) m22) Q)) :
    CC l G xI_add [vR (some a0), vR o1] m Q := by
  refine x_entry (by decide +kernel) rfl hst (Nat.le_of_ble_eq_true rfl) (L0 := [some (vR (some a0)), some (vR o1)]) rfl ?_
  refine x_aload_n dI_add_0 rfl (n := 1) rfl ?_
  refine x_aload_n dI_add_1 rfl (n := 2) rfl ?_
  obtain ⟨a1, e2, h⟩ := h
  obtain ⟨k3, h⟩ := h
  refine x_getL e2 dI_add_2 fI_25 k3 (n := 5) rfl ?_
  obtain ⟨k4, h⟩ := h
  refine x_invV (m := m) rfl dI_add_5 gI_add_5 (as := [vL (gL m a1 0)]) (st := []) rfl rfl k4 rfl rfl (Nat.le_of_ble_eq_true rfl) (n := 8) rfl rfl rfl h (xBk.I fun v6 m5 h => ?_)
  refine x_pop dI_add_8 rfl (n := 9) rfl ?_
  refine x_aload_n dI_add_9 rfl (n := 10) rfl ?_
  obtain ⟨k7, h⟩ := h
  refine x_getR rfl dI_add_10 fI_11 k7 (n := 13) rfl ?_
  refine x_aload_n dI_add_13 rfl (n := 14) rfl ?_
  refine x_getI rfl dI_add_14 fI_21 k7 (n := 17) rfl ?_
  refine x_aload_n dI_add_17 rfl (n := 18) rfl ?_
  obtain ⟨a8, e9, h⟩ := h
  obtain ⟨n11, k10, h⟩ := h
  obtain ⟨c12, h⟩ := h
  obtain ⟨k13, h⟩ := h
  replace h := h _ rfl
  refine x_aast e9 e2 dI_add_18 k10 (by decide) k13 c12 (n := 19) rfl ?_
  refine x_aload_n dI_add_19 rfl (n := 20) rfl ?_
  refine x_dup dI_add_20 rfl (n := 21) rfl ?_
  refine x_getI rfl dI_add_21 fI_21 k7 (n := 24) rfl ?_
  refine x_iconst (v := 1) dI_add_24 (by decide) (n := 25) rfl ?_
  refine x_iadd dI_add_25 (n := 26) rfl ?_
  replace h := h _ rfl
  refine x_putI rfl dI_add_26 pI_21 k7 rfl rfl (n := 29) rfl ?_
  refine x_aload_n dI_add_29 rfl (n := 30) rfl ?_
  refine x_getR rfl dI_add_30 fI_17 k7 (n := 33) rfl ?_
  refine x_aload_n dI_add_33 rfl (n := 34) rfl ?_
  refine x_getI e2 dI_add_34 fI_33 k13 (n := 37) rfl ?_
  refine x_dup2 dI_add_37 rfl rfl (n := 38) rfl ?_
  obtain ⟨a16, e17, h⟩ := h
  obtain ⟨n19, k18, h⟩ := h
  obtain ⟨c20, h⟩ := h
  refine x_iald e17 dI_add_38 k18 c20 (n := 39) rfl ?_
  refine x_iconst (v := 1) dI_add_39 (by decide) (n := 40) rfl ?_
  refine x_iadd dI_add_40 (n := 41) rfl ?_
  obtain ⟨c21, h⟩ := h
  replace h := h _ rfl
  refine x_iast e17 dI_add_41 k18 c21 (n := 42) rfl ?_
  exact x_vret dI_add_42 rfl h
set_option maxRecDepth 100000 in
set_option maxHeartbeats 4000000 in
theorem bI_remove_11 {l : Launch} {G : xG} {m : XM} {bc bs : Nat} {Q : XR → XM → Prop} {a0 : Nat} {x1 : Int64} {x3 : Int32} {x4 : Int32} {x5 : Int32}
    (h : ((x4 ≤ x5 → kd m a0 = some (oB 0) ∧ CC l G xI_shrinkTo [vR (some a0), vI x3] m (kV (fun m2 => ((x4 ≤ x3 → Q (.inl (some (vI (0 : Int32)))) m2) ∧ (¬ x4 ≤ x3 → Q (.inl (some (vI (1 : Int32)))) m2))) Q)) ∧ (¬ x4 ≤ x5 → kd m a0 = some (oB 0) ∧ ∃ a5, gR m a0 0 = some a5 ∧ ∃ n8, kd m a5 = some (aR 3 n8) ∧ vp_in x5 n8 ∧ ∃ a10, gR m a5 x5.toNatClampNeg = some a10 ∧ kd m a10 = some (oB 1) ∧ ((¬ (lg_cmp (gL m a10 0) x1) = 0 → vp_in x5 n8 ∧ vp_in x3 n8 ∧ ∀ m15, m15 = mR m a5 x3.toNatClampNeg (some a10) → WW l G xI_remove 11 [some (vR (some a0)), some (vL x1), none, some (vI (x3 + 1)), some (vI x4), some (vI (x5 + 1))] [] m15 bc bs Q) ∧ ((lg_cmp (gL m a10 0) x1) = 0 → vp_in x5 n8 ∧ ∃ a17, gR m a0 1 = some a17 ∧ ∃ n20, kd m a17 = some (aR 0 n20) ∧ vp_in (gI m a10 2) n20 ∧ vp_in (gI m a10 2) n20 ∧ ∀ m23, m23 = mI m a17 (gI m a10 2).toNatClampNeg ((gI m a17 (gI m a10 2).toNatClampNeg) - (1 : Int32)) → WW l G xI_remove 11 [some (vR (some a0)), some (vL x1), none, some (vI x3), some (vI x4), some (vI (x5 + 1))] [] m23 bc bs Q))))) :
    WW l G xI_remove 11 [some (vR (some a0)), some (vL x1), none, some (vI x3), some (vI x4), some (vI x5)] [] m bc bs Q := by
  refine x_iload dI_remove_11 rfl (n := 13) rfl ?_
  refine x_iload dI_remove_13 rfl (n := 15) rfl ?_
  obtain ⟨h, h'⟩ := h
  refine x_icmp_ge (tgt := 77) dI_remove_15 rfl (n := 18) rfl (fun c25 => ?_) (fun c25 => ?_)
  · replace h := h c25
    refine x_aload_n dI_remove_77 rfl (n := 78) rfl ?_
    refine x_iload_n dI_remove_78 rfl (n := 79) rfl ?_
    obtain ⟨k1, h⟩ := h
    refine x_invV (m := m) rfl dI_remove_79 gI_remove_79 (as := [vI x3]) (st := []) rfl rfl k1 rfl rfl (Nat.le_of_ble_eq_true rfl) (n := 82) rfl rfl rfl h (xBk.V fun m2 h => ?_)
    refine x_iload_n dI_remove_82 rfl (n := 83) rfl ?_
    refine x_iload dI_remove_83 rfl (n := 85) rfl ?_
    obtain ⟨h, h'⟩ := h
    refine x_icmp_ge (tgt := 92) dI_remove_85 rfl (n := 88) rfl (fun c3 => ?_) (fun c3 => ?_)
    · replace h := h c3
      refine x_iconst (v := 0) dI_remove_92 (by decide) (n := 93) rfl ?_
      exact x_zret dI_remove_93 rfl (by decide) h
    · replace h := h' c3
      refine x_iconst (v := 1) dI_remove_88 (by decide) (n := 89) rfl ?_
      refine x_goto (tgt := 93) dI_remove_89 rfl ?_
      exact x_zret dI_remove_93 rfl (by decide) h
  · replace h := h' c25
    refine x_aload_n dI_remove_18 rfl (n := 19) rfl ?_
    obtain ⟨k4, h⟩ := h
    refine x_getR rfl dI_remove_19 fI_11 k4 (n := 22) rfl ?_
    refine x_iload dI_remove_22 rfl (n := 24) rfl ?_
    obtain ⟨a5, e6, h⟩ := h
    obtain ⟨n8, k7, h⟩ := h
    obtain ⟨c9, h⟩ := h
    refine x_aald e6 dI_remove_24 k7 (by decide) c9 (n := 25) rfl ?_
    obtain ⟨a10, e11, h⟩ := h
    obtain ⟨k12, h⟩ := h
    refine x_getL e11 dI_remove_25 fI_25 k12 (n := 28) rfl ?_
    refine x_lload_n dI_remove_28 rfl (n := 29) rfl ?_
    refine x_lcmp dI_remove_29 (n := 30) rfl ?_
    obtain ⟨h, h'⟩ := h
    refine x_if_ne (tgt := 55) dI_remove_30 rfl (n := 33) rfl (fun c24 => ?_) (fun c24 => ?_)
    · replace h := h c24
      refine x_aload_n dI_remove_55 rfl (n := 56) rfl ?_
      refine x_getR rfl dI_remove_56 fI_11 k4 (n := 59) rfl ?_
      refine x_iload_n dI_remove_59 rfl (n := 60) rfl ?_
      refine x_aload_n dI_remove_60 rfl (n := 61) rfl ?_
      refine x_getR rfl dI_remove_61 fI_11 k4 (n := 64) rfl ?_
      refine x_iload dI_remove_64 rfl (n := 66) rfl ?_
      obtain ⟨c13, h⟩ := h
      refine x_aald e6 dI_remove_66 k7 (by decide) c13 (n := 67) rfl ?_
      obtain ⟨c14, h⟩ := h
      replace h := h _ rfl
      refine x_aast e6 e11 dI_remove_67 k7 (by decide) k12 c14 (n := 68) rfl ?_
      refine x_iinc (v := x3 + 1) dI_remove_68 rfl rfl (by decide) (L' := [some (vR (some a0)), some (vL x1), none, some (vI (x3 + 1)), some (vI x4), some (vI x5)]) rfl (n := 71) rfl ?_
      refine x_iinc (v := x5 + 1) dI_remove_71 rfl rfl (by decide) (L' := [some (vR (some a0)), some (vL x1), none, some (vI (x3 + 1)), some (vI x4), some (vI (x5 + 1))]) rfl (n := 74) rfl ?_
      refine x_goto (tgt := 11) dI_remove_74 rfl ?_
      exact h
    · replace h := h' c24
      refine x_aload_n dI_remove_33 rfl (n := 34) rfl ?_
      refine x_getR rfl dI_remove_34 fI_17 k4 (n := 37) rfl ?_
      refine x_aload_n dI_remove_37 rfl (n := 38) rfl ?_
      refine x_getR rfl dI_remove_38 fI_11 k4 (n := 41) rfl ?_
      refine x_iload dI_remove_41 rfl (n := 43) rfl ?_
      obtain ⟨c16, h⟩ := h
      refine x_aald e6 dI_remove_43 k7 (by decide) c16 (n := 44) rfl ?_
      refine x_getI e11 dI_remove_44 fI_33 k12 (n := 47) rfl ?_
      refine x_dup2 dI_remove_47 rfl rfl (n := 48) rfl ?_
      obtain ⟨a17, e18, h⟩ := h
      obtain ⟨n20, k19, h⟩ := h
      obtain ⟨c21, h⟩ := h
      refine x_iald e18 dI_remove_48 k19 c21 (n := 49) rfl ?_
      refine x_iconst (v := 1) dI_remove_49 (by decide) (n := 50) rfl ?_
      refine x_isub dI_remove_50 (n := 51) rfl ?_
      obtain ⟨c22, h⟩ := h
      replace h := h _ rfl
      refine x_iast e18 dI_remove_51 k19 c22 (n := 52) rfl ?_
      refine x_goto (tgt := 71) dI_remove_52 rfl ?_
      refine x_iinc (v := x5 + 1) dI_remove_71 rfl rfl (by decide) (L' := [some (vR (some a0)), some (vL x1), none, some (vI x3), some (vI x4), some (vI (x5 + 1))]) rfl (n := 74) rfl ?_
      refine x_goto (tgt := 11) dI_remove_74 rfl ?_
      exact h
set_option maxRecDepth 100000 in
set_option maxHeartbeats 4000000 in
theorem bI_remove {l : Launch} {G : xG} {m : XM} {Q : XR → XM → Prop} {a0 : Nat} {x1 : Int64} (hst : l.stackTraces = false)
    (h : kd m a0 = some (oB 0) ∧ WW l G xI_remove 11 [some (vR (some a0)), some (vL x1), none, some (vI (0 : Int32)), some (vI (gI m a0 2)), some (vI (0 : Int32))] [] m 0 0 Q) :
    CC l G xI_remove [vR (some a0), vL x1] m Q := by
  refine x_entry (by decide +kernel) rfl hst (Nat.le_of_ble_eq_true rfl) (L0 := [some (vR (some a0)), some (vL x1), none, none, none, none]) rfl ?_
  refine x_iconst (v := 0) dI_remove_0 (by decide) (n := 1) rfl ?_
  refine x_istore_n dI_remove_1 (by decide) (L' := [some (vR (some a0)), some (vL x1), none, some (vI (0 : Int32)), none, none]) rfl (n := 2) rfl ?_
  refine x_aload_n dI_remove_2 rfl (n := 3) rfl ?_
  obtain ⟨k1, h⟩ := h
  refine x_getI rfl dI_remove_3 fI_21 k1 (n := 6) rfl ?_
  refine x_istore dI_remove_6 (by decide) (L' := [some (vR (some a0)), some (vL x1), none, some (vI (0 : Int32)), some (vI (gI m a0 2)), none]) rfl (n := 8) rfl ?_
  refine x_iconst (v := 0) dI_remove_8 (by decide) (n := 9) rfl ?_
  refine x_istore dI_remove_9 (by decide) (L' := [some (vR (some a0)), some (vL x1), none, some (vI (0 : Int32)), some (vI (gI m a0 2)), some (vI (0 : Int32))]) rfl (n := 11) rfl ?_
  exact h
set_option maxRecDepth 100000 in
set_option maxHeartbeats 4000000 in
theorem bI_find_2 {l : Launch} {G : xG} {m : XM} {bc bs : Nat} {Q : XR → XM → Prop} {a0 : Nat} {x1 : Int64} {x3 : Int32}
    (h : kd m a0 = some (oB 0) ∧ (((gI m a0 2) ≤ x3 → Q (.inl (some (vR none))) m) ∧ (¬ (gI m a0 2) ≤ x3 → ∃ a2, gR m a0 0 = some a2 ∧ ∃ n5, kd m a2 = some (aR 3 n5) ∧ vp_in x3 n5 ∧ ∃ a7, gR m a2 x3.toNatClampNeg = some a7 ∧ kd m a7 = some (oB 1) ∧ ((¬ (lg_cmp (gL m a7 0) x1) = 0 → WW l G xI_find 2 [some (vR (some a0)), some (vL x1), none, some (vI (x3 + 1))] [] m bc bs Q) ∧ ((lg_cmp (gL m a7 0) x1) = 0 → vp_in x3 n5 ∧ Q (.inl (some (vR (gR m a2 x3.toNatClampNeg)))) m))))) :
    WW l G xI_find 2 [some (vR (some a0)), some (vL x1), none, some (vI x3)] [] m bc bs Q := by
  refine x_iload_n dI_find_2 rfl (n := 3) rfl ?_
  refine x_aload_n dI_find_3 rfl (n := 4) rfl ?_
  obtain ⟨k1, h⟩ := h
  refine x_getI rfl dI_find_4 fI_21 k1 (n := 7) rfl ?_
  obtain ⟨h, h'⟩ := h
  refine x_icmp_ge (tgt := 37) dI_find_7 rfl (n := 10) rfl (fun c12 => ?_) (fun c12 => ?_)
  · replace h := h c12
    refine x_null dI_find_37 (n := 38) rfl ?_
    exact x_aret dI_find_38 rfl (Or.inl ⟨_, rfl⟩) h
  · replace h := h' c12
    refine x_aload_n dI_find_10 rfl (n := 11) rfl ?_
    refine x_getR rfl dI_find_11 fI_11 k1 (n := 14) rfl ?_
    refine x_iload_n dI_find_14 rfl (n := 15) rfl ?_
    obtain ⟨a2, e3, h⟩ := h
    obtain ⟨n5, k4, h⟩ := h
    obtain ⟨c6, h⟩ := h
    refine x_aald e3 dI_find_15 k4 (by decide) c6 (n := 16) rfl ?_
    obtain ⟨a7, e8, h⟩ := h
    obtain ⟨k9, h⟩ := h
    refine x_getL e8 dI_find_16 fI_25 k9 (n := 19) rfl ?_
    refine x_lload_n dI_find_19 rfl (n := 20) rfl ?_
    refine x_lcmp dI_find_20 (n := 21) rfl ?_
    obtain ⟨h, h'⟩ := h
    refine x_if_ne (tgt := 31) dI_find_21 rfl (n := 24) rfl (fun c11 => ?_) (fun c11 => ?_)
    · replace h := h c11
      refine x_iinc (v := x3 + 1) dI_find_31 rfl rfl (by decide) (L' := [some (vR (some a0)), some (vL x1), none, some (vI (x3 + 1))]) rfl (n := 34) rfl ?_
      refine x_goto (tgt := 2) dI_find_34 rfl ?_
      exact h
    · replace h := h' c11
      refine x_aload_n dI_find_24 rfl (n := 25) rfl ?_
      refine x_getR rfl dI_find_25 fI_11 k1 (n := 28) rfl ?_
      refine x_iload_n dI_find_28 rfl (n := 29) rfl ?_
      obtain ⟨c10, h⟩ := h
      refine x_aald e3 dI_find_29 k4 (by decide) c10 (n := 30) rfl ?_
      exact x_aret dI_find_30 rfl (Or.inl ⟨_, rfl⟩) h
set_option maxRecDepth 100000 in
set_option maxHeartbeats 4000000 in
theorem bI_find {l : Launch} {G : xG} {m : XM} {Q : XR → XM → Prop} {a0 : Nat} {x1 : Int64} (hst : l.stackTraces = false)
    (h : WW l G xI_find 2 [some (vR (some a0)), some (vL x1), none, some (vI (0 : Int32))] [] m 0 0 Q) :
    CC l G xI_find [vR (some a0), vL x1] m Q := by
  refine x_entry (by decide +kernel) rfl hst (Nat.le_of_ble_eq_true rfl) (L0 := [some (vR (some a0)), some (vL x1), none, none]) rfl ?_
  refine x_iconst (v := 0) dI_find_0 (by decide) (n := 1) rfl ?_
  refine x_istore_n dI_find_1 (by decide) (L' := [some (vR (some a0)), some (vL x1), none, some (vI (0 : Int32))]) rfl (n := 2) rfl ?_
  exact h
set_option maxRecDepth 100000 in
set_option maxHeartbeats 4000000 in
theorem bI_wipe {l : Launch} {G : xG} {m : XM} {Q : XR → XM → Prop} {a0 : Nat} (hst : l.stackTraces = false)
    (h : kd m a0 = some (oB 0) ∧ CC l G xI_shrinkTo [vR (some a0), vI (0 : Int32)] m (kV (fun m2 => kd m2 a0 = some (oB 0) ∧ CC l G xJ_fill [vR (gR m2 a0 1), vI (0 : Int32)] m2 (kV (fun m4 => Q (.inl none) m4) Q)) Q)) :
    CC l G xI_wipe [vR (some a0)] m Q := by
  refine x_entry (by decide +kernel) rfl hst (Nat.le_of_ble_eq_true rfl) (L0 := [some (vR (some a0))]) rfl ?_
  refine x_aload_n dI_wipe_0 rfl (n := 1) rfl ?_
  refine x_iconst (v := 0) dI_wipe_1 (by decide) (n := 2) rfl ?_
  obtain ⟨k1, h⟩ := h
  refine x_invV (m := m) rfl dI_wipe_2 gI_wipe_2 (as := [vI (0 : Int32)]) (st := []) rfl rfl k1 rfl rfl (Nat.le_of_ble_eq_true rfl) (n := 5) rfl rfl rfl h (xBk.V fun m2 h => ?_)
  refine x_aload_n dI_wipe_5 rfl (n := 6) rfl ?_
  obtain ⟨k3, h⟩ := h
  refine x_getR rfl dI_wipe_6 fI_17 k3 (n := 9) rfl ?_
  refine x_iconst (v := 0) dI_wipe_9 (by decide) (n := 10) rfl ?_
  refine x_invS (m := m2) dI_wipe_10 gI_wipe_10 (as := [vR (gR m2 a0 1), vI (0 : Int32)]) (st := []) rfl rfl (Nat.le_of_ble_eq_true rfl) (n := 13) rfl rfl rfl h (xBk.V fun m4 h => ?_)
  exact x_vret dI_wipe_13 rfl h
