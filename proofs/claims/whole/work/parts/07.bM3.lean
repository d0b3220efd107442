set_option maxRecDepth 100000 in
set_option maxHeartbeats 4000000 in
theorem bM_freeNumber_101 {l : Launch} {G : xG} {m : XM} {bc bs : Nat} {Q : XR → XM → Prop} {a0 : Nat} {x1 : Int32}
    (h : kd m a0 = some (oB 5) ∧ (((gI m a0 20) ≤ x1 → WW l G xM_freeNumber 129 [some (vR (some a0)), some (vI (0 : Int32)), none] [] m bc bs Q) ∧ (¬ (gI m a0 20) ≤ x1 → ∃ a2, gR m a0 21 = some a2 ∧ ∃ n5, kd m a2 = some (aR 0 n5) ∧ vp_in x1 n5 ∧ ∃ a7, gR m a0 17 = some a7 ∧ ∃ n10, kd m a7 = some (aR 1 n10) ∧ vp_in (gI m a2 x1.toNatClampNeg) n10 ∧ ∀ m12, m12 = mI m a7 (gI m a2 x1.toNatClampNeg).toNatClampNeg (1 : Int32) → WW l G xM_freeNumber 101 [some (vR (some a0)), some (vI (x1 + 1)), none] [] m12 bc bs Q))) :
    WW l G xM_freeNumber 101 [some (vR (some a0)), some (vI x1), none] [] m bc bs Q := by
  refine x_iload_n dM_freeNumber_101 rfl (n := 102) rfl ?_
  refine x_aload_n dM_freeNumber_102 rfl (n := 103) rfl ?_
  obtain ⟨k1, h⟩ := h
  refine x_getI rfl dM_freeNumber_103 fM_86 k1 (n := 106) rfl ?_
  obtain ⟨h, h'⟩ := h
  refine x_icmp_ge (tgt := 127) dM_freeNumber_106 rfl (n := 109) rfl (fun c13 => ?_) (fun c13 => ?_)
  · replace h := h c13
    refine x_iconst (v := 0) dM_freeNumber_127 (by decide) (n := 128) rfl ?_
    refine x_istore_n dM_freeNumber_128 (by decide) (L' := [some (vR (some a0)), some (vI (0 : Int32)), none]) rfl (n := 129) rfl ?_
    exact h
  · replace h := h' c13
    refine x_aload_n dM_freeNumber_109 rfl (n := 110) rfl ?_
    refine x_getR rfl dM_freeNumber_110 fM_50 k1 (n := 113) rfl ?_
    refine x_aload_n dM_freeNumber_113 rfl (n := 114) rfl ?_
    refine x_getR rfl dM_freeNumber_114 fM_56 k1 (n := 117) rfl ?_
    refine x_iload_n dM_freeNumber_117 rfl (n := 118) rfl ?_
    obtain ⟨a2, e3, h⟩ := h
    obtain ⟨n5, k4, h⟩ := h
    obtain ⟨c6, h⟩ := h
    refine x_iald e3 dM_freeNumber_118 k4 c6 (n := 119) rfl ?_
    refine x_iconst (v := 1) dM_freeNumber_119 (by decide) (n := 120) rfl ?_
    obtain ⟨a7, e8, h⟩ := h
    obtain ⟨n10, k9, h⟩ := h
    obtain ⟨c11, h⟩ := h
    replace h := h _ rfl
    refine x_zast e8 dM_freeNumber_120 k9 c11 (by decide) (n := 121) rfl ?_
    refine x_iinc (v := x1 + 1) dM_freeNumber_121 rfl rfl (by decide) (L' := [some (vR (some a0)), some (vI (x1 + 1)), none]) rfl (n := 124) rfl ?_
    refine x_goto (tgt := 101) dM_freeNumber_124 rfl ?_
    exact h
set_option maxRecDepth 100000 in
set_option maxHeartbeats 4000000 in
theorem bM_freeNumber_129 {l : Launch} {G : xG} {m : XM} {bc bs : Nat} {Q : XR → XM → Prop} {a0 : Nat} {x1 : Int32}
    (h : kd m a0 = some (oB 5) ∧ ∃ a2, gR m a0 17 = some a2 ∧ ∃ n5, kd m a2 = some (aR 1 n5) ∧ vp_in x1 n5 ∧ (((gI m a2 x1.toNatClampNeg) = 0 → Q (.inl (some (vI x1))) m) ∧ (¬ (gI m a2 x1.toNatClampNeg) = 0 → WW l G xM_freeNumber 129 [some (vR (some a0)), some (vI (x1 + 1)), none] [] m bc bs Q))) :
    WW l G xM_freeNumber 129 [some (vR (some a0)), some (vI x1), none] [] m bc bs Q := by
  refine x_aload_n dM_freeNumber_129 rfl (n := 130) rfl ?_
  obtain ⟨k1, h⟩ := h
  refine x_getR rfl dM_freeNumber_130 fM_50 k1 (n := 133) rfl ?_
  refine x_iload_n dM_freeNumber_133 rfl (n := 134) rfl ?_
  obtain ⟨a2, e3, h⟩ := h
  obtain ⟨n5, k4, h⟩ := h
  obtain ⟨c6, h⟩ := h
  refine x_zald e3 dM_freeNumber_134 k4 c6 (n := 135) rfl ?_
  obtain ⟨h, h'⟩ := h
  refine x_if_eq (tgt := 144) dM_freeNumber_135 rfl (n := 138) rfl (fun c7 => ?_) (fun c7 => ?_)
  · replace h := h c7
    refine x_iload_n dM_freeNumber_144 rfl (n := 145) rfl ?_
    exact x_iret dM_freeNumber_145 rfl h
  · replace h := h' c7
    refine x_iinc (v := x1 + 1) dM_freeNumber_138 rfl rfl (by decide) (L' := [some (vR (some a0)), some (vI (x1 + 1)), none]) rfl (n := 141) rfl ?_
    refine x_goto (tgt := 129) dM_freeNumber_141 rfl ?_
    exact h
set_option maxRecDepth 100000 in
set_option maxHeartbeats 4000000 in
theorem bM_freeNumber {l : Launch} {G : xG} {m : XM} {Q : XR → XM → Prop} {a0 : Nat} (hst : l.stackTraces = false)
    (h : WW l G xM_freeNumber 2 [some (vR (some a0)), some (vI (0 : Int32)), none] [] m 0 0 Q) :
    CC l G xM_freeNumber [vR (some a0)] m Q := by
  refine x_entry (by decide +kernel) rfl hst (Nat.le_of_ble_eq_true rfl) (L0 := [some (vR (some a0)), none, none]) rfl ?_
  refine x_iconst (v := 0) dM_freeNumber_0 (by decide) (n := 1) rfl ?_
  refine x_istore_n dM_freeNumber_1 (by decide) (L' := [some (vR (some a0)), some (vI (0 : Int32)), none]) rfl (n := 2) rfl ?_
  exact h
set_option maxRecDepth 100000 in
set_option maxHeartbeats 4000000 in
theorem bM_append {l : Launch} {G : xG} {m : XM} {Q : XR → XM → Prop} {a0 : Nat} {x1 : Int32} {x2 : Int32} (hst : l.stackTraces = false)
    (h : kd m a0 = some (oB 5) ∧ ∃ a2, gR m a0 14 = some a2 ∧ ∃ n5, kd m a2 = some (aR 0 n5) ∧ vp_in x1 n5 ∧ ∃ a7, gR m a0 15 = some a7 ∧ ∃ n10, kd m a7 = some (aR 0 n10) ∧ vp_in (((8 : Int32) * x1) + (gI m a2 x1.toNatClampNeg)) n10 ∧ ∀ m12, m12 = mI m a7 (((8 : Int32) * x1) + (gI m a2 x1.toNatClampNeg)).toNatClampNeg x2 → vp_in x1 n5 ∧ vp_in x1 n5 ∧ ∀ m15, m15 = mI m12 a2 x1.toNatClampNeg ((gI m12 a2 x1.toNatClampNeg) + (1 : Int32)) → Q (.inl none) m15) :
    CC l G xM_append [vR (some a0), vI x1, vI x2] m Q := by
  refine x_entry (by decide +kernel) rfl hst (Nat.le_of_ble_eq_true rfl) (L0 := [some (vR (some a0)), some (vI x1), some (vI x2)]) rfl ?_
  refine x_aload_n dM_append_0 rfl (n := 1) rfl ?_
  obtain ⟨k1, h⟩ := h
  refine x_getR rfl dM_append_1 fM_47 k1 (n := 4) rfl ?_
  refine x_bipush (v := 8) dM_append_4 (by decide) (n := 6) rfl ?_
  refine x_iload_n dM_append_6 rfl (n := 7) rfl ?_
  refine x_imul dM_append_7 (n := 8) rfl ?_
  refine x_aload_n dM_append_8 rfl (n := 9) rfl ?_
  refine x_getR rfl dM_append_9 fM_44 k1 (n := 12) rfl ?_
  refine x_iload_n dM_append_12 rfl (n := 13) rfl ?_
  obtain ⟨a2, e3, h⟩ := h
  obtain ⟨n5, k4, h⟩ := h
  obtain ⟨c6, h⟩ := h
  refine x_iald e3 dM_append_13 k4 c6 (n := 14) rfl ?_
  refine x_iadd dM_append_14 (n := 15) rfl ?_
  refine x_iload_n dM_append_15 rfl (n := 16) rfl ?_
  obtain ⟨a7, e8, h⟩ := h
  obtain ⟨n10, k9, h⟩ := h
  obtain ⟨c11, h⟩ := h
  replace h := h _ rfl
  refine x_iast e8 dM_append_16 k9 c11 (n := 17) rfl ?_
  refine x_aload_n dM_append_17 rfl (n := 18) rfl ?_
  refine x_getR rfl dM_append_18 fM_44 k1 (n := 21) rfl ?_
  refine x_iload_n dM_append_21 rfl (n := 22) rfl ?_
  refine x_dup2 dM_append_22 rfl rfl (n := 23) rfl ?_
  obtain ⟨c13, h⟩ := h
  refine x_iald e3 dM_append_23 k4 c13 (n := 24) rfl ?_
  refine x_iconst (v := 1) dM_append_24 (by decide) (n := 25) rfl ?_
  refine x_iadd dM_append_25 (n := 26) rfl ?_
  obtain ⟨c14, h⟩ := h
  replace h := h _ rfl
  refine x_iast e3 dM_append_26 k4 c14 (n := 27) rfl ?_
  exact x_vret dM_append_27 rfl h
set_option maxRecDepth 100000 in
set_option maxHeartbeats 4000000 in
theorem bM_alone {l : Launch} {G : xG} {m : XM} {Q : XR → XM → Prop} {a0 : Nat} {x1 : Int32} {x2 : Int32} (hst : l.stackTraces = false)
    (h : kd m a0 = some (oB 5) ∧ ∃ a2, gR m a0 9 = some a2 ∧ ∃ n5, kd m a2 = some (aR 1 n5) ∧ vp_in x2 n5 ∧ ∀ m7, m7 = mI m a2 x2.toNatClampNeg (0 : Int32) → ∃ a8, gR m a0 10 = some a8 ∧ ∃ n11, kd m a8 = some (aR 1 n11) ∧ vp_in x2 n11 ∧ (((gI m7 a8 x2.toNatClampNeg) = 0 → ∃ a13, gR m a0 23 = some a13 ∧ ∃ n16, kd m a13 = some (aR 0 n16) ∧ vp_in (8 : Int32) n16 ∧ vp_in (8 : Int32) n16 ∧ ∀ m19, m19 = mI m7 a13 (8 : Int32).toNatClampNeg ((gI m7 a13 (8 : Int32).toNatClampNeg) + (1 : Int32)) → ∃ a20, gR m a0 6 = some a20 ∧ ∃ n23, kd m a20 = some (aR 2 n23) ∧ vp_in x2 n23 ∧ CC l G xM_removeOld [vR (some a0), vL (gL m a20 x2.toNatClampNeg), vI (2 : Int32)] m19 (kI (fun v26 m25 => Q (.inl none) m25) Q)) ∧ (¬ (gI m7 a8 x2.toNatClampNeg) = 0 → CC l G xM_copy [vR (some a0), vI x2] m7 (kI (fun v28 m27 => kd m27 a0 = some (oB 5) ∧ ∃ a30, gR m27 a0 11 = some a30 ∧ ∃ n33, kd m27 a30 = some (aR 0 n33) ∧ vp_in x2 n33 ∧ vp_in v28 n33 ∧ ∀ m36, m36 = mI m27 a30 v28.toNatClampNeg (gI m27 a30 x2.toNatClampNeg) → ∃ a37, gR m27 a0 21 = some a37 ∧ ∃ n40, kd m27 a37 = some (aR 0 n40) ∧ vp_in (gI m36 a0 20) n40 ∧ ∀ m42, m42 = mI m36 a37 (gI m36 a0 20).toNatClampNeg v28 → ∀ m43, m43 = mI m42 a0 20 ((gI m42 a0 20) + (1 : Int32)) → Q (.inl none) m43) Q)))) :
    CC l G xM_alone [vR (some a0), vI x1, vI x2] m Q := by
  refine x_entry (by decide +kernel) rfl hst (Nat.le_of_ble_eq_true rfl) (L0 := [some (vR (some a0)), some (vI x1), some (vI x2), none]) rfl ?_
  refine x_aload_n dM_alone_0 rfl (n := 1) rfl ?_
  obtain ⟨k1, h⟩ := h
  refine x_getR rfl dM_alone_1 fM_31 k1 (n := 4) rfl ?_
  refine x_iload_n dM_alone_4 rfl (n := 5) rfl ?_
  refine x_iconst (v := 0) dM_alone_5 (by decide) (n := 6) rfl ?_
  obtain ⟨a2, e3, h⟩ := h
  obtain ⟨n5, k4, h⟩ := h
  obtain ⟨c6, h⟩ := h
  replace h := h _ rfl
  refine x_zast e3 dM_alone_6 k4 c6 (by decide) (n := 7) rfl ?_
  refine x_aload_n dM_alone_7 rfl (n := 8) rfl ?_
  refine x_getR rfl dM_alone_8 fM_35 k1 (n := 11) rfl ?_
  refine x_iload_n dM_alone_11 rfl (n := 12) rfl ?_
  obtain ⟨a8, e9, h⟩ := h
  obtain ⟨n11, k10, h⟩ := h
  obtain ⟨c12, h⟩ := h
  refine x_zald e9 dM_alone_12 k10 c12 (n := 13) rfl ?_
  obtain ⟨h, h'⟩ := h
  refine x_if_eq (tgt := 55) dM_alone_13 rfl (n := 16) rfl (fun c44 => ?_) (fun c44 => ?_)
  · replace h := h c44
    refine x_aload_n dM_alone_55 rfl (n := 56) rfl ?_
    refine x_getR rfl dM_alone_56 fM_62 k1 (n := 59) rfl ?_
    refine x_bipush (v := 8) dM_alone_59 (by decide) (n := 61) rfl ?_
    refine x_dup2 dM_alone_61 rfl rfl (n := 62) rfl ?_
    obtain ⟨a13, e14, h⟩ := h
    obtain ⟨n16, k15, h⟩ := h
    obtain ⟨c17, h⟩ := h
    refine x_iald e14 dM_alone_62 k15 c17 (n := 63) rfl ?_
    refine x_iconst (v := 1) dM_alone_63 (by decide) (n := 64) rfl ?_
    refine x_iadd dM_alone_64 (n := 65) rfl ?_
    obtain ⟨c18, h⟩ := h
    replace h := h _ rfl
    refine x_iast e14 dM_alone_65 k15 c18 (n := 66) rfl ?_
    refine x_aload_n dM_alone_66 rfl (n := 67) rfl ?_
    refine x_aload_n dM_alone_67 rfl (n := 68) rfl ?_
    refine x_getR rfl dM_alone_68 fM_20 k1 (n := 71) rfl ?_
    refine x_iload_n dM_alone_71 rfl (n := 72) rfl ?_
    obtain ⟨a20, e21, h⟩ := h
    obtain ⟨n23, k22, h⟩ := h
    obtain ⟨c24, h⟩ := h
    refine x_lald e21 dM_alone_72 k22 c24 (n := 73) rfl ?_
    refine x_iconst (v := 2) dM_alone_73 (by decide) (n := 74) rfl ?_
    refine x_invV (m := (mI (mI m a2 x2.toNatClampNeg (0 : Int32)) a13 (8 : Int32).toNatClampNeg ((gI (mI m a2 x2.toNatClampNeg (0 : Int32)) a13 (8 : Int32).toNatClampNeg) + (1 : Int32)))) rfl dM_alone_74 gM_alone_74 (as := [vL (gL m a20 x2.toNatClampNeg), vI (2 : Int32)]) (st := []) rfl rfl k1 rfl rfl (Nat.le_of_ble_eq_true rfl) (n := 77) rfl rfl rfl h (xBk.I fun v26 m25 h => ?_)
    refine x_pop dM_alone_77 rfl (n := 78) rfl ?_
    exact x_vret dM_alone_78 rfl h
  · replace h := h' c44
    refine x_aload_n dM_alone_16 rfl (n := 17) rfl ?_
    refine x_iload_n dM_alone_17 rfl (n := 18) rfl ?_
    refine x_invV (m := (mI m a2 x2.toNatClampNeg (0 : Int32))) rfl dM_alone_18 gM_alone_18 (as := [vI x2]) (st := []) rfl rfl k1 rfl rfl (Nat.le_of_ble_eq_true rfl) (n := 21) rfl rfl rfl h (xBk.I fun v28 m27 h => ?_)
    refine x_istore_n dM_alone_21 (by decide) (L' := [some (vR (some a0)), some (vI x1), some (vI x2), some (vI v28)]) rfl (n := 22) rfl ?_
    refine x_aload_n dM_alone_22 rfl (n := 23) rfl ?_
    obtain ⟨k29, h⟩ := h
    refine x_getR rfl dM_alone_23 fM_38 k29 (n := 26) rfl ?_
    refine x_iload_n dM_alone_26 rfl (n := 27) rfl ?_
    refine x_aload_n dM_alone_27 rfl (n := 28) rfl ?_
    refine x_getR rfl dM_alone_28 fM_38 k29 (n := 31) rfl ?_
    refine x_iload_n dM_alone_31 rfl (n := 32) rfl ?_
    obtain ⟨a30, e31, h⟩ := h
    obtain ⟨n33, k32, h⟩ := h
    obtain ⟨c34, h⟩ := h
    refine x_iald e31 dM_alone_32 k32 c34 (n := 33) rfl ?_
    obtain ⟨c35, h⟩ := h
    replace h := h _ rfl
    refine x_iast e31 dM_alone_33 k32 c35 (n := 34) rfl ?_
    refine x_aload_n dM_alone_34 rfl (n := 35) rfl ?_
    refine x_getR rfl dM_alone_35 fM_56 k29 (n := 38) rfl ?_
    refine x_aload_n dM_alone_38 rfl (n := 39) rfl ?_
    refine x_getI rfl dM_alone_39 fM_86 k29 (n := 42) rfl ?_
    refine x_iload_n dM_alone_42 rfl (n := 43) rfl ?_
    obtain ⟨a37, e38, h⟩ := h
    obtain ⟨n40, k39, h⟩ := h
    obtain ⟨c41, h⟩ := h
    replace h := h _ rfl
    refine x_iast e38 dM_alone_43 k39 c41 (n := 44) rfl ?_
    refine x_aload_n dM_alone_44 rfl (n := 45) rfl ?_
    refine x_dup dM_alone_45 rfl (n := 46) rfl ?_
    refine x_getI rfl dM_alone_46 fM_86 k29 (n := 49) rfl ?_
    refine x_iconst (v := 1) dM_alone_49 (by decide) (n := 50) rfl ?_
    refine x_iadd dM_alone_50 (n := 51) rfl ?_
    replace h := h _ rfl
    refine x_putI rfl dM_alone_51 pM_86 k29 rfl rfl (n := 54) rfl ?_
    exact x_vret dM_alone_54 rfl h
set_option maxRecDepth 100000 in
set_option maxHeartbeats 4000000 in
theorem bM_removeOld {l : Launch} {G : xG} {m : XM} {Q : XR → XM → Prop} {a0 : Nat} {x1 : Int64} {x3 : Int32} (hst : l.stackTraces = false)
    (h : kd m a0 = some (oB 5) ∧ CC l G xM_reads [vR (some a0), vL x1] m (kI (fun v3 m2 => ((¬ v3 = 0 → kd m2 a0 = some (oB 5) ∧ CC l G xM_inSet [vR (some a0), vL x1] m2 (kI (fun v6 m5 => ((0 ≤ v6 → CC l G xM_setOfKey [vL x1] m5 (kI (fun v8 m7 => kd m7 a0 = some (oB 5) ∧ CC l G xM_takeOut [vR (some a0), vI v8, vI v6] m7 (kV (fun m10 => kd m10 a0 = some (oB 5) ∧ ∃ a12, gR m10 a0 23 = some a12 ∧ ∃ n15, kd m10 a12 = some (aR 0 n15) ∧ vp_in x3 n15 ∧ vp_in x3 n15 ∧ ∀ m18, m18 = mI m10 a12 x3.toNatClampNeg ((gI m10 a12 x3.toNatClampNeg) + (1 : Int32)) → Q (.inl (some (vI (1 : Int32)))) m18) Q)) Q)) ∧ (¬ 0 ≤ v6 → Q (.inl (some (vI (0 : Int32)))) m5))) Q)) ∧ (v3 = 0 → Q (.inl (some (vI (0 : Int32)))) m2))) Q)) :
    CC l G xM_removeOld [vR (some a0), vL x1, vI x3] m Q := by
  refine x_entry (by decide +kernel) rfl hst (Nat.le_of_ble_eq_true rfl) (L0 := [some (vR (some a0)), some (vL x1), none, some (vI x3), none]) rfl ?_
  refine x_aload_n dM_removeOld_0 rfl (n := 1) rfl ?_
  refine x_lload_n dM_removeOld_1 rfl (n := 2) rfl ?_
  obtain ⟨k1, h⟩ := h
  refine x_invV (m := m) rfl dM_removeOld_2 gM_removeOld_2 (as := [vL x1]) (st := []) rfl rfl k1 rfl rfl (Nat.le_of_ble_eq_true rfl) (n := 5) rfl rfl rfl h (xBk.I fun v3 m2 h => ?_)
  obtain ⟨h, h'⟩ := h
  refine x_if_ne (tgt := 10) dM_removeOld_5 rfl (n := 8) rfl (fun c20 => ?_) (fun c20 => ?_)
  · replace h := h c20
    refine x_aload_n dM_removeOld_10 rfl (n := 11) rfl ?_
    refine x_lload_n dM_removeOld_11 rfl (n := 12) rfl ?_
    obtain ⟨k4, h⟩ := h
    refine x_invV (m := m2) rfl dM_removeOld_12 gM_removeOld_12 (as := [vL x1]) (st := []) rfl rfl k4 rfl rfl (Nat.le_of_ble_eq_true rfl) (n := 15) rfl rfl rfl h (xBk.I fun v6 m5 h => ?_)
    refine x_istore dM_removeOld_15 (by decide) (L' := [some (vR (some a0)), some (vL x1), none, some (vI x3), some (vI v6)]) rfl (n := 17) rfl ?_
    refine x_iload dM_removeOld_17 rfl (n := 19) rfl ?_
    obtain ⟨h, h'⟩ := h
    refine x_if_ge (tgt := 24) dM_removeOld_19 rfl (n := 22) rfl (fun c19 => ?_) (fun c19 => ?_)
    · replace h := h c19
      refine x_aload_n dM_removeOld_24 rfl (n := 25) rfl ?_
      refine x_lload_n dM_removeOld_25 rfl (n := 26) rfl ?_
      refine x_invS (m := m5) dM_removeOld_26 gM_removeOld_26 (as := [vL x1]) (st := [vR (some a0)]) rfl rfl (Nat.le_of_ble_eq_true rfl) (n := 29) rfl rfl rfl h (xBk.I fun v8 m7 h => ?_)
      refine x_iload dM_removeOld_29 rfl (n := 31) rfl ?_
      obtain ⟨k9, h⟩ := h
      refine x_invV (m := m7) rfl dM_removeOld_31 gM_removeOld_31 (as := [vI v8, vI v6]) (st := []) rfl rfl k9 rfl rfl (Nat.le_of_ble_eq_true rfl) (n := 34) rfl rfl rfl h (xBk.V fun m10 h => ?_)
      refine x_aload_n dM_removeOld_34 rfl (n := 35) rfl ?_
      obtain ⟨k11, h⟩ := h
      refine x_getR rfl dM_removeOld_35 fM_62 k11 (n := 38) rfl ?_
      refine x_iload_n dM_removeOld_38 rfl (n := 39) rfl ?_
      refine x_dup2 dM_removeOld_39 rfl rfl (n := 40) rfl ?_
      obtain ⟨a12, e13, h⟩ := h
      obtain ⟨n15, k14, h⟩ := h
      obtain ⟨c16, h⟩ := h
      refine x_iald e13 dM_removeOld_40 k14 c16 (n := 41) rfl ?_
      refine x_iconst (v := 1) dM_removeOld_41 (by decide) (n := 42) rfl ?_
      refine x_iadd dM_removeOld_42 (n := 43) rfl ?_
      obtain ⟨c17, h⟩ := h
      replace h := h _ rfl
      refine x_iast e13 dM_removeOld_43 k14 c17 (n := 44) rfl ?_
      refine x_iconst (v := 1) dM_removeOld_44 (by decide) (n := 45) rfl ?_
      exact x_zret dM_removeOld_45 rfl (by decide) h
    · replace h := h' c19
      refine x_iconst (v := 0) dM_removeOld_22 (by decide) (n := 23) rfl ?_
      exact x_zret dM_removeOld_23 rfl (by decide) h
  · replace h := h' c20
    refine x_iconst (v := 0) dM_removeOld_8 (by decide) (n := 9) rfl ?_
    exact x_zret dM_removeOld_9 rfl (by decide) h
set_option maxRecDepth 100000 in
set_option maxHeartbeats 4000000 in
theorem bM_reads_11 {l : Launch} {G : xG} {m : XM} {bc bs : Nat} {Q : XR → XM → Prop} {a0 : Nat} {x1 : Int64} {x3 : Int32} {x4 : Int32} {x5 : Int32}
    (h : kd m a0 = some (oB 5) ∧ ∃ a2, gR m a0 14 = some a2 ∧ ∃ n5, kd m a2 = some (aR 0 n5) ∧ vp_in x3 n5 ∧ (((gI m a2 x3.toNatClampNeg) ≤ x5 → ((x4 = 0 → ((x4 = 0 ∨ x4 = 1) ∧ Q (.inl (some (vI x4))) m)) ∧ (¬ x4 = 0 → ∃ a7, gR m a0 23 = some a7 ∧ ∃ n10, kd m a7 = some (aR 0 n10) ∧ vp_in (9 : Int32) n10 ∧ vp_in (9 : Int32) n10 ∧ ∀ m13, m13 = mI m a7 (9 : Int32).toNatClampNeg ((gI m a7 (9 : Int32).toNatClampNeg) + (1 : Int32)) → ((x4 = 0 ∨ x4 = 1) ∧ Q (.inl (some (vI x4))) m13)))) ∧ (¬ (gI m a2 x3.toNatClampNeg) ≤ x5 → ((¬ x4 = 0 → WW l G xM_reads 11 [some (vR (some a0)), some (vL x1), none, some (vI x3), some (vI (1 : Int32)), some (vI (x5 + 1))] [] m bc bs Q) ∧ (x4 = 0 → ∃ a15, gR m a0 15 = some a15 ∧ ∃ n18, kd m a15 = some (aR 0 n18) ∧ vp_in (((8 : Int32) * x3) + x5) n18 ∧ ∃ a20, gR m a0 6 = some a20 ∧ ∃ n23, kd m a20 = some (aR 2 n23) ∧ vp_in (gI m a15 (((8 : Int32) * x3) + x5).toNatClampNeg) n23 ∧ CC l G xM_bitOf [vL (gL m a20 (gI m a15 (((8 : Int32) * x3) + x5).toNatClampNeg).toNatClampNeg)] m (kI (fun v26 m25 => CC l G xM_bitOf [vL x1] m25 (kI (fun v28 m27 => ((¬ v26 = v28 → WW l G xM_reads 11 [some (vR (some a0)), some (vL x1), none, some (vI x3), some (vI (0 : Int32)), some (vI (x5 + 1))] [] m27 bc bs Q) ∧ (v26 = v28 → WW l G xM_reads 11 [some (vR (some a0)), some (vL x1), none, some (vI x3), some (vI (1 : Int32)), some (vI (x5 + 1))] [] m27 bc bs Q))) Q)) Q)))))) :
    WW l G xM_reads 11 [some (vR (some a0)), some (vL x1), none, some (vI x3), some (vI x4), some (vI x5)] [] m bc bs Q := by
  refine x_iload dM_reads_11 rfl (n := 13) rfl ?_
  refine x_aload_n dM_reads_13 rfl (n := 14) rfl ?_
  obtain ⟨k1, h⟩ := h
  refine x_getR rfl dM_reads_14 fM_44 k1 (n := 17) rfl ?_
  refine x_iload_n dM_reads_17 rfl (n := 18) rfl ?_
  obtain ⟨a2, e3, h⟩ := h
  obtain ⟨n5, k4, h⟩ := h
  obtain ⟨c6, h⟩ := h
  refine x_iald e3 dM_reads_18 k4 c6 (n := 19) rfl ?_
  obtain ⟨h, h'⟩ := h
  refine x_icmp_ge (tgt := 67) dM_reads_19 rfl (n := 22) rfl (fun c31 => ?_) (fun c31 => ?_)
  · replace h := h c31
    refine x_iload dM_reads_67 rfl (n := 69) rfl ?_
    obtain ⟨h, h'⟩ := h
    refine x_if_eq (tgt := 83) dM_reads_69 rfl (n := 72) rfl (fun c14 => ?_) (fun c14 => ?_)
    · replace h := h c14
      refine x_iload dM_reads_83 rfl (n := 85) rfl ?_
      exact x_zret dM_reads_85 rfl (nar_b h.1) h.2
    · replace h := h' c14
      refine x_aload_n dM_reads_72 rfl (n := 73) rfl ?_
      refine x_getR rfl dM_reads_73 fM_62 k1 (n := 76) rfl ?_
      refine x_bipush (v := 9) dM_reads_76 (by decide) (n := 78) rfl ?_
      refine x_dup2 dM_reads_78 rfl rfl (n := 79) rfl ?_
      obtain ⟨a7, e8, h⟩ := h
      obtain ⟨n10, k9, h⟩ := h
      obtain ⟨c11, h⟩ := h
      refine x_iald e8 dM_reads_79 k9 c11 (n := 80) rfl ?_
      refine x_iconst (v := 1) dM_reads_80 (by decide) (n := 81) rfl ?_
      refine x_iadd dM_reads_81 (n := 82) rfl ?_
      obtain ⟨c12, h⟩ := h
      replace h := h _ rfl
      refine x_iast e8 dM_reads_82 k9 c12 (n := 83) rfl ?_
      refine x_iload dM_reads_83 rfl (n := 85) rfl ?_
      exact x_zret dM_reads_85 rfl (nar_b h.1) h.2
  · replace h := h' c31
    refine x_iload dM_reads_22 rfl (n := 24) rfl ?_
    obtain ⟨h, h'⟩ := h
    refine x_if_ne (tgt := 54) dM_reads_24 rfl (n := 27) rfl (fun c30 => ?_) (fun c30 => ?_)
    · replace h := h c30
      refine x_iconst (v := 1) dM_reads_54 (by decide) (n := 55) rfl ?_
      refine x_goto (tgt := 59) dM_reads_55 rfl ?_
      refine x_istore dM_reads_59 (by decide) (L' := [some (vR (some a0)), some (vL x1), none, some (vI x3), some (vI (1 : Int32)), some (vI x5)]) rfl (n := 61) rfl ?_
      refine x_iinc (v := x5 + 1) dM_reads_61 rfl rfl (by decide) (L' := [some (vR (some a0)), some (vL x1), none, some (vI x3), some (vI (1 : Int32)), some (vI (x5 + 1))]) rfl (n := 64) rfl ?_
      refine x_goto (tgt := 11) dM_reads_64 rfl ?_
      exact h
    · replace h := h' c30
      refine x_aload_n dM_reads_27 rfl (n := 28) rfl ?_
      refine x_getR rfl dM_reads_28 fM_20 k1 (n := 31) rfl ?_
      refine x_aload_n dM_reads_31 rfl (n := 32) rfl ?_
      refine x_getR rfl dM_reads_32 fM_47 k1 (n := 35) rfl ?_
      refine x_bipush (v := 8) dM_reads_35 (by decide) (n := 37) rfl ?_
      refine x_iload_n dM_reads_37 rfl (n := 38) rfl ?_
      refine x_imul dM_reads_38 (n := 39) rfl ?_
      refine x_iload dM_reads_39 rfl (n := 41) rfl ?_
      refine x_iadd dM_reads_41 (n := 42) rfl ?_
      obtain ⟨a15, e16, h⟩ := h
      obtain ⟨n18, k17, h⟩ := h
      obtain ⟨c19, h⟩ := h
      refine x_iald e16 dM_reads_42 k17 c19 (n := 43) rfl ?_
      obtain ⟨a20, e21, h⟩ := h
      obtain ⟨n23, k22, h⟩ := h
      obtain ⟨c24, h⟩ := h
      refine x_lald e21 dM_reads_43 k22 c24 (n := 44) rfl ?_
      refine x_invS (m := m) dM_reads_44 gM_reads_44 (as := [vL (gL m a20 (gI m a15 (((8 : Int32) * x3) + x5).toNatClampNeg).toNatClampNeg)]) (st := []) rfl rfl (Nat.le_of_ble_eq_true rfl) (n := 47) rfl rfl rfl h (xBk.I fun v26 m25 h => ?_)
      refine x_lload_n dM_reads_47 rfl (n := 48) rfl ?_
      refine x_invS (m := m25) dM_reads_48 gM_reads_48 (as := [vL x1]) (st := [vI v26]) rfl rfl (Nat.le_of_ble_eq_true rfl) (n := 51) rfl rfl rfl h (xBk.I fun v28 m27 h => ?_)
      obtain ⟨h, h'⟩ := h
      refine x_icmp_ne (tgt := 58) dM_reads_51 rfl (n := 54) rfl (fun c29 => ?_) (fun c29 => ?_)
      · replace h := h c29
        refine x_iconst (v := 0) dM_reads_58 (by decide) (n := 59) rfl ?_
        refine x_istore dM_reads_59 (by decide) (L' := [some (vR (some a0)), some (vL x1), none, some (vI x3), some (vI (0 : Int32)), some (vI x5)]) rfl (n := 61) rfl ?_
        refine x_iinc (v := x5 + 1) dM_reads_61 rfl rfl (by decide) (L' := [some (vR (some a0)), some (vL x1), none, some (vI x3), some (vI (0 : Int32)), some (vI (x5 + 1))]) rfl (n := 64) rfl ?_
        refine x_goto (tgt := 11) dM_reads_64 rfl ?_
        exact h
      · replace h := h' c29
        refine x_iconst (v := 1) dM_reads_54 (by decide) (n := 55) rfl ?_
        refine x_goto (tgt := 59) dM_reads_55 rfl ?_
        refine x_istore dM_reads_59 (by decide) (L' := [some (vR (some a0)), some (vL x1), none, some (vI x3), some (vI (1 : Int32)), some (vI x5)]) rfl (n := 61) rfl ?_
        refine x_iinc (v := x5 + 1) dM_reads_61 rfl rfl (by decide) (L' := [some (vR (some a0)), some (vL x1), none, some (vI x3), some (vI (1 : Int32)), some (vI (x5 + 1))]) rfl (n := 64) rfl ?_
        refine x_goto (tgt := 11) dM_reads_64 rfl ?_
        exact h
set_option maxRecDepth 100000 in
set_option maxHeartbeats 4000000 in
theorem bM_reads {l : Launch} {G : xG} {m : XM} {Q : XR → XM → Prop} {a0 : Nat} {x1 : Int64} (hst : l.stackTraces = false)
    (h : CC l G xM_setOfKey [vL x1] m (kI (fun v2 m1 => WW l G xM_reads 11 [some (vR (some a0)), some (vL x1), none, some (vI v2), some (vI (0 : Int32)), some (vI (0 : Int32))] [] m1 0 0 Q) Q)) :
    CC l G xM_reads [vR (some a0), vL x1] m Q := by
  refine x_entry (by decide +kernel) rfl hst (Nat.le_of_ble_eq_true rfl) (L0 := [some (vR (some a0)), some (vL x1), none, none, none, none]) rfl ?_
  refine x_lload_n dM_reads_0 rfl (n := 1) rfl ?_
  refine x_invS (m := m) dM_reads_1 gM_reads_1 (as := [vL x1]) (st := []) rfl rfl (Nat.le_of_ble_eq_true rfl) (n := 4) rfl rfl rfl h (xBk.I fun v2 m1 h => ?_)
  refine x_istore_n dM_reads_4 (by decide) (L' := [some (vR (some a0)), some (vL x1), none, some (vI v2), none, none]) rfl (n := 5) rfl ?_
  refine x_iconst (v := 0) dM_reads_5 (by decide) (n := 6) rfl ?_
  refine x_istore dM_reads_6 (by decide) (L' := [some (vR (some a0)), some (vL x1), none, some (vI v2), some (vI (0 : Int32)), none]) rfl (n := 8) rfl ?_
  refine x_iconst (v := 0) dM_reads_8 (by decide) (n := 9) rfl ?_
  refine x_istore dM_reads_9 (by decide) (L' := [some (vR (some a0)), some (vL x1), none, some (vI v2), some (vI (0 : Int32)), some (vI (0 : Int32))]) rfl (n := 11) rfl ?_
  exact h
set_option maxRecDepth 100000 in
set_option maxHeartbeats 4000000 in
theorem bM_bitOf {l : Launch} {G : xG} {m : XM} {Q : XR → XM → Prop} {x0 : Int64} (hst : l.stackTraces = false)
    (h : CC l G xM_mixed [vL x0] m (kL (fun v2 m1 => Q (.inl (some (vI ((v2 &&& (63 : Int64)).toInt32)))) m1) Q)) :
    CC l G xM_bitOf [vL x0] m Q := by
  refine x_entry (by decide +kernel) rfl hst (Nat.le_of_ble_eq_true rfl) (L0 := [some (vL x0), none]) rfl ?_
  refine x_lload_n dM_bitOf_0 rfl (n := 1) rfl ?_
  refine x_invS (m := m) dM_bitOf_1 gM_bitOf_1 (as := [vL x0]) (st := []) rfl rfl (Nat.le_of_ble_eq_true rfl) (n := 4) rfl rfl rfl h (xBk.J fun v2 m1 h => ?_)
  refine x_ldc2 (v := 63) dM_bitOf_4 w_724 (n := 7) rfl ?_
  refine x_land dM_bitOf_7 (n := 8) rfl ?_
  refine x_l2i dM_bitOf_8 (n := 9) rfl ?_
  exact x_iret dM_bitOf_9 rfl h
set_option maxRecDepth 100000 in
set_option maxHeartbeats 4000000 in
theorem bM_writeOpen_20 {l : Launch} {G : xG} {m : XM} {bc bs : Nat} {Q : XR → XM → Prop} {a0 : Nat} {x1 : Int32} {x2 : Int32}
    (h : kd m a0 = some (oB 5) ∧ ∃ a2, gR m a0 14 = some a2 ∧ ∃ n5, kd m a2 = some (aR 0 n5) ∧ vp_in (96 : Int32) n5 ∧ (((gI m a2 (96 : Int32).toNatClampNeg) ≤ x2 → vp_in (96 : Int32) n5 ∧ ∀ m8, m8 = mI m a2 (96 : Int32).toNatClampNeg (0 : Int32) → ∀ m9, m9 = mI m8 a0 16 ((gI m8 a0 16) + (1 : Int32)) → ((¬ ((gI m9 a0 16) - (gI m9 a0 16) / (4 : Int32) * (4 : Int32)) = 0 → Q (.inl none) m9) ∧ (((gI m9 a0 16) - (gI m9 a0 16) / (4 : Int32) * (4 : Int32)) = 0 → ∃ a10, gR m a0 23 = some a10 ∧ ∃ n13, kd m a10 = some (aR 0 n13) ∧ vp_in (0 : Int32) n13 ∧ vp_in (0 : Int32) n13 ∧ ∀ m16, m16 = mI m9 a10 (0 : Int32).toNatClampNeg ((gI m9 a10 (0 : Int32).toNatClampNeg) + (1 : Int32)) → Q (.inl none) m16))) ∧ (¬ (gI m a2 (96 : Int32).toNatClampNeg) ≤ x2 → ∃ a18, gR m a0 15 = some a18 ∧ ∃ n21, kd m a18 = some (aR 0 n21) ∧ vp_in ((768 : Int32) + x2) n21 ∧ CC l G xM_append [vR (some a0), vI x1, vI (gI m a18 ((768 : Int32) + x2).toNatClampNeg)] m (kV (fun m23 => WW l G xM_writeOpen 20 [some (vR (some a0)), some (vI x1), some (vI (x2 + 1))] [] m23 bc bs Q) Q)))) :
    WW l G xM_writeOpen 20 [some (vR (some a0)), some (vI x1), some (vI x2)] [] m bc bs Q := by
  refine x_iload_n dM_writeOpen_20 rfl (n := 21) rfl ?_
  refine x_aload_n dM_writeOpen_21 rfl (n := 22) rfl ?_
  obtain ⟨k1, h⟩ := h
  refine x_getR rfl dM_writeOpen_22 fM_44 k1 (n := 25) rfl ?_
  refine x_bipush (v := 96) dM_writeOpen_25 (by decide) (n := 27) rfl ?_
  obtain ⟨a2, e3, h⟩ := h
  obtain ⟨n5, k4, h⟩ := h
  obtain ⟨c6, h⟩ := h
  refine x_iald e3 dM_writeOpen_27 k4 c6 (n := 28) rfl ?_
  obtain ⟨h, h'⟩ := h
  refine x_icmp_ge (tgt := 52) dM_writeOpen_28 rfl (n := 31) rfl (fun c24 => ?_) (fun c24 => ?_)
  · replace h := h c24
    refine x_aload_n dM_writeOpen_52 rfl (n := 53) rfl ?_
    refine x_getR rfl dM_writeOpen_53 fM_44 k1 (n := 56) rfl ?_
    refine x_bipush (v := 96) dM_writeOpen_56 (by decide) (n := 58) rfl ?_
    refine x_iconst (v := 0) dM_writeOpen_58 (by decide) (n := 59) rfl ?_
    obtain ⟨c7, h⟩ := h
    replace h := h _ rfl
    refine x_iast e3 dM_writeOpen_59 k4 c7 (n := 60) rfl ?_
    refine x_aload_n dM_writeOpen_60 rfl (n := 61) rfl ?_
    refine x_dup dM_writeOpen_61 rfl (n := 62) rfl ?_
    refine x_getI rfl dM_writeOpen_62 fM_96 k1 (n := 65) rfl ?_
    refine x_iconst (v := 1) dM_writeOpen_65 (by decide) (n := 66) rfl ?_
    refine x_iadd dM_writeOpen_66 (n := 67) rfl ?_
    replace h := h _ rfl
    refine x_putI rfl dM_writeOpen_67 pM_96 k1 rfl rfl (n := 70) rfl ?_
    refine x_aload_n dM_writeOpen_70 rfl (n := 71) rfl ?_
    refine x_getI rfl dM_writeOpen_71 fM_96 k1 (n := 74) rfl ?_
    refine x_iconst (v := 4) dM_writeOpen_74 (by decide) (n := 75) rfl ?_
    refine x_irem dM_writeOpen_75 (by decide) (n := 76) rfl ?_
    obtain ⟨h, h'⟩ := h
    refine x_if_ne (tgt := 89) dM_writeOpen_76 rfl (n := 79) rfl (fun c17 => ?_) (fun c17 => ?_)
    · replace h := h c17
      exact x_vret dM_writeOpen_89 rfl h
    · replace h := h' c17
      refine x_aload_n dM_writeOpen_79 rfl (n := 80) rfl ?_
      refine x_getR rfl dM_writeOpen_80 fM_62 k1 (n := 83) rfl ?_
      refine x_iconst (v := 0) dM_writeOpen_83 (by decide) (n := 84) rfl ?_
      refine x_dup2 dM_writeOpen_84 rfl rfl (n := 85) rfl ?_
      obtain ⟨a10, e11, h⟩ := h
      obtain ⟨n13, k12, h⟩ := h
      obtain ⟨c14, h⟩ := h
      refine x_iald e11 dM_writeOpen_85 k12 c14 (n := 86) rfl ?_
      refine x_iconst (v := 1) dM_writeOpen_86 (by decide) (n := 87) rfl ?_
      refine x_iadd dM_writeOpen_87 (n := 88) rfl ?_
      obtain ⟨c15, h⟩ := h
      replace h := h _ rfl
      refine x_iast e11 dM_writeOpen_88 k12 c15 (n := 89) rfl ?_
      exact x_vret dM_writeOpen_89 rfl h
  · replace h := h' c24
    refine x_aload_n dM_writeOpen_31 rfl (n := 32) rfl ?_
    refine x_iload_n dM_writeOpen_32 rfl (n := 33) rfl ?_
    refine x_aload_n dM_writeOpen_33 rfl (n := 34) rfl ?_
    refine x_getR rfl dM_writeOpen_34 fM_47 k1 (n := 37) rfl ?_
    refine x_sipush (v := 768) dM_writeOpen_37 (by decide) (n := 40) rfl ?_
    refine x_iload_n dM_writeOpen_40 rfl (n := 41) rfl ?_
    refine x_iadd dM_writeOpen_41 (n := 42) rfl ?_
    obtain ⟨a18, e19, h⟩ := h
    obtain ⟨n21, k20, h⟩ := h
    obtain ⟨c22, h⟩ := h
    refine x_iald e19 dM_writeOpen_42 k20 c22 (n := 43) rfl ?_
    refine x_invV (m := m) rfl dM_writeOpen_43 gM_writeOpen_43 (as := [vI x1, vI (gI m a18 ((768 : Int32) + x2).toNatClampNeg)]) (st := []) rfl rfl k1 rfl rfl (Nat.le_of_ble_eq_true rfl) (n := 46) rfl rfl rfl h (xBk.V fun m23 h => ?_)
    refine x_iinc (v := x2 + 1) dM_writeOpen_46 rfl rfl (by decide) (L' := [some (vR (some a0)), some (vI x1), some (vI (x2 + 1))]) rfl (n := 49) rfl ?_
    refine x_goto (tgt := 20) dM_writeOpen_49 rfl ?_
    exact h
set_option maxRecDepth 100000 in
set_option maxHeartbeats 4000000 in
theorem bM_writeOpen {l : Launch} {G : xG} {m : XM} {Q : XR → XM → Prop} {a0 : Nat} (hst : l.stackTraces = false)
    (h : kd m a0 = some (oB 5) ∧ ∃ a2, gR m a0 14 = some a2 ∧ ∃ n5, kd m a2 = some (aR 0 n5) ∧ vp_in ((64 : Int32) + ((gI m a0 16) - (gI m a0 16) / (32 : Int32) * (32 : Int32))) n5 ∧ ∀ m7, m7 = mI m a2 ((64 : Int32) + ((gI m a0 16) - (gI m a0 16) / (32 : Int32) * (32 : Int32))).toNatClampNeg (0 : Int32) → WW l G xM_writeOpen 20 [some (vR (some a0)), some (vI ((64 : Int32) + ((gI m a0 16) - (gI m a0 16) / (32 : Int32) * (32 : Int32)))), some (vI (0 : Int32))] [] m7 0 0 Q) :
    CC l G xM_writeOpen [vR (some a0)] m Q := by
  refine x_entry (by decide +kernel) rfl hst (Nat.le_of_ble_eq_true rfl) (L0 := [some (vR (some a0)), none, none]) rfl ?_
  refine x_bipush (v := 64) dM_writeOpen_0 (by decide) (n := 2) rfl ?_
  refine x_aload_n dM_writeOpen_2 rfl (n := 3) rfl ?_
  obtain ⟨k1, h⟩ := h
  refine x_getI rfl dM_writeOpen_3 fM_96 k1 (n := 6) rfl ?_
  refine x_bipush (v := 32) dM_writeOpen_6 (by decide) (n := 8) rfl ?_
  refine x_irem dM_writeOpen_8 (by decide) (n := 9) rfl ?_
  refine x_iadd dM_writeOpen_9 (n := 10) rfl ?_
  refine x_istore_n dM_writeOpen_10 (by decide) (L' := [some (vR (some a0)), some (vI ((64 : Int32) + ((gI m a0 16) - (gI m a0 16) / (32 : Int32) * (32 : Int32)))), none]) rfl (n := 11) rfl ?_
  refine x_aload_n dM_writeOpen_11 rfl (n := 12) rfl ?_
  refine x_getR rfl dM_writeOpen_12 fM_44 k1 (n := 15) rfl ?_
  refine x_iload_n dM_writeOpen_15 rfl (n := 16) rfl ?_
  refine x_iconst (v := 0) dM_writeOpen_16 (by decide) (n := 17) rfl ?_
  obtain ⟨a2, e3, h⟩ := h
  obtain ⟨n5, k4, h⟩ := h
  obtain ⟨c6, h⟩ := h
  replace h := h _ rfl
  refine x_iast e3 dM_writeOpen_17 k4 c6 (n := 18) rfl ?_
  refine x_iconst (v := 0) dM_writeOpen_18 (by decide) (n := 19) rfl ?_
  refine x_istore_n dM_writeOpen_19 (by decide) (L' := [some (vR (some a0)), some (vI ((64 : Int32) + ((gI m a0 16) - (gI m a0 16) / (32 : Int32) * (32 : Int32)))), some (vI (0 : Int32))]) rfl (n := 20) rfl ?_
  exact h
set_option maxRecDepth 100000 in
set_option maxHeartbeats 4000000 in
theorem bM_sortAgain_2 {l : Launch} {G : xG} {m : XM} {bc bs : Nat} {Q : XR → XM → Prop} {a0 : Nat} {x1 : Int32}
    (h : kd m a0 = some (oB 5) ∧ (((gI m a0 20) ≤ x1 → Q (.inl none) m) ∧ (¬ (gI m a0 20) ≤ x1 → WW l G xM_sortAgain 12 [some (vR (some a0)), some (vI x1), some (vI x1), none] [] m bc bs Q))) :
    WW l G xM_sortAgain 2 [some (vR (some a0)), some (vI x1), none, none] [] m bc bs Q := by
  refine x_iload_n dM_sortAgain_2 rfl (n := 3) rfl ?_
  refine x_aload_n dM_sortAgain_3 rfl (n := 4) rfl ?_
  obtain ⟨k1, h⟩ := h
  refine x_getI rfl dM_sortAgain_4 fM_86 k1 (n := 7) rfl ?_
  obtain ⟨h, h'⟩ := h
  refine x_icmp_ge (tgt := 85) dM_sortAgain_7 rfl (n := 10) rfl (fun c2 => ?_) (fun c2 => ?_)
  · replace h := h c2
    exact x_vret dM_sortAgain_85 rfl h
  · replace h := h' c2
    refine x_iload_n dM_sortAgain_10 rfl (n := 11) rfl ?_
    refine x_istore_n dM_sortAgain_11 (by decide) (L' := [some (vR (some a0)), some (vI x1), some (vI x1), none]) rfl (n := 12) rfl ?_
    exact h
set_option maxRecDepth 100000 in
set_option maxHeartbeats 4000000 in
theorem bM_sortAgain_12 {l : Launch} {G : xG} {m : XM} {bc bs : Nat} {Q : XR → XM → Prop} {a0 : Nat} {x1 : Int32} {x2 : Int32}
    (h : ((x2 ≤ 0 → WW l G xM_sortAgain 2 [some (vR (some a0)), some (vI (x1 + 1)), none, none] [] m bc bs Q) ∧ (¬ x2 ≤ 0 → kd m a0 = some (oB 5) ∧ ∃ a2, gR m a0 21 = some a2 ∧ ∃ n5, kd m a2 = some (aR 0 n5) ∧ vp_in x2 n5 ∧ ∃ a7, gR m a0 11 = some a7 ∧ ∃ n10, kd m a7 = some (aR 0 n10) ∧ vp_in (gI m a2 x2.toNatClampNeg) n10 ∧ vp_in (x2 - (1 : Int32)) n5 ∧ vp_in (gI m a2 (x2 - (1 : Int32)).toNatClampNeg) n10 ∧ (((gI m a7 (gI m a2 (x2 - (1 : Int32)).toNatClampNeg).toNatClampNeg) ≤ (gI m a7 (gI m a2 x2.toNatClampNeg).toNatClampNeg) → WW l G xM_sortAgain 2 [some (vR (some a0)), some (vI (x1 + 1)), none, none] [] m bc bs Q) ∧ (¬ (gI m a7 (gI m a2 (x2 - (1 : Int32)).toNatClampNeg).toNatClampNeg) ≤ (gI m a7 (gI m a2 x2.toNatClampNeg).toNatClampNeg) → vp_in x2 n5 ∧ vp_in (x2 - (1 : Int32)) n5 ∧ vp_in x2 n5 ∧ ∀ m17, m17 = mI m a2 x2.toNatClampNeg (gI m a2 (x2 - (1 : Int32)).toNatClampNeg) → vp_in (x2 - (1 : Int32)) n5 ∧ ∀ m19, m19 = mI m17 a2 (x2 - (1 : Int32)).toNatClampNeg (gI m a2 x2.toNatClampNeg) → WW l G xM_sortAgain 12 [some (vR (some a0)), some (vI x1), some (vI (x2 + (-1))), none] [] m19 bc bs Q))))) :
    WW l G xM_sortAgain 12 [some (vR (some a0)), some (vI x1), some (vI x2), none] [] m bc bs Q := by
  refine x_iload_n dM_sortAgain_12 rfl (n := 13) rfl ?_
  obtain ⟨h, h'⟩ := h
  refine x_if_le (tgt := 79) dM_sortAgain_13 rfl (n := 16) rfl (fun c21 => ?_) (fun c21 => ?_)
  · replace h := h c21
    refine x_iinc (v := x1 + 1) dM_sortAgain_79 rfl rfl (by decide) (L' := [some (vR (some a0)), some (vI (x1 + 1)), some (vI x2), none]) rfl (n := 82) rfl ?_
    refine x_goto (tgt := 2) dM_sortAgain_82 rfl ?_
    exact x_weak (b := [true, true, false, false]) rfl h
  · replace h := h' c21
    refine x_aload_n dM_sortAgain_16 rfl (n := 17) rfl ?_
    obtain ⟨k1, h⟩ := h
    refine x_getR rfl dM_sortAgain_17 fM_38 k1 (n := 20) rfl ?_
    refine x_aload_n dM_sortAgain_20 rfl (n := 21) rfl ?_
    refine x_getR rfl dM_sortAgain_21 fM_56 k1 (n := 24) rfl ?_
    refine x_iload_n dM_sortAgain_24 rfl (n := 25) rfl ?_
    obtain ⟨a2, e3, h⟩ := h
    obtain ⟨n5, k4, h⟩ := h
    obtain ⟨c6, h⟩ := h
    refine x_iald e3 dM_sortAgain_25 k4 c6 (n := 26) rfl ?_
    obtain ⟨a7, e8, h⟩ := h
    obtain ⟨n10, k9, h⟩ := h
    obtain ⟨c11, h⟩ := h
    refine x_iald e8 dM_sortAgain_26 k9 c11 (n := 27) rfl ?_
    refine x_aload_n dM_sortAgain_27 rfl (n := 28) rfl ?_
    refine x_getR rfl dM_sortAgain_28 fM_38 k1 (n := 31) rfl ?_
    refine x_aload_n dM_sortAgain_31 rfl (n := 32) rfl ?_
    refine x_getR rfl dM_sortAgain_32 fM_56 k1 (n := 35) rfl ?_
    refine x_iload_n dM_sortAgain_35 rfl (n := 36) rfl ?_
    refine x_iconst (v := 1) dM_sortAgain_36 (by decide) (n := 37) rfl ?_
    refine x_isub dM_sortAgain_37 (n := 38) rfl ?_
    obtain ⟨c12, h⟩ := h
    refine x_iald e3 dM_sortAgain_38 k4 c12 (n := 39) rfl ?_
    obtain ⟨c13, h⟩ := h
    refine x_iald e8 dM_sortAgain_39 k9 c13 (n := 40) rfl ?_
    obtain ⟨h, h'⟩ := h
    refine x_icmp_ge (tgt := 79) dM_sortAgain_40 rfl (n := 43) rfl (fun c20 => ?_) (fun c20 => ?_)
    · replace h := h c20
      refine x_iinc (v := x1 + 1) dM_sortAgain_79 rfl rfl (by decide) (L' := [some (vR (some a0)), some (vI (x1 + 1)), some (vI x2), none]) rfl (n := 82) rfl ?_
      refine x_goto (tgt := 2) dM_sortAgain_82 rfl ?_
      exact x_weak (b := [true, true, false, false]) rfl h
    · replace h := h' c20
      refine x_aload_n dM_sortAgain_43 rfl (n := 44) rfl ?_
      refine x_getR rfl dM_sortAgain_44 fM_56 k1 (n := 47) rfl ?_
      refine x_iload_n dM_sortAgain_47 rfl (n := 48) rfl ?_
      obtain ⟨c14, h⟩ := h
      refine x_iald e3 dM_sortAgain_48 k4 c14 (n := 49) rfl ?_
      refine x_istore_n dM_sortAgain_49 (by decide) (L' := [some (vR (some a0)), some (vI x1), some (vI x2), some (vI (gI m a2 x2.toNatClampNeg))]) rfl (n := 50) rfl ?_
      refine x_aload_n dM_sortAgain_50 rfl (n := 51) rfl ?_
      refine x_getR rfl dM_sortAgain_51 fM_56 k1 (n := 54) rfl ?_
      refine x_iload_n dM_sortAgain_54 rfl (n := 55) rfl ?_
      refine x_aload_n dM_sortAgain_55 rfl (n := 56) rfl ?_
      refine x_getR rfl dM_sortAgain_56 fM_56 k1 (n := 59) rfl ?_
      refine x_iload_n dM_sortAgain_59 rfl (n := 60) rfl ?_
      refine x_iconst (v := 1) dM_sortAgain_60 (by decide) (n := 61) rfl ?_
      refine x_isub dM_sortAgain_61 (n := 62) rfl ?_
      obtain ⟨c15, h⟩ := h
      refine x_iald e3 dM_sortAgain_62 k4 c15 (n := 63) rfl ?_
      obtain ⟨c16, h⟩ := h
      replace h := h _ rfl
      refine x_iast e3 dM_sortAgain_63 k4 c16 (n := 64) rfl ?_
      refine x_aload_n dM_sortAgain_64 rfl (n := 65) rfl ?_
      refine x_getR rfl dM_sortAgain_65 fM_56 k1 (n := 68) rfl ?_
      refine x_iload_n dM_sortAgain_68 rfl (n := 69) rfl ?_
      refine x_iconst (v := 1) dM_sortAgain_69 (by decide) (n := 70) rfl ?_
      refine x_isub dM_sortAgain_70 (n := 71) rfl ?_
      refine x_iload_n dM_sortAgain_71 rfl (n := 72) rfl ?_
      obtain ⟨c18, h⟩ := h
      replace h := h _ rfl
      refine x_iast e3 dM_sortAgain_72 k4 c18 (n := 73) rfl ?_
      refine x_iinc (v := x2 + (-1)) dM_sortAgain_73 rfl rfl (by decide) (L' := [some (vR (some a0)), some (vI x1), some (vI (x2 + (-1))), some (vI (gI m a2 x2.toNatClampNeg))]) rfl (n := 76) rfl ?_
      refine x_goto (tgt := 12) dM_sortAgain_76 rfl ?_
      exact x_weak (b := [true, true, true, false]) rfl h
set_option maxRecDepth 100000 in
set_option maxHeartbeats 4000000 in
theorem bM_sortAgain {l : Launch} {G : xG} {m : XM} {Q : XR → XM → Prop} {a0 : Nat} (hst : l.stackTraces = false)
    (h : WW l G xM_sortAgain 2 [some (vR (some a0)), some (vI (1 : Int32)), none, none] [] m 0 0 Q) :
    CC l G xM_sortAgain [vR (some a0)] m Q := by
  refine x_entry (by decide +kernel) rfl hst (Nat.le_of_ble_eq_true rfl) (L0 := [some (vR (some a0)), none, none, none]) rfl ?_
  refine x_iconst (v := 1) dM_sortAgain_0 (by decide) (n := 1) rfl ?_
  refine x_istore_n dM_sortAgain_1 (by decide) (L' := [some (vR (some a0)), some (vI (1 : Int32)), none, none]) rfl (n := 2) rfl ?_
  exact h
set_option maxRecDepth 100000 in
set_option maxHeartbeats 4000000 in
theorem bM_putAnew_21 {l : Launch} {G : xG} {m : XM} {bc bs : Nat} {Q : XR → XM → Prop} {a0 : Nat} {x1 : Int32}
    (h : kd m a0 = some (oB 5) ∧ CC l G xM_enter [vR (some a0), vI x1] m (kV (fun m2 => kd m2 a0 = some (oB 5) ∧ ∃ a4, gR m2 a0 23 = some a4 ∧ ∃ n7, kd m2 a4 = some (aR 0 n7) ∧ vp_in (10 : Int32) n7 ∧ vp_in (10 : Int32) n7 ∧ ∀ m10, m10 = mI m2 a4 (10 : Int32).toNatClampNeg ((gI m2 a4 (10 : Int32).toNatClampNeg) + (1 : Int32)) → Q (.inl none) m10) Q)) :
    WW l G xM_putAnew 21 [some (vR (some a0)), some (vI x1)] [] m bc bs Q := by
  refine x_aload_n dM_putAnew_21 rfl (n := 22) rfl ?_
  refine x_iload_n dM_putAnew_22 rfl (n := 23) rfl ?_
  obtain ⟨k1, h⟩ := h
  refine x_invV (m := m) rfl dM_putAnew_23 gM_putAnew_23 (as := [vI x1]) (st := []) rfl rfl k1 rfl rfl (Nat.le_of_ble_eq_true rfl) (n := 26) rfl rfl rfl h (xBk.V fun m2 h => ?_)
  refine x_aload_n dM_putAnew_26 rfl (n := 27) rfl ?_
  obtain ⟨k3, h⟩ := h
  refine x_getR rfl dM_putAnew_27 fM_62 k3 (n := 30) rfl ?_
  refine x_bipush (v := 10) dM_putAnew_30 (by decide) (n := 32) rfl ?_
  refine x_dup2 dM_putAnew_32 rfl rfl (n := 33) rfl ?_
  obtain ⟨a4, e5, h⟩ := h
  obtain ⟨n7, k6, h⟩ := h
  obtain ⟨c8, h⟩ := h
  refine x_iald e5 dM_putAnew_33 k6 c8 (n := 34) rfl ?_
  refine x_iconst (v := 1) dM_putAnew_34 (by decide) (n := 35) rfl ?_
  refine x_iadd dM_putAnew_35 (n := 36) rfl ?_
  obtain ⟨c9, h⟩ := h
  replace h := h _ rfl
  refine x_iast e5 dM_putAnew_36 k6 c9 (n := 37) rfl ?_
  exact x_vret dM_putAnew_37 rfl h
set_option maxRecDepth 100000 in
set_option maxHeartbeats 4000000 in
theorem bM_putAnew {l : Launch} {G : xG} {m : XM} {Q : XR → XM → Prop} {a0 : Nat} {x1 : Int32} (hst : l.stackTraces = false)
    (h : kd m a0 = some (oB 5) ∧ CC l G xM_wordsOf [vR (some a0), vI (96 : Int32)] m (kI (fun v3 m2 => kd m2 a0 = some (oB 5) ∧ CC l G xM_need [vR (some a0), vI x1] m2 (kI (fun v6 m5 => (((v3 + v6) ≤ (32 : Int32) → WW l G xM_putAnew 21 [some (vR (some a0)), some (vI x1)] [] m5 0 0 Q) ∧ (¬ (v3 + v6) ≤ (32 : Int32) → kd m5 a0 = some (oB 5) ∧ CC l G xM_writeOpen [vR (some a0)] m5 (kV (fun m8 => WW l G xM_putAnew 21 [some (vR (some a0)), some (vI x1)] [] m8 0 0 Q) Q)))) Q)) Q)) :
    CC l G xM_putAnew [vR (some a0), vI x1] m Q := by
  refine x_entry (by decide +kernel) rfl hst (Nat.le_of_ble_eq_true rfl) (L0 := [some (vR (some a0)), some (vI x1)]) rfl ?_
  refine x_aload_n dM_putAnew_0 rfl (n := 1) rfl ?_
  refine x_bipush (v := 96) dM_putAnew_1 (by decide) (n := 3) rfl ?_
  obtain ⟨k1, h⟩ := h
  refine x_invV (m := m) rfl dM_putAnew_3 gM_putAnew_3 (as := [vI (96 : Int32)]) (st := []) rfl rfl k1 rfl rfl (Nat.le_of_ble_eq_true rfl) (n := 6) rfl rfl rfl h (xBk.I fun v3 m2 h => ?_)
  refine x_aload_n dM_putAnew_6 rfl (n := 7) rfl ?_
  refine x_iload_n dM_putAnew_7 rfl (n := 8) rfl ?_
  obtain ⟨k4, h⟩ := h
  refine x_invV (m := m2) rfl dM_putAnew_8 gM_putAnew_8 (as := [vI x1]) (st := [vI v3]) rfl rfl k4 rfl rfl (Nat.le_of_ble_eq_true rfl) (n := 11) rfl rfl rfl h (xBk.I fun v6 m5 h => ?_)
  refine x_iadd dM_putAnew_11 (n := 12) rfl ?_
  refine x_bipush (v := 32) dM_putAnew_12 (by decide) (n := 14) rfl ?_
  obtain ⟨h, h'⟩ := h
  refine x_icmp_le (tgt := 21) dM_putAnew_14 rfl (n := 17) rfl (fun c9 => ?_) (fun c9 => ?_)
  · replace h := h c9
    exact h
  · replace h := h' c9
    refine x_aload_n dM_putAnew_17 rfl (n := 18) rfl ?_
    obtain ⟨k7, h⟩ := h
    refine x_invV (m := m5) rfl dM_putAnew_18 gM_putAnew_18 (as := []) (st := []) rfl rfl k7 rfl rfl (Nat.le_of_ble_eq_true rfl) (n := 21) rfl rfl rfl h (xBk.V fun m8 h => ?_)
    exact h
set_option maxRecDepth 100000 in
set_option maxHeartbeats 4000000 in
theorem bM_enter_22 {l : Launch} {G : xG} {m : XM} {bc bs : Nat} {Q : XR → XM → Prop} {a0 : Nat} {x1 : Int32} {x2 : Int32}
    (h : kd m a0 = some (oB 5) ∧ CC l G xM_append [vR (some a0), vI (96 : Int32), vI x1] m (kV (fun m2 => kd m2 a0 = some (oB 5) ∧ ∃ a4, gR m2 a0 9 = some a4 ∧ ∃ n7, kd m2 a4 = some (aR 1 n7) ∧ vp_in x1 n7 ∧ ∀ m9, m9 = mI m2 a4 x1.toNatClampNeg (1 : Int32) → ∃ a10, gR m2 a0 10 = some a10 ∧ ∃ n13, kd m2 a10 = some (aR 1 n13) ∧ vp_in x1 n13 ∧ ∀ m15, m15 = mI m9 a10 x1.toNatClampNeg (0 : Int32) → ∀ m16, m16 = mI m15 a0 13 ((gI m15 a0 13) + (1 : Int32)) → ∃ a17, gR m2 a0 11 = some a17 ∧ ∃ n20, kd m2 a17 = some (aR 0 n20) ∧ vp_in x1 n20 ∧ ∀ m22, m22 = mI m16 a17 x1.toNatClampNeg (gI m16 a0 13) → Q (.inl none) m22) Q)) :
    WW l G xM_enter 22 [some (vR (some a0)), some (vI x1), some (vI x2)] [] m bc bs Q := by
  refine x_aload_n dM_enter_22 rfl (n := 23) rfl ?_
  refine x_bipush (v := 96) dM_enter_23 (by decide) (n := 25) rfl ?_
  refine x_iload_n dM_enter_25 rfl (n := 26) rfl ?_
  obtain ⟨k1, h⟩ := h
  refine x_invV (m := m) rfl dM_enter_26 gM_enter_26 (as := [vI (96 : Int32), vI x1]) (st := []) rfl rfl k1 rfl rfl (Nat.le_of_ble_eq_true rfl) (n := 29) rfl rfl rfl h (xBk.V fun m2 h => ?_)
  refine x_aload_n dM_enter_29 rfl (n := 30) rfl ?_
  obtain ⟨k3, h⟩ := h
  refine x_getR rfl dM_enter_30 fM_31 k3 (n := 33) rfl ?_
  refine x_iload_n dM_enter_33 rfl (n := 34) rfl ?_
  refine x_iconst (v := 1) dM_enter_34 (by decide) (n := 35) rfl ?_
  obtain ⟨a4, e5, h⟩ := h
  obtain ⟨n7, k6, h⟩ := h
  obtain ⟨c8, h⟩ := h
  replace h := h _ rfl
  refine x_zast e5 dM_enter_35 k6 c8 (by decide) (n := 36) rfl ?_
  refine x_aload_n dM_enter_36 rfl (n := 37) rfl ?_
  refine x_getR rfl dM_enter_37 fM_35 k3 (n := 40) rfl ?_
  refine x_iload_n dM_enter_40 rfl (n := 41) rfl ?_
  refine x_iconst (v := 0) dM_enter_41 (by decide) (n := 42) rfl ?_
  obtain ⟨a10, e11, h⟩ := h
  obtain ⟨n13, k12, h⟩ := h
  obtain ⟨c14, h⟩ := h
  replace h := h _ rfl
  refine x_zast e11 dM_enter_42 k12 c14 (by decide) (n := 43) rfl ?_
  refine x_aload_n dM_enter_43 rfl (n := 44) rfl ?_
  refine x_dup dM_enter_44 rfl (n := 45) rfl ?_
  refine x_getI rfl dM_enter_45 fM_106 k3 (n := 48) rfl ?_
  refine x_iconst (v := 1) dM_enter_48 (by decide) (n := 49) rfl ?_
  refine x_iadd dM_enter_49 (n := 50) rfl ?_
  replace h := h _ rfl
  refine x_putI rfl dM_enter_50 pM_106 k3 rfl rfl (n := 53) rfl ?_
  refine x_aload_n dM_enter_53 rfl (n := 54) rfl ?_
  refine x_getR rfl dM_enter_54 fM_38 k3 (n := 57) rfl ?_
  refine x_iload_n dM_enter_57 rfl (n := 58) rfl ?_
  refine x_aload_n dM_enter_58 rfl (n := 59) rfl ?_
  refine x_getI rfl dM_enter_59 fM_106 k3 (n := 62) rfl ?_
  obtain ⟨a17, e18, h⟩ := h
  obtain ⟨n20, k19, h⟩ := h
  obtain ⟨c21, h⟩ := h
  replace h := h _ rfl
  refine x_iast e18 dM_enter_62 k19 c21 (n := 63) rfl ?_
  exact x_vret dM_enter_63 rfl h
set_option maxRecDepth 100000 in
set_option maxHeartbeats 4000000 in
theorem bM_enter {l : Launch} {G : xG} {m : XM} {Q : XR → XM → Prop} {a0 : Nat} {x1 : Int32} (hst : l.stackTraces = false)
    (h : kd m a0 = some (oB 5) ∧ ∃ a2, gR m a0 6 = some a2 ∧ ∃ n5, kd m a2 = some (aR 2 n5) ∧ vp_in x1 n5 ∧ CC l G xM_newest [vR (some a0), vL (gL m a2 x1.toNatClampNeg)] m (kI (fun v8 m7 => ((v8 < 0 → WW l G xM_enter 22 [some (vR (some a0)), some (vI x1), some (vI v8)] [] m7 0 0 Q) ∧ (¬ v8 < 0 → kd m7 a0 = some (oB 5) ∧ ∃ a10, gR m7 a0 9 = some a10 ∧ ∃ n13, kd m7 a10 = some (aR 1 n13) ∧ vp_in v8 n13 ∧ ∀ m15, m15 = mI m7 a10 v8.toNatClampNeg (0 : Int32) → WW l G xM_enter 22 [some (vR (some a0)), some (vI x1), some (vI v8)] [] m15 0 0 Q))) Q)) :
    CC l G xM_enter [vR (some a0), vI x1] m Q := by
  refine x_entry (by decide +kernel) rfl hst (Nat.le_of_ble_eq_true rfl) (L0 := [some (vR (some a0)), some (vI x1), none]) rfl ?_
  refine x_aload_n dM_enter_0 rfl (n := 1) rfl ?_
  refine x_aload_n dM_enter_1 rfl (n := 2) rfl ?_
  obtain ⟨k1, h⟩ := h
  refine x_getR rfl dM_enter_2 fM_20 k1 (n := 5) rfl ?_
  refine x_iload_n dM_enter_5 rfl (n := 6) rfl ?_
  obtain ⟨a2, e3, h⟩ := h
  obtain ⟨n5, k4, h⟩ := h
  obtain ⟨c6, h⟩ := h
  refine x_lald e3 dM_enter_6 k4 c6 (n := 7) rfl ?_
  refine x_invV (m := m) rfl dM_enter_7 gM_enter_7 (as := [vL (gL m a2 x1.toNatClampNeg)]) (st := []) rfl rfl k1 rfl rfl (Nat.le_of_ble_eq_true rfl) (n := 10) rfl rfl rfl h (xBk.I fun v8 m7 h => ?_)
  refine x_istore_n dM_enter_10 (by decide) (L' := [some (vR (some a0)), some (vI x1), some (vI v8)]) rfl (n := 11) rfl ?_
  refine x_iload_n dM_enter_11 rfl (n := 12) rfl ?_
  obtain ⟨h, h'⟩ := h
  refine x_if_lt (tgt := 22) dM_enter_12 rfl (n := 15) rfl (fun c16 => ?_) (fun c16 => ?_)
  · replace h := h c16
    exact h
  · replace h := h' c16
    refine x_aload_n dM_enter_15 rfl (n := 16) rfl ?_
    obtain ⟨k9, h⟩ := h
    refine x_getR rfl dM_enter_16 fM_31 k9 (n := 19) rfl ?_
    refine x_iload_n dM_enter_19 rfl (n := 20) rfl ?_
    refine x_iconst (v := 0) dM_enter_20 (by decide) (n := 21) rfl ?_
    obtain ⟨a10, e11, h⟩ := h
    obtain ⟨n13, k12, h⟩ := h
    obtain ⟨c14, h⟩ := h
    replace h := h _ rfl
    refine x_zast e11 dM_enter_21 k12 c14 (by decide) (n := 22) rfl ?_
    exact h
set_option maxRecDepth 100000 in
set_option maxHeartbeats 4000000 in
theorem bM_newest_6 {l : Launch} {G : xG} {m : XM} {bc bs : Nat} {Q : XR → XM → Prop} {a0 : Nat} {x1 : Int64} {x3 : Int32} {x4 : Int32}
    (h : (((97 : Int32) ≤ x4 → Q (.inl (some (vI x3))) m) ∧ (¬ (97 : Int32) ≤ x4 → WW l G xM_newest 16 [some (vR (some a0)), some (vL x1), none, some (vI x3), some (vI x4), some (vI (0 : Int32))] [] m bc bs Q))) :
    WW l G xM_newest 6 [some (vR (some a0)), some (vL x1), none, some (vI x3), some (vI x4), none] [] m bc bs Q := by
  refine x_iload dM_newest_6 rfl (n := 8) rfl ?_
  refine x_bipush (v := 97) dM_newest_8 (by decide) (n := 10) rfl ?_
  obtain ⟨h, h'⟩ := h
  refine x_icmp_ge (tgt := 98) dM_newest_10 rfl (n := 13) rfl (fun c1 => ?_) (fun c1 => ?_)
  · replace h := h c1
    refine x_iload_n dM_newest_98 rfl (n := 99) rfl ?_
    exact x_iret dM_newest_99 rfl h
  · replace h := h' c1
    refine x_iconst (v := 0) dM_newest_13 (by decide) (n := 14) rfl ?_
    refine x_istore dM_newest_14 (by decide) (L' := [some (vR (some a0)), some (vL x1), none, some (vI x3), some (vI x4), some (vI (0 : Int32))]) rfl (n := 16) rfl ?_
    exact h
set_option maxRecDepth 100000 in
set_option maxHeartbeats 4000000 in
theorem bM_newest_16 {l : Launch} {G : xG} {m : XM} {bc bs : Nat} {Q : XR → XM → Prop} {a0 : Nat} {x1 : Int64} {x3 : Int32} {x4 : Int32} {x5 : Int32}
    (h : kd m a0 = some (oB 5) ∧ ∃ a2, gR m a0 14 = some a2 ∧ ∃ n5, kd m a2 = some (aR 0 n5) ∧ vp_in x4 n5 ∧ (((gI m a2 x4.toNatClampNeg) ≤ x5 → WW l G xM_newest 6 [some (vR (some a0)), some (vL x1), none, some (vI x3), some (vI (x4 + 1)), none] [] m bc bs Q) ∧ (¬ (gI m a2 x4.toNatClampNeg) ≤ x5 → ∃ a7, gR m a0 15 = some a7 ∧ ∃ n10, kd m a7 = some (aR 0 n10) ∧ vp_in (((8 : Int32) * x4) + x5) n10 ∧ ∃ a12, gR m a0 9 = some a12 ∧ ∃ n15, kd m a12 = some (aR 1 n15) ∧ vp_in (gI m a7 (((8 : Int32) * x4) + x5).toNatClampNeg) n15 ∧ (((gI m a12 (gI m a7 (((8 : Int32) * x4) + x5).toNatClampNeg).toNatClampNeg) = 0 → WW l G xM_newest 16 [some (vR (some a0)), some (vL x1), none, some (vI x3), some (vI x4), some (vI (x5 + 1))] [] m bc bs Q) ∧ (¬ (gI m a12 (gI m a7 (((8 : Int32) * x4) + x5).toNatClampNeg).toNatClampNeg) = 0 → vp_in (((8 : Int32) * x4) + x5) n10 ∧ ∃ a18, gR m a0 6 = some a18 ∧ ∃ n21, kd m a18 = some (aR 2 n21) ∧ vp_in (gI m a7 (((8 : Int32) * x4) + x5).toNatClampNeg) n21 ∧ ((¬ (lg_cmp (gL m a18 (gI m a7 (((8 : Int32) * x4) + x5).toNatClampNeg).toNatClampNeg) x1) = 0 → WW l G xM_newest 16 [some (vR (some a0)), some (vL x1), none, some (vI x3), some (vI x4), some (vI (x5 + 1))] [] m bc bs Q) ∧ ((lg_cmp (gL m a18 (gI m a7 (((8 : Int32) * x4) + x5).toNatClampNeg).toNatClampNeg) x1) = 0 → vp_in (((8 : Int32) * x4) + x5) n10 ∧ WW l G xM_newest 16 [some (vR (some a0)), some (vL x1), none, some (vI (gI m a7 (((8 : Int32) * x4) + x5).toNatClampNeg)), some (vI x4), some (vI (x5 + 1))] [] m bc bs Q))))))) :
    WW l G xM_newest 16 [some (vR (some a0)), some (vL x1), none, some (vI x3), some (vI x4), some (vI x5)] [] m bc bs Q := by
  refine x_iload dM_newest_16 rfl (n := 18) rfl ?_
  refine x_aload_n dM_newest_18 rfl (n := 19) rfl ?_
  obtain ⟨k1, h⟩ := h
  refine x_getR rfl dM_newest_19 fM_44 k1 (n := 22) rfl ?_
  refine x_iload dM_newest_22 rfl (n := 24) rfl ?_
  obtain ⟨a2, e3, h⟩ := h
  obtain ⟨n5, k4, h⟩ := h
  obtain ⟨c6, h⟩ := h
  refine x_iald e3 dM_newest_24 k4 c6 (n := 25) rfl ?_
  obtain ⟨h, h'⟩ := h
  refine x_icmp_ge (tgt := 92) dM_newest_25 rfl (n := 28) rfl (fun c26 => ?_) (fun c26 => ?_)
  · replace h := h c26
    refine x_iinc (v := x4 + 1) dM_newest_92 rfl rfl (by decide) (L' := [some (vR (some a0)), some (vL x1), none, some (vI x3), some (vI (x4 + 1)), some (vI x5)]) rfl (n := 95) rfl ?_
    refine x_goto (tgt := 6) dM_newest_95 rfl ?_
    exact x_weak (b := [true, true, false, true, true, false]) rfl h
  · replace h := h' c26
    refine x_aload_n dM_newest_28 rfl (n := 29) rfl ?_
    refine x_getR rfl dM_newest_29 fM_31 k1 (n := 32) rfl ?_
    refine x_aload_n dM_newest_32 rfl (n := 33) rfl ?_
    refine x_getR rfl dM_newest_33 fM_47 k1 (n := 36) rfl ?_
    refine x_bipush (v := 8) dM_newest_36 (by decide) (n := 38) rfl ?_
    refine x_iload dM_newest_38 rfl (n := 40) rfl ?_
    refine x_imul dM_newest_40 (n := 41) rfl ?_
    refine x_iload dM_newest_41 rfl (n := 43) rfl ?_
    refine x_iadd dM_newest_43 (n := 44) rfl ?_
    obtain ⟨a7, e8, h⟩ := h
    obtain ⟨n10, k9, h⟩ := h
    obtain ⟨c11, h⟩ := h
    refine x_iald e8 dM_newest_44 k9 c11 (n := 45) rfl ?_
    obtain ⟨a12, e13, h⟩ := h
    obtain ⟨n15, k14, h⟩ := h
    obtain ⟨c16, h⟩ := h
    refine x_zald e13 dM_newest_45 k14 c16 (n := 46) rfl ?_
    obtain ⟨h, h'⟩ := h
    refine x_if_eq (tgt := 86) dM_newest_46 rfl (n := 49) rfl (fun c25 => ?_) (fun c25 => ?_)
    · replace h := h c25
      refine x_iinc (v := x5 + 1) dM_newest_86 rfl rfl (by decide) (L' := [some (vR (some a0)), some (vL x1), none, some (vI x3), some (vI x4), some (vI (x5 + 1))]) rfl (n := 89) rfl ?_
      refine x_goto (tgt := 16) dM_newest_89 rfl ?_
      exact h
    · replace h := h' c25
      refine x_aload_n dM_newest_49 rfl (n := 50) rfl ?_
      refine x_getR rfl dM_newest_50 fM_20 k1 (n := 53) rfl ?_
      refine x_aload_n dM_newest_53 rfl (n := 54) rfl ?_
      refine x_getR rfl dM_newest_54 fM_47 k1 (n := 57) rfl ?_
      refine x_bipush (v := 8) dM_newest_57 (by decide) (n := 59) rfl ?_
      refine x_iload dM_newest_59 rfl (n := 61) rfl ?_
      refine x_imul dM_newest_61 (n := 62) rfl ?_
      refine x_iload dM_newest_62 rfl (n := 64) rfl ?_
      refine x_iadd dM_newest_64 (n := 65) rfl ?_
      obtain ⟨c17, h⟩ := h
      refine x_iald e8 dM_newest_65 k9 c17 (n := 66) rfl ?_
      obtain ⟨a18, e19, h⟩ := h
      obtain ⟨n21, k20, h⟩ := h
      obtain ⟨c22, h⟩ := h
      refine x_lald e19 dM_newest_66 k20 c22 (n := 67) rfl ?_
      refine x_lload_n dM_newest_67 rfl (n := 68) rfl ?_
      refine x_lcmp dM_newest_68 (n := 69) rfl ?_
      obtain ⟨h, h'⟩ := h
      refine x_if_ne (tgt := 86) dM_newest_69 rfl (n := 72) rfl (fun c24 => ?_) (fun c24 => ?_)
      · replace h := h c24
        refine x_iinc (v := x5 + 1) dM_newest_86 rfl rfl (by decide) (L' := [some (vR (some a0)), some (vL x1), none, some (vI x3), some (vI x4), some (vI (x5 + 1))]) rfl (n := 89) rfl ?_
        refine x_goto (tgt := 16) dM_newest_89 rfl ?_
        exact h
      · replace h := h' c24
        refine x_aload_n dM_newest_72 rfl (n := 73) rfl ?_
        refine x_getR rfl dM_newest_73 fM_47 k1 (n := 76) rfl ?_
        refine x_bipush (v := 8) dM_newest_76 (by decide) (n := 78) rfl ?_
        refine x_iload dM_newest_78 rfl (n := 80) rfl ?_
        refine x_imul dM_newest_80 (n := 81) rfl ?_
        refine x_iload dM_newest_81 rfl (n := 83) rfl ?_
        refine x_iadd dM_newest_83 (n := 84) rfl ?_
        obtain ⟨c23, h⟩ := h
        refine x_iald e8 dM_newest_84 k9 c23 (n := 85) rfl ?_
        refine x_istore_n dM_newest_85 (by decide) (L' := [some (vR (some a0)), some (vL x1), none, some (vI (gI m a7 (((8 : Int32) * x4) + x5).toNatClampNeg)), some (vI x4), some (vI x5)]) rfl (n := 86) rfl ?_
        refine x_iinc (v := x5 + 1) dM_newest_86 rfl rfl (by decide) (L' := [some (vR (some a0)), some (vL x1), none, some (vI (gI m a7 (((8 : Int32) * x4) + x5).toNatClampNeg)), some (vI x4), some (vI (x5 + 1))]) rfl (n := 89) rfl ?_
        refine x_goto (tgt := 16) dM_newest_89 rfl ?_
        exact h
set_option maxRecDepth 100000 in
set_option maxHeartbeats 4000000 in
theorem bM_newest {l : Launch} {G : xG} {m : XM} {Q : XR → XM → Prop} {a0 : Nat} {x1 : Int64} (hst : l.stackTraces = false)
    (h : WW l G xM_newest 6 [some (vR (some a0)), some (vL x1), none, some (vI (-1 : Int32)), some (vI (64 : Int32)), none] [] m 0 0 Q) :
    CC l G xM_newest [vR (some a0), vL x1] m Q := by
  refine x_entry (by decide +kernel) rfl hst (Nat.le_of_ble_eq_true rfl) (L0 := [some (vR (some a0)), some (vL x1), none, none, none, none]) rfl ?_
  refine x_iconst (v := -1) dM_newest_0 (by decide) (n := 1) rfl ?_
  refine x_istore_n dM_newest_1 (by decide) (L' := [some (vR (some a0)), some (vL x1), none, some (vI (-1 : Int32)), none, none]) rfl (n := 2) rfl ?_
  refine x_bipush (v := 64) dM_newest_2 (by decide) (n := 4) rfl ?_
  refine x_istore dM_newest_4 (by decide) (L' := [some (vR (some a0)), some (vL x1), none, some (vI (-1 : Int32)), some (vI (64 : Int32)), none]) rfl (n := 6) rfl ?_
  exact h
set_option maxRecDepth 100000 in
set_option maxHeartbeats 4000000 in
theorem bM_get {l : Launch} {G : xG} {m : XM} {Q : XR → XM → Prop} {a0 : Nat} {x1 : Int64} (hst : l.stackTraces = false)
    (h : kd m a0 = some (oB 5) ∧ CC l G xM_works [vR (some a0)] m (kI (fun v3 m2 => ((¬ v3 = 0 → kd m2 a0 = some (oB 5) ∧ CC l G xM_newest [vR (some a0), vL x1] m2 (kI (fun v6 m5 => ((v6 < 0 → kd m5 a0 = some (oB 5) ∧ CC l G xM_reads [vR (some a0), vL x1] m5 (kI (fun v9 m8 => ((v9 = 0 → ((0 ≤ (-1 : Int32) → kd m8 a0 = some (oB 5) ∧ CC l G xM_setOfKey [vL x1] m8 (kI (fun v12 m11 => ∃ a13, gR m8 a0 15 = some a13 ∧ ∃ n16, kd m11 a13 = some (aR 0 n16) ∧ vp_in (((8 : Int32) * v12) + (-1 : Int32)) n16 ∧ (((gI m11 a13 (((8 : Int32) * v12) + (-1 : Int32)).toNatClampNeg) < 0 → kd m11 a0 = some (oB 5) ∧ CC l G xM_tell [vR (some a0), vI (gI m11 a13 (((8 : Int32) * v12) + (-1 : Int32)).toNatClampNeg)] m11 (kV (fun m19 => kd m19 a0 = some (oB 5) ∧ Q (.inl (some (vI (gI m19 a0 3)))) m19) Q)) ∧ (¬ (gI m11 a13 (((8 : Int32) * v12) + (-1 : Int32)).toNatClampNeg) < 0 → kd m11 a0 = some (oB 5) ∧ ∃ a22, gR m11 a0 12 = some a22 ∧ ∃ n25, kd m11 a22 = some (aR 1 n25) ∧ vp_in (gI m11 a13 (((8 : Int32) * v12) + (-1 : Int32)).toNatClampNeg) n25 ∧ ∀ m27, m27 = mI m11 a22 (gI m11 a13 (((8 : Int32) * v12) + (-1 : Int32)).toNatClampNeg).toNatClampNeg (1 : Int32) → CC l G xM_tell [vR (some a0), vI (gI m11 a13 (((8 : Int32) * v12) + (-1 : Int32)).toNatClampNeg)] m27 (kV (fun m28 => kd m28 a0 = some (oB 5) ∧ Q (.inl (some (vI (gI m28 a0 3)))) m28) Q)))) Q)) ∧ (¬ 0 ≤ (-1 : Int32) → (((-1 : Int32) < 0 → kd m8 a0 = some (oB 5) ∧ CC l G xM_tell [vR (some a0), vI (-1 : Int32)] m8 (kV (fun m32 => kd m32 a0 = some (oB 5) ∧ Q (.inl (some (vI (gI m32 a0 3)))) m32) Q)) ∧ (¬ (-1 : Int32) < 0 → kd m8 a0 = some (oB 5) ∧ ∃ a35, gR m8 a0 12 = some a35 ∧ ∃ n38, kd m8 a35 = some (aR 1 n38) ∧ vp_in (-1 : Int32) n38 ∧ ∀ m40, m40 = mI m8 a35 (-1 : Int32).toNatClampNeg (1 : Int32) → CC l G xM_tell [vR (some a0), vI (-1 : Int32)] m40 (kV (fun m41 => kd m41 a0 = some (oB 5) ∧ Q (.inl (some (vI (gI m41 a0 3)))) m41) Q)))))) ∧ (¬ v9 = 0 → kd m8 a0 = some (oB 5) ∧ CC l G xM_inSet [vR (some a0), vL x1] m8 (kI (fun v47 m46 => ((0 ≤ v47 → kd m46 a0 = some (oB 5) ∧ CC l G xM_setOfKey [vL x1] m46 (kI (fun v50 m49 => ∃ a51, gR m46 a0 15 = some a51 ∧ ∃ n54, kd m49 a51 = some (aR 0 n54) ∧ vp_in (((8 : Int32) * v50) + v47) n54 ∧ (((gI m49 a51 (((8 : Int32) * v50) + v47).toNatClampNeg) < 0 → kd m49 a0 = some (oB 5) ∧ CC l G xM_tell [vR (some a0), vI (gI m49 a51 (((8 : Int32) * v50) + v47).toNatClampNeg)] m49 (kV (fun m57 => kd m57 a0 = some (oB 5) ∧ Q (.inl (some (vI (gI m57 a0 3)))) m57) Q)) ∧ (¬ (gI m49 a51 (((8 : Int32) * v50) + v47).toNatClampNeg) < 0 → kd m49 a0 = some (oB 5) ∧ ∃ a60, gR m49 a0 12 = some a60 ∧ ∃ n63, kd m49 a60 = some (aR 1 n63) ∧ vp_in (gI m49 a51 (((8 : Int32) * v50) + v47).toNatClampNeg) n63 ∧ ∀ m65, m65 = mI m49 a60 (gI m49 a51 (((8 : Int32) * v50) + v47).toNatClampNeg).toNatClampNeg (1 : Int32) → CC l G xM_tell [vR (some a0), vI (gI m49 a51 (((8 : Int32) * v50) + v47).toNatClampNeg)] m65 (kV (fun m66 => kd m66 a0 = some (oB 5) ∧ Q (.inl (some (vI (gI m66 a0 3)))) m66) Q)))) Q)) ∧ (¬ 0 ≤ v47 → (((-1 : Int32) < 0 → kd m46 a0 = some (oB 5) ∧ CC l G xM_tell [vR (some a0), vI (-1 : Int32)] m46 (kV (fun m70 => kd m70 a0 = some (oB 5) ∧ Q (.inl (some (vI (gI m70 a0 3)))) m70) Q)) ∧ (¬ (-1 : Int32) < 0 → kd m46 a0 = some (oB 5) ∧ ∃ a73, gR m46 a0 12 = some a73 ∧ ∃ n76, kd m46 a73 = some (aR 1 n76) ∧ vp_in (-1 : Int32) n76 ∧ ∀ m78, m78 = mI m46 a73 (-1 : Int32).toNatClampNeg (1 : Int32) → CC l G xM_tell [vR (some a0), vI (-1 : Int32)] m78 (kV (fun m79 => kd m79 a0 = some (oB 5) ∧ Q (.inl (some (vI (gI m79 a0 3)))) m79) Q)))))) Q)))) Q)) ∧ (¬ v6 < 0 → kd m5 a0 = some (oB 5) ∧ ∃ a85, gR m5 a0 10 = some a85 ∧ ∃ n88, kd m5 a85 = some (aR 1 n88) ∧ vp_in v6 n88 ∧ ∀ m90, m90 = mI m5 a85 v6.toNatClampNeg (1 : Int32) → CC l G xM_pageOf [vR (some a0), vI v6] m90 (kI (fun v92 m91 => (((96 : Int32) ≤ v92 → kd m91 a0 = some (oB 5) ∧ CC l G xM_tell [vR (some a0), vI v6] m91 (kV (fun m94 => kd m94 a0 = some (oB 5) ∧ Q (.inl (some (vI (gI m94 a0 3)))) m94) Q)) ∧ (¬ (96 : Int32) ≤ v92 → kd m91 a0 = some (oB 5) ∧ ∃ a97, gR m91 a0 23 = some a97 ∧ ∃ n100, kd m91 a97 = some (aR 0 n100) ∧ vp_in (9 : Int32) n100 ∧ vp_in (9 : Int32) n100 ∧ ∀ m103, m103 = mI m91 a97 (9 : Int32).toNatClampNeg ((gI m91 a97 (9 : Int32).toNatClampNeg) + (1 : Int32)) → CC l G xM_tell [vR (some a0), vI v6] m103 (kV (fun m104 => kd m104 a0 = some (oB 5) ∧ Q (.inl (some (vI (gI m104 a0 3)))) m104) Q)))) Q)))) Q)) ∧ (v3 = 0 → Q (.inl (some (vI (0 : Int32)))) m2))) Q)) :
    CC l G xM_get [vR (some a0), vL x1] m Q := by
  refine x_entry (by decide +kernel) rfl hst (Nat.le_of_ble_eq_true rfl) (L0 := [some (vR (some a0)), some (vL x1), none, none, none]) rfl ?_
  refine x_aload_n dM_get_0 rfl (n := 1) rfl ?_
  obtain ⟨k1, h⟩ := h
  refine x_invV (m := m) rfl dM_get_1 gM_get_1 (as := []) (st := []) rfl rfl k1 rfl rfl (Nat.le_of_ble_eq_true rfl) (n := 4) rfl rfl rfl h (xBk.I fun v3 m2 h => ?_)
  obtain ⟨h, h'⟩ := h
  refine x_if_ne (tgt := 9) dM_get_4 rfl (n := 7) rfl (fun c108 => ?_) (fun c108 => ?_)
  · replace h := h c108
    refine x_aload_n dM_get_9 rfl (n := 10) rfl ?_
    refine x_lload_n dM_get_10 rfl (n := 11) rfl ?_
    obtain ⟨k4, h⟩ := h
    refine x_invV (m := m2) rfl dM_get_11 gM_get_11 (as := [vL x1]) (st := []) rfl rfl k4 rfl rfl (Nat.le_of_ble_eq_true rfl) (n := 14) rfl rfl rfl h (xBk.I fun v6 m5 h => ?_)
    refine x_istore_n dM_get_14 (by decide) (L' := [some (vR (some a0)), some (vL x1), none, some (vI v6), none]) rfl (n := 15) rfl ?_
    refine x_iload_n dM_get_15 rfl (n := 16) rfl ?_
    obtain ⟨h, h'⟩ := h
    refine x_if_lt (tgt := 57) dM_get_16 rfl (n := 19) rfl (fun c107 => ?_) (fun c107 => ?_)
    · replace h := h c107
      refine x_aload_n dM_get_57 rfl (n := 58) rfl ?_
      refine x_lload_n dM_get_58 rfl (n := 59) rfl ?_
      obtain ⟨k7, h⟩ := h
      refine x_invV (m := m5) rfl dM_get_59 gM_get_59 (as := [vL x1]) (st := []) rfl rfl k7 rfl rfl (Nat.le_of_ble_eq_true rfl) (n := 62) rfl rfl rfl h (xBk.I fun v9 m8 h => ?_)
      obtain ⟨h, h'⟩ := h
      refine x_if_eq (tgt := 73) dM_get_62 rfl (n := 65) rfl (fun c83 => ?_) (fun c83 => ?_)
      · replace h := h c83
        refine x_iconst (v := -1) dM_get_73 (by decide) (n := 74) rfl ?_
        refine x_istore dM_get_74 (by decide) (L' := [some (vR (some a0)), some (vL x1), none, some (vI v6), some (vI (-1 : Int32))]) rfl (n := 76) rfl ?_
        refine x_iload dM_get_76 rfl (n := 78) rfl ?_
        obtain ⟨h, h'⟩ := h
        refine x_if_ge (tgt := 85) dM_get_78 rfl (n := 81) rfl (fun c44 => ?_) (fun c44 => ?_)
        · replace h := h c44
          refine x_aload_n dM_get_85 rfl (n := 86) rfl ?_
          obtain ⟨k10, h⟩ := h
          refine x_getR rfl dM_get_86 fM_47 k10 (n := 89) rfl ?_
          refine x_bipush (v := 8) dM_get_89 (by decide) (n := 91) rfl ?_
          refine x_lload_n dM_get_91 rfl (n := 92) rfl ?_
          refine x_invS (m := m8) dM_get_92 gM_get_92 (as := [vL x1]) (st := [vI (8 : Int32), vR (gR m8 a0 15)]) rfl rfl (Nat.le_of_ble_eq_true rfl) (n := 95) rfl rfl rfl h (xBk.I fun v12 m11 h => ?_)
          refine x_imul dM_get_95 (n := 96) rfl ?_
          refine x_iload dM_get_96 rfl (n := 98) rfl ?_
          refine x_iadd dM_get_98 (n := 99) rfl ?_
          obtain ⟨a13, e14, h⟩ := h
          obtain ⟨n16, k15, h⟩ := h
          obtain ⟨c17, h⟩ := h
          refine x_iald e14 dM_get_99 k15 c17 (n := 100) rfl ?_
          refine x_istore_n dM_get_100 (by decide) (L' := [some (vR (some a0)), some (vL x1), none, some (vI (gI m11 a13 (((8 : Int32) * v12) + (-1 : Int32)).toNatClampNeg)), some (vI (-1 : Int32))]) rfl (n := 101) rfl ?_
          refine x_iload_n dM_get_101 rfl (n := 102) rfl ?_
          obtain ⟨h, h'⟩ := h
          refine x_if_lt (tgt := 112) dM_get_102 rfl (n := 105) rfl (fun c30 => ?_) (fun c30 => ?_)
          · replace h := h c30
            refine x_aload_n dM_get_112 rfl (n := 113) rfl ?_
            refine x_iload_n dM_get_113 rfl (n := 114) rfl ?_
            obtain ⟨k18, h⟩ := h
            refine x_invV (m := m11) rfl dM_get_114 gM_get_114 (as := [vI (gI m11 a13 (((8 : Int32) * v12) + (-1 : Int32)).toNatClampNeg)]) (st := []) rfl rfl k18 rfl rfl (Nat.le_of_ble_eq_true rfl) (n := 117) rfl rfl rfl h (xBk.V fun m19 h => ?_)
            refine x_aload_n dM_get_117 rfl (n := 118) rfl ?_
            obtain ⟨k20, h⟩ := h
            refine x_getI rfl dM_get_118 fM_179 k20 (n := 121) rfl ?_
            exact x_iret dM_get_121 rfl h
          · replace h := h' c30
            refine x_aload_n dM_get_105 rfl (n := 106) rfl ?_
            obtain ⟨k21, h⟩ := h
            refine x_getR rfl dM_get_106 fM_41 k21 (n := 109) rfl ?_
            refine x_iload_n dM_get_109 rfl (n := 110) rfl ?_
            refine x_iconst (v := 1) dM_get_110 (by decide) (n := 111) rfl ?_
            obtain ⟨a22, e23, h⟩ := h
            obtain ⟨n25, k24, h⟩ := h
            obtain ⟨c26, h⟩ := h
            replace h := h _ rfl
            refine x_zast e23 dM_get_111 k24 c26 (by decide) (n := 112) rfl ?_
            refine x_aload_n dM_get_112 rfl (n := 113) rfl ?_
            refine x_iload_n dM_get_113 rfl (n := 114) rfl ?_
            refine x_invV (m := (mI m11 a22 (gI m11 a13 (((8 : Int32) * v12) + (-1 : Int32)).toNatClampNeg).toNatClampNeg (1 : Int32))) rfl dM_get_114 gM_get_114 (as := [vI (gI m11 a13 (((8 : Int32) * v12) + (-1 : Int32)).toNatClampNeg)]) (st := []) rfl rfl k21 rfl rfl (Nat.le_of_ble_eq_true rfl) (n := 117) rfl rfl rfl h (xBk.V fun m28 h => ?_)
            refine x_aload_n dM_get_117 rfl (n := 118) rfl ?_
            obtain ⟨k29, h⟩ := h
            refine x_getI rfl dM_get_118 fM_179 k29 (n := 121) rfl ?_
            exact x_iret dM_get_121 rfl h
        · replace h := h' c44
          refine x_iconst (v := -1) dM_get_81 (by decide) (n := 82) rfl ?_
          refine x_goto (tgt := 100) dM_get_82 rfl ?_
          refine x_istore_n dM_get_100 (by decide) (L' := [some (vR (some a0)), some (vL x1), none, some (vI (-1 : Int32)), some (vI (-1 : Int32))]) rfl (n := 101) rfl ?_
          refine x_iload_n dM_get_101 rfl (n := 102) rfl ?_
          obtain ⟨h, h'⟩ := h
          refine x_if_lt (tgt := 112) dM_get_102 rfl (n := 105) rfl (fun c43 => ?_) (fun c43 => ?_)
          · replace h := h c43
            refine x_aload_n dM_get_112 rfl (n := 113) rfl ?_
            refine x_iload_n dM_get_113 rfl (n := 114) rfl ?_
            obtain ⟨k31, h⟩ := h
            refine x_invV (m := m8) rfl dM_get_114 gM_get_114 (as := [vI (-1 : Int32)]) (st := []) rfl rfl k31 rfl rfl (Nat.le_of_ble_eq_true rfl) (n := 117) rfl rfl rfl h (xBk.V fun m32 h => ?_)
            refine x_aload_n dM_get_117 rfl (n := 118) rfl ?_
            obtain ⟨k33, h⟩ := h
            refine x_getI rfl dM_get_118 fM_179 k33 (n := 121) rfl ?_
            exact x_iret dM_get_121 rfl h
          · replace h := h' c43
            refine x_aload_n dM_get_105 rfl (n := 106) rfl ?_
            obtain ⟨k34, h⟩ := h
            refine x_getR rfl dM_get_106 fM_41 k34 (n := 109) rfl ?_
            refine x_iload_n dM_get_109 rfl (n := 110) rfl ?_
            refine x_iconst (v := 1) dM_get_110 (by decide) (n := 111) rfl ?_
            obtain ⟨a35, e36, h⟩ := h
            obtain ⟨n38, k37, h⟩ := h
            obtain ⟨c39, h⟩ := h
            replace h := h _ rfl
            refine x_zast e36 dM_get_111 k37 c39 (by decide) (n := 112) rfl ?_
            refine x_aload_n dM_get_112 rfl (n := 113) rfl ?_
            refine x_iload_n dM_get_113 rfl (n := 114) rfl ?_
            refine x_invV (m := (mI m8 a35 (-1 : Int32).toNatClampNeg (1 : Int32))) rfl dM_get_114 gM_get_114 (as := [vI (-1 : Int32)]) (st := []) rfl rfl k34 rfl rfl (Nat.le_of_ble_eq_true rfl) (n := 117) rfl rfl rfl h (xBk.V fun m41 h => ?_)
            refine x_aload_n dM_get_117 rfl (n := 118) rfl ?_
            obtain ⟨k42, h⟩ := h
            refine x_getI rfl dM_get_118 fM_179 k42 (n := 121) rfl ?_
            exact x_iret dM_get_121 rfl h
      · replace h := h' c83
        refine x_aload_n dM_get_65 rfl (n := 66) rfl ?_
        refine x_lload_n dM_get_66 rfl (n := 67) rfl ?_
        obtain ⟨k45, h⟩ := h
        refine x_invV (m := m8) rfl dM_get_67 gM_get_67 (as := [vL x1]) (st := []) rfl rfl k45 rfl rfl (Nat.le_of_ble_eq_true rfl) (n := 70) rfl rfl rfl h (xBk.I fun v47 m46 h => ?_)
        refine x_goto (tgt := 74) dM_get_70 rfl ?_
        refine x_istore dM_get_74 (by decide) (L' := [some (vR (some a0)), some (vL x1), none, some (vI v6), some (vI v47)]) rfl (n := 76) rfl ?_
        refine x_iload dM_get_76 rfl (n := 78) rfl ?_
        obtain ⟨h, h'⟩ := h
        refine x_if_ge (tgt := 85) dM_get_78 rfl (n := 81) rfl (fun c82 => ?_) (fun c82 => ?_)
        · replace h := h c82
          refine x_aload_n dM_get_85 rfl (n := 86) rfl ?_
          obtain ⟨k48, h⟩ := h
          refine x_getR rfl dM_get_86 fM_47 k48 (n := 89) rfl ?_
          refine x_bipush (v := 8) dM_get_89 (by decide) (n := 91) rfl ?_
          refine x_lload_n dM_get_91 rfl (n := 92) rfl ?_
          refine x_invS (m := m46) dM_get_92 gM_get_92 (as := [vL x1]) (st := [vI (8 : Int32), vR (gR m46 a0 15)]) rfl rfl (Nat.le_of_ble_eq_true rfl) (n := 95) rfl rfl rfl h (xBk.I fun v50 m49 h => ?_)
          refine x_imul dM_get_95 (n := 96) rfl ?_
          refine x_iload dM_get_96 rfl (n := 98) rfl ?_
          refine x_iadd dM_get_98 (n := 99) rfl ?_
          obtain ⟨a51, e52, h⟩ := h
          obtain ⟨n54, k53, h⟩ := h
          obtain ⟨c55, h⟩ := h
          refine x_iald e52 dM_get_99 k53 c55 (n := 100) rfl ?_
          refine x_istore_n dM_get_100 (by decide) (L' := [some (vR (some a0)), some (vL x1), none, some (vI (gI m49 a51 (((8 : Int32) * v50) + v47).toNatClampNeg)), some (vI v47)]) rfl (n := 101) rfl ?_
          refine x_iload_n dM_get_101 rfl (n := 102) rfl ?_
          obtain ⟨h, h'⟩ := h
          refine x_if_lt (tgt := 112) dM_get_102 rfl (n := 105) rfl (fun c68 => ?_) (fun c68 => ?_)
          · replace h := h c68
            refine x_aload_n dM_get_112 rfl (n := 113) rfl ?_
            refine x_iload_n dM_get_113 rfl (n := 114) rfl ?_
            obtain ⟨k56, h⟩ := h
            refine x_invV (m := m49) rfl dM_get_114 gM_get_114 (as := [vI (gI m49 a51 (((8 : Int32) * v50) + v47).toNatClampNeg)]) (st := []) rfl rfl k56 rfl rfl (Nat.le_of_ble_eq_true rfl) (n := 117) rfl rfl rfl h (xBk.V fun m57 h => ?_)
            refine x_aload_n dM_get_117 rfl (n := 118) rfl ?_
            obtain ⟨k58, h⟩ := h
            refine x_getI rfl dM_get_118 fM_179 k58 (n := 121) rfl ?_
            exact x_iret dM_get_121 rfl h
          · replace h := h' c68
            refine x_aload_n dM_get_105 rfl (n := 106) rfl ?_
            obtain ⟨k59, h⟩ := h
            refine x_getR rfl dM_get_106 fM_41 k59 (n := 109) rfl ?_
            refine x_iload_n dM_get_109 rfl (n := 110) rfl ?_
            refine x_iconst (v := 1) dM_get_110 (by decide) (n := 111) rfl ?_
            obtain ⟨a60, e61, h⟩ := h
            obtain ⟨n63, k62, h⟩ := h
            obtain ⟨c64, h⟩ := h
            replace h := h _ rfl
            refine x_zast e61 dM_get_111 k62 c64 (by decide) (n := 112) rfl ?_
            refine x_aload_n dM_get_112 rfl (n := 113) rfl ?_
            refine x_iload_n dM_get_113 rfl (n := 114) rfl ?_
            refine x_invV (m := (mI m49 a60 (gI m49 a51 (((8 : Int32) * v50) + v47).toNatClampNeg).toNatClampNeg (1 : Int32))) rfl dM_get_114 gM_get_114 (as := [vI (gI m49 a51 (((8 : Int32) * v50) + v47).toNatClampNeg)]) (st := []) rfl rfl k59 rfl rfl (Nat.le_of_ble_eq_true rfl) (n := 117) rfl rfl rfl h (xBk.V fun m66 h => ?_)
            refine x_aload_n dM_get_117 rfl (n := 118) rfl ?_
            obtain ⟨k67, h⟩ := h
            refine x_getI rfl dM_get_118 fM_179 k67 (n := 121) rfl ?_
            exact x_iret dM_get_121 rfl h
        · replace h := h' c82
          refine x_iconst (v := -1) dM_get_81 (by decide) (n := 82) rfl ?_
          refine x_goto (tgt := 100) dM_get_82 rfl ?_
          refine x_istore_n dM_get_100 (by decide) (L' := [some (vR (some a0)), some (vL x1), none, some (vI (-1 : Int32)), some (vI v47)]) rfl (n := 101) rfl ?_
          refine x_iload_n dM_get_101 rfl (n := 102) rfl ?_
          obtain ⟨h, h'⟩ := h
          refine x_if_lt (tgt := 112) dM_get_102 rfl (n := 105) rfl (fun c81 => ?_) (fun c81 => ?_)
          · replace h := h c81
            refine x_aload_n dM_get_112 rfl (n := 113) rfl ?_
            refine x_iload_n dM_get_113 rfl (n := 114) rfl ?_
            obtain ⟨k69, h⟩ := h
            refine x_invV (m := m46) rfl dM_get_114 gM_get_114 (as := [vI (-1 : Int32)]) (st := []) rfl rfl k69 rfl rfl (Nat.le_of_ble_eq_true rfl) (n := 117) rfl rfl rfl h (xBk.V fun m70 h => ?_)
            refine x_aload_n dM_get_117 rfl (n := 118) rfl ?_
            obtain ⟨k71, h⟩ := h
            refine x_getI rfl dM_get_118 fM_179 k71 (n := 121) rfl ?_
            exact x_iret dM_get_121 rfl h
          · replace h := h' c81
            refine x_aload_n dM_get_105 rfl (n := 106) rfl ?_
            obtain ⟨k72, h⟩ := h
            refine x_getR rfl dM_get_106 fM_41 k72 (n := 109) rfl ?_
            refine x_iload_n dM_get_109 rfl (n := 110) rfl ?_
            refine x_iconst (v := 1) dM_get_110 (by decide) (n := 111) rfl ?_
            obtain ⟨a73, e74, h⟩ := h
            obtain ⟨n76, k75, h⟩ := h
            obtain ⟨c77, h⟩ := h
            replace h := h _ rfl
            refine x_zast e74 dM_get_111 k75 c77 (by decide) (n := 112) rfl ?_
            refine x_aload_n dM_get_112 rfl (n := 113) rfl ?_
            refine x_iload_n dM_get_113 rfl (n := 114) rfl ?_
            refine x_invV (m := (mI m46 a73 (-1 : Int32).toNatClampNeg (1 : Int32))) rfl dM_get_114 gM_get_114 (as := [vI (-1 : Int32)]) (st := []) rfl rfl k72 rfl rfl (Nat.le_of_ble_eq_true rfl) (n := 117) rfl rfl rfl h (xBk.V fun m79 h => ?_)
            refine x_aload_n dM_get_117 rfl (n := 118) rfl ?_
            obtain ⟨k80, h⟩ := h
            refine x_getI rfl dM_get_118 fM_179 k80 (n := 121) rfl ?_
            exact x_iret dM_get_121 rfl h
    · replace h := h' c107
      refine x_aload_n dM_get_19 rfl (n := 20) rfl ?_
      obtain ⟨k84, h⟩ := h
      refine x_getR rfl dM_get_20 fM_35 k84 (n := 23) rfl ?_
      refine x_iload_n dM_get_23 rfl (n := 24) rfl ?_
      refine x_iconst (v := 1) dM_get_24 (by decide) (n := 25) rfl ?_
      obtain ⟨a85, e86, h⟩ := h
      obtain ⟨n88, k87, h⟩ := h
      obtain ⟨c89, h⟩ := h
      replace h := h _ rfl
      refine x_zast e86 dM_get_25 k87 c89 (by decide) (n := 26) rfl ?_
      refine x_aload_n dM_get_26 rfl (n := 27) rfl ?_
      refine x_iload_n dM_get_27 rfl (n := 28) rfl ?_
      refine x_invV (m := (mI m5 a85 v6.toNatClampNeg (1 : Int32))) rfl dM_get_28 gM_get_28 (as := [vI v6]) (st := []) rfl rfl k84 rfl rfl (Nat.le_of_ble_eq_true rfl) (n := 31) rfl rfl rfl h (xBk.I fun v92 m91 h => ?_)
      refine x_bipush (v := 96) dM_get_31 (by decide) (n := 33) rfl ?_
      obtain ⟨h, h'⟩ := h
      refine x_icmp_ge (tgt := 47) dM_get_33 rfl (n := 36) rfl (fun c106 => ?_) (fun c106 => ?_)
      · replace h := h c106
        refine x_aload_n dM_get_47 rfl (n := 48) rfl ?_
        refine x_iload_n dM_get_48 rfl (n := 49) rfl ?_
        obtain ⟨k93, h⟩ := h
        refine x_invV (m := m91) rfl dM_get_49 gM_get_49 (as := [vI v6]) (st := []) rfl rfl k93 rfl rfl (Nat.le_of_ble_eq_true rfl) (n := 52) rfl rfl rfl h (xBk.V fun m94 h => ?_)
        refine x_aload_n dM_get_52 rfl (n := 53) rfl ?_
        obtain ⟨k95, h⟩ := h
        refine x_getI rfl dM_get_53 fM_179 k95 (n := 56) rfl ?_
        exact x_iret dM_get_56 rfl h
      · replace h := h' c106
        refine x_aload_n dM_get_36 rfl (n := 37) rfl ?_
        obtain ⟨k96, h⟩ := h
        refine x_getR rfl dM_get_37 fM_62 k96 (n := 40) rfl ?_
        refine x_bipush (v := 9) dM_get_40 (by decide) (n := 42) rfl ?_
        refine x_dup2 dM_get_42 rfl rfl (n := 43) rfl ?_
        obtain ⟨a97, e98, h⟩ := h
        obtain ⟨n100, k99, h⟩ := h
        obtain ⟨c101, h⟩ := h
        refine x_iald e98 dM_get_43 k99 c101 (n := 44) rfl ?_
        refine x_iconst (v := 1) dM_get_44 (by decide) (n := 45) rfl ?_
        refine x_iadd dM_get_45 (n := 46) rfl ?_
        obtain ⟨c102, h⟩ := h
        replace h := h _ rfl
        refine x_iast e98 dM_get_46 k99 c102 (n := 47) rfl ?_
        refine x_aload_n dM_get_47 rfl (n := 48) rfl ?_
        refine x_iload_n dM_get_48 rfl (n := 49) rfl ?_
        refine x_invV (m := (mI m91 a97 (9 : Int32).toNatClampNeg ((gI m91 a97 (9 : Int32).toNatClampNeg) + (1 : Int32)))) rfl dM_get_49 gM_get_49 (as := [vI v6]) (st := []) rfl rfl k96 rfl rfl (Nat.le_of_ble_eq_true rfl) (n := 52) rfl rfl rfl h (xBk.V fun m104 h => ?_)
        refine x_aload_n dM_get_52 rfl (n := 53) rfl ?_
        obtain ⟨k105, h⟩ := h
        refine x_getI rfl dM_get_53 fM_179 k105 (n := 56) rfl ?_
        exact x_iret dM_get_56 rfl h
  · replace h := h' c108
    refine x_iconst (v := 0) dM_get_7 (by decide) (n := 8) rfl ?_
    exact x_iret dM_get_8 rfl h
